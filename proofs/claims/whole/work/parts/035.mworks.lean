theorem q7_46 : Cond.fieldLink RX12 337 "TurningHallModel" "held" "[J" ∈ lw_all := lw_in (tc_7 (List.mem_of_getElem? (i := 46) rfl)) rfl
theorem q7_47 : Cond.fieldLink RX12 340 "TurningHallModel" "height" "I" ∈ lw_all := lw_in (tc_7 (List.mem_of_getElem? (i := 47) rfl)) rfl
theorem q7_49 : Cond.fieldLink RX12 346 "TurningHallModel" "jam" "I" ∈ lw_all := lw_in (tc_7 (List.mem_of_getElem? (i := 49) rfl)) rfl
theorem q7_50 : Cond.fieldLink RX12 349 "TurningHallModel" "jamSpot" "I" ∈ lw_all := lw_in (tc_7 (List.mem_of_getElem? (i := 50) rfl)) rfl
theorem q9_125 : Cond.constantLong RX12 694 (-1) ∈ lw_all := lw_in (tc_9 (List.mem_of_getElem? (i := 125) rfl)) rfl
theorem q9_110 : Cond.methodLink RX12 663 yX12_jams ∈ lw_all := lw_in (tc_9 (List.mem_of_getElem? (i := 110) rfl)) rfl
theorem q9_112 : Cond.instanceMethod yX12_jams ∈ lw_all := lw_in (tc_9 (List.mem_of_getElem? (i := 112) rfl)) rfl
theorem q0_117 : Cond.selects RX12 yX12_jams yX12_jams ∈ lw_all := lw_in (tc_0 (List.mem_of_getElem? (i := 117) rfl)) rfl
theorem q9_113 : Cond.code yX12_jams cX12_jams 3 (some .boolean) ∈ lw_all := lw_in (tc_9 (List.mem_of_getElem? (i := 113) rfl)) rfl
theorem q9_114 : Cond.methodLink RX12 691 yX12_reckoned ∈ lw_all := lw_in (tc_9 (List.mem_of_getElem? (i := 114) rfl)) rfl
theorem q9_116 : Cond.instanceMethod yX12_reckoned ∈ lw_all := lw_in (tc_9 (List.mem_of_getElem? (i := 116) rfl)) rfl
theorem q0_118 : Cond.selects RX12 yX12_reckoned yX12_reckoned ∈ lw_all := lw_in (tc_0 (List.mem_of_getElem? (i := 118) rfl)) rfl
theorem q9_117 : Cond.code yX12_reckoned cX12_reckoned 15 (some .long) ∈ lw_all := lw_in (tc_9 (List.mem_of_getElem? (i := 117) rfl)) rfl
theorem q9_107 : Cond.methodLink RX12 687 yX12_isZero ∈ lw_all := lw_in (tc_9 (List.mem_of_getElem? (i := 107) rfl)) rfl
theorem q9_108 : Cond.static yX12_isZero ∈ lw_all := lw_in (tc_9 (List.mem_of_getElem? (i := 108) rfl)) rfl
theorem q9_109 : Cond.code yX12_isZero cX12_isZero 3 (some .boolean) ∈ lw_all := lw_in (tc_9 (List.mem_of_getElem? (i := 109) rfl)) rfl
theorem q9_130 : Cond.methodLink RX12 683 yX12_order ∈ lw_all := lw_in (tc_9 (List.mem_of_getElem? (i := 130) rfl)) rfl
theorem q9_131 : Cond.static yX12_order ∈ lw_all := lw_in (tc_9 (List.mem_of_getElem? (i := 131) rfl)) rfl
theorem q9_132 : Cond.code yX12_order cX12_order 8 (some .int) ∈ lw_all := lw_in (tc_9 (List.mem_of_getElem? (i := 132) rfl)) rfl
theorem q9_96 : Cond.methodLink RX12 672 yX12_ofTwo ∈ lw_all := lw_in (tc_9 (List.mem_of_getElem? (i := 96) rfl)) rfl
theorem q9_98 : Cond.instanceMethod yX12_ofTwo ∈ lw_all := lw_in (tc_9 (List.mem_of_getElem? (i := 98) rfl)) rfl
theorem q0_115 : Cond.selects RX12 yX12_ofTwo yX12_ofTwo ∈ lw_all := lw_in (tc_0 (List.mem_of_getElem? (i := 115) rfl)) rfl
theorem q9_99 : Cond.code yX12_ofTwo cX12_ofTwo 11 (some .long) ∈ lw_all := lw_in (tc_9 (List.mem_of_getElem? (i := 99) rfl)) rfl
theorem q9_103 : Cond.methodLink RX12 676 yX12_counts ∈ lw_all := lw_in (tc_9 (List.mem_of_getElem? (i := 103) rfl)) rfl
theorem q9_105 : Cond.instanceMethod yX12_counts ∈ lw_all := lw_in (tc_9 (List.mem_of_getElem? (i := 105) rfl)) rfl
theorem q0_116 : Cond.selects RX12 yX12_counts yX12_counts ∈ lw_all := lw_in (tc_0 (List.mem_of_getElem? (i := 116) rfl)) rfl
theorem q9_106 : Cond.code yX12_counts cX12_counts 11 (some .boolean) ∈ lw_all := lw_in (tc_9 (List.mem_of_getElem? (i := 106) rfl)) rfl
theorem q9_126 : Cond.methodLink RX12 679 yX12_holds ∈ lw_all := lw_in (tc_9 (List.mem_of_getElem? (i := 126) rfl)) rfl
theorem q9_128 : Cond.instanceMethod yX12_holds ∈ lw_all := lw_in (tc_9 (List.mem_of_getElem? (i := 128) rfl)) rfl
theorem q0_119 : Cond.selects RX12 yX12_holds yX12_holds ∈ lw_all := lw_in (tc_0 (List.mem_of_getElem? (i := 119) rfl)) rfl
theorem q9_129 : Cond.code yX12_holds cX12_holds 8 (some .boolean) ∈ lw_all := lw_in (tc_9 (List.mem_of_getElem? (i := 129) rfl)) rfl
theorem q9_85 : Cond.methodLink RX12 669 yX12_common ∈ lw_all := lw_in (tc_9 (List.mem_of_getElem? (i := 85) rfl)) rfl
theorem q9_87 : Cond.instanceMethod yX12_common ∈ lw_all := lw_in (tc_9 (List.mem_of_getElem? (i := 87) rfl)) rfl
theorem q0_113 : Cond.selects RX12 yX12_common yX12_common ∈ lw_all := lw_in (tc_0 (List.mem_of_getElem? (i := 113) rfl)) rfl
theorem q9_88 : Cond.code yX12_common cX12_common 11 (some .long) ∈ lw_all := lw_in (tc_9 (List.mem_of_getElem? (i := 88) rfl)) rfl
theorem q6_212 : Cond.fieldLink RX12 110 "TurningHallModel" "constant" "[J" ∈ lw_all := lw_in (tc_6 (List.mem_of_getElem? (i := 212) rfl)) rfl
theorem q9_77 : Cond.methodLink RX12 656 yX12_hold ∈ lw_all := lw_in (tc_9 (List.mem_of_getElem? (i := 77) rfl)) rfl
theorem q9_79 : Cond.instanceMethod yX12_hold ∈ lw_all := lw_in (tc_9 (List.mem_of_getElem? (i := 79) rfl)) rfl
theorem q0_111 : Cond.selects RX12 yX12_hold yX12_hold ∈ lw_all := lw_in (tc_0 (List.mem_of_getElem? (i := 111) rfl)) rfl
theorem q9_80 : Cond.code yX12_hold cX12_hold 3 none ∈ lw_all := lw_in (tc_9 (List.mem_of_getElem? (i := 80) rfl)) rfl
theorem q7_41 : Cond.fieldLink RX12 319 "TurningHallModel" "ticks" "J" ∈ lw_all := lw_in (tc_7 (List.mem_of_getElem? (i := 41) rfl)) rfl
theorem q7_45 : Cond.fieldLink RX12 334 "TurningHallModel" "stepBits" "J" ∈ lw_all := lw_in (tc_7 (List.mem_of_getElem? (i := 45) rfl)) rfl
theorem q7_34 : Cond.fieldLink RX12 298 "TurningHallModel" "now" "[J" ∈ lw_all := lw_in (tc_7 (List.mem_of_getElem? (i := 34) rfl)) rfl
theorem q7_35 : Cond.fieldLink RX12 301 "TurningHallModel" "old" "[J" ∈ lw_all := lw_in (tc_7 (List.mem_of_getElem? (i := 35) rfl)) rfl
theorem q7_32 : Cond.fieldLink RX12 292 "TurningHallModel" "camMost" "[I" ∈ lw_all := lw_in (tc_7 (List.mem_of_getElem? (i := 32) rfl)) rfl
theorem q7_33 : Cond.fieldLink RX12 295 "TurningHallModel" "camEntry" "[J" ∈ lw_all := lw_in (tc_7 (List.mem_of_getElem? (i := 33) rfl)) rfl
theorem q9_133 : Cond.constant RX12 665 (-2147483648) ∈ lw_all := lw_in (tc_9 (List.mem_of_getElem? (i := 133) rfl)) rfl
theorem q9_134 : Cond.methodLink RX12 666 yX12_evened ∈ lw_all := lw_in (tc_9 (List.mem_of_getElem? (i := 134) rfl)) rfl
theorem q9_136 : Cond.instanceMethod yX12_evened ∈ lw_all := lw_in (tc_9 (List.mem_of_getElem? (i := 136) rfl)) rfl
theorem q0_120 : Cond.selects RX12 yX12_evened yX12_evened ∈ lw_all := lw_in (tc_0 (List.mem_of_getElem? (i := 120) rfl)) rfl
theorem q9_137 : Cond.code yX12_evened cX12_evened 13 (some .long) ∈ lw_all := lw_in (tc_9 (List.mem_of_getElem? (i := 137) rfl)) rfl
theorem q9_81 : Cond.methodLink RX12 660 yX12_joins ∈ lw_all := lw_in (tc_9 (List.mem_of_getElem? (i := 81) rfl)) rfl
theorem q9_83 : Cond.instanceMethod yX12_joins ∈ lw_all := lw_in (tc_9 (List.mem_of_getElem? (i := 83) rfl)) rfl
theorem q0_112 : Cond.selects RX12 yX12_joins yX12_joins ∈ lw_all := lw_in (tc_0 (List.mem_of_getElem? (i := 112) rfl)) rfl
theorem q9_84 : Cond.code yX12_joins cX12_joins 12 (some .boolean) ∈ lw_all := lw_in (tc_9 (List.mem_of_getElem? (i := 84) rfl)) rfl
theorem q7_48 : Cond.fieldLink RX12 343 "TurningHallModel" "value" "J" ∈ lw_all := lw_in (tc_7 (List.mem_of_getElem? (i := 48) rfl)) rfl
theorem q9_73 : Cond.methodLink RX12 653 yX12_done ∈ lw_all := lw_in (tc_9 (List.mem_of_getElem? (i := 73) rfl)) rfl
theorem q9_75 : Cond.instanceMethod yX12_done ∈ lw_all := lw_in (tc_9 (List.mem_of_getElem? (i := 75) rfl)) rfl
theorem q0_110 : Cond.selects RX12 yX12_done yX12_done ∈ lw_all := lw_in (tc_0 (List.mem_of_getElem? (i := 110) rfl)) rfl
theorem q9_76 : Cond.code yX12_done cX12_done 6 (some .boolean) ∈ lw_all := lw_in (tc_9 (List.mem_of_getElem? (i := 76) rfl)) rfl
theorem q7_37 : Cond.fieldLink RX12 307 "TurningHallModel" "jams" "[I" ∈ lw_all := lw_in (tc_7 (List.mem_of_getElem? (i := 37) rfl)) rfl
theorem q9_142 : Cond.constant RX12 652 (2147483647) ∈ lw_all := lw_in (tc_9 (List.mem_of_getElem? (i := 142) rfl)) rfl
theorem q7_38 : Cond.fieldLink RX12 310 "TurningHallModel" "jamKind" "[I" ∈ lw_all := lw_in (tc_7 (List.mem_of_getElem? (i := 38) rfl)) rfl
theorem q7_39 : Cond.fieldLink RX12 313 "TurningHallModel" "jamAt" "[I" ∈ lw_all := lw_in (tc_7 (List.mem_of_getElem? (i := 39) rfl)) rfl
/-! ### X12_hold -/
theorem dX12_hold_0 : decode cX12_hold 0 = .ok (.aload_n 0, 1) := by decide +kernel
theorem dX12_hold_1 : decode cX12_hold 1 = .ok (.getfield 337, 3) := by decide +kernel
theorem dX12_hold_4 : decode cX12_hold 4 = .ok (.aload_n 0, 1) := by decide +kernel
theorem dX12_hold_5 : decode cX12_hold 5 = .ok (.getfield 340, 3) := by decide +kernel
theorem dX12_hold_8 : decode cX12_hold 8 = .ok (.lload_n 1, 1) := by decide +kernel
theorem dX12_hold_9 : decode cX12_hold 9 = .ok (.lastore, 1) := by decide +kernel
theorem dX12_hold_10 : decode cX12_hold 10 = .ok (.aload_n 0, 1) := by decide +kernel
theorem dX12_hold_11 : decode cX12_hold 11 = .ok (.dup, 1) := by decide +kernel
theorem dX12_hold_12 : decode cX12_hold 12 = .ok (.getfield 340, 3) := by decide +kernel
theorem dX12_hold_15 : decode cX12_hold 15 = .ok (.iconst 1, 1) := by decide +kernel
theorem dX12_hold_16 : decode cX12_hold 16 = .ok (.iadd, 1) := by decide +kernel
theorem dX12_hold_17 : decode cX12_hold 17 = .ok (.putfield 340, 3) := by decide +kernel
theorem dX12_hold_20 : decode cX12_hold 20 = .ok (.return_, 1) := by decide +kernel
abbrev R_X12_hold : Room := ({ frames := 0, cells := 0, slots := 0, locals := 0 } : Room)
def f_X12_hold (gT : Gs) (x0 : Int64) : Option (Gs) :=
  grd (inB (gI gT 93) 400) (some (sI (sLA gT 92 (vp_updL (gLA gT 92) (gI gT 93).toNatClampNeg x0)) 93 ((gI gT 93) + (1 : Int32))))
set_option maxHeartbeats 4000000 in
set_option maxRecDepth 100000 in
theorem c_X12_hold (l : Launch) (D : Dx) (hT : Nat) (aT : Nat → Nat) (yT : Nat → ClassId) (gT : Gs) (x0 : Int64) (q : Gs) (hF : f_X12_hold gT x0 = some q) (sz : Nat) : Met l yX12_hold (ws_ yX12_hold cX12_hold 3 none) R_X12_hold (PC D (tX12 yT) [.ref hT, .long x0] (wX12 hT aT yT gT) sz) (QV D (va_A (wX12 hT aT yT gT) sz) (wX12 hT aT yT q)) 0 0 (va_A (wX12 hT aT yT gT) sz) := by
  refine Met.ofW (cc := cX12_hold) (maxL := 3) (ret := none) (by decide) rfl ?_
  intro p e s m args below meth c s₁ B hml hv
  obtain ⟨rfl, hsz, hP, hK, hD, hN⟩ := hv
  subst hsz
  have C : Cx p s m _ meth c cX12_hold none 3 RX12 lw_all := Cx_of B hml
  have X := Hx_start hP hK hD hN
  obtain ⟨hx, hb, hr, -, hown, hts, hlk⟩ := id C
  generalize va_A (wX12 hT aT yT gT) s.heap.size = A at X ⊢
  have hl := lv_entry ([.ref hT, .long x0]) (n := 3) (Nat.le_of_ble_eq_true rfl)
  rw [lg_entry_eq]
  generalize (lg_sl ([.ref hT, .long x0]) ++ List.replicate (3 - (lg_sl ([.ref hT, .long x0])).length) Slot.unset).toArray = ls at hl ⊢
  have hl : lv_has ls 3 [(0, .ref hT), (1, .long x0)] := hl
  unfold f_X12_hold at hF
  refine lv_aload_n hx hb dX12_hold_0 rfl (lv_at hl 0 rfl) ?_
  refine va_get (D := D.1) (ci := 12) (v := .ref (aT 92)) (C := RX12) (T := TX12) (N := 114) hx hb hts wi_X12 hown X.1 X.2.1 0 rfl rfl 92 (by decide) (hts _ q7_46) (fun _ h9 => h9) (fl_get (by decide)) dX12_hold_1 ?_
  refine lv_aload_n hx hb dX12_hold_4 rfl (lv_at hl 0 rfl) ?_
  refine va_get (D := D.1) (ci := 12) (v := .int (gI gT 93)) (C := RX12) (T := TX12) (N := 114) hx hb hts wi_X12 hown X.1 X.2.1 0 rfl rfl 93 (by decide) (hts _ q7_47) (fun _ h9 => h9) (fl_get (by decide)) dX12_hold_5 ?_
  refine lv_lload_n hx hb dX12_hold_8 rfl (lv_at hl 1 rfl) ?_
  obtain ⟨h_1, hF⟩ := grd_some hF
  refine va_last (D := D.1) (f := gLA gT 92) hx hb X.1 X.2.1 X.2.2.1 X.2.2.2.1 63 62 rfl rfl (inB_ok h_1) dX12_hold_9 (fun H locs hP hD hS => ?_)
  have X : Hx D (tX12 yT) A s H locs (wX12 hT aT yT (sLA gT 92 (vp_updL (gLA gT 92) (gI gT 93).toNatClampNeg x0))) := Hx_set X (wG_sLA (i := 62) (k := 92) ndX12 rfl rfl) hP hD hS
  refine lv_aload_n hx hb dX12_hold_10 rfl (lv_at hl 0 rfl) ?_
  refine lv_dup hx hb dX12_hold_11 rfl ?_
  refine va_get (D := D.1) (ci := 12) (v := .int (gI gT 93)) (C := RX12) (T := TX12) (N := 114) hx hb hts wi_X12 hown X.1 X.2.1 0 rfl rfl 93 (by decide) (hts _ q7_47) (fun _ h9 => h9) (fl_get (by decide)) dX12_hold_12 ?_
  refine lv_iconst (v := (1 : Int32)) hx hb dX12_hold_15 (by decide) ?_
  refine lv_iadd hx hb dX12_hold_16 ?_
  refine va_put (D := D.1) (ci := 12) (v := .int ((gI gT 93) + (1 : Int32))) (ty := .int) (C := RX12) (T := TX12) (N := 114) hx hb hts wi_X12 tyX12 tyX12_ok nmX12 hown X.1 X.2.1 X.2.2.1 X.2.2.2.1 0 rfl rfl 93 (by decide) (hts _ q7_47) (fun _ h9 => h9) rfl (by decide +kernel) rfl rfl (by rw [List.length_map, List.length_range]; decide) dX12_hold_17 (fun H locs hP hD hS => ?_)
  have X : Hx D (tX12 yT) A s H locs (wX12 hT aT yT (sI (sLA gT 92 (vp_updL (gLA gT 92) (gI gT 93).toNatClampNeg x0)) 93 ((gI gT 93) + (1 : Int32)))) := Hx_set X (wG_sI (k := 93) rfl) hP hD hS
  have hq := Option.some.inj hF
  subst hq
  exact rt_v C X dX12_hold_20

/-! ### X12_ofTwo -/
theorem dX12_ofTwo_0 : decode cX12_ofTwo 0 = .ok (.iload 6, 2) := by decide +kernel
theorem dX12_ofTwo_2 : decode cX12_ofTwo 2 = .ok (.invokestatic 462, 3) := by decide +kernel
theorem dX12_ofTwo_5 : decode cX12_ofTwo 5 = .ok (.ifCond .eq 18, 3) := by decide +kernel
theorem dX12_ofTwo_8 : decode cX12_ofTwo 8 = .ok (.aload_n 0, 1) := by decide +kernel
theorem dX12_ofTwo_9 : decode cX12_ofTwo 9 = .ok (.lload_n 2, 1) := by decide +kernel
theorem dX12_ofTwo_10 : decode cX12_ofTwo 10 = .ok (.iload 6, 2) := by decide +kernel
theorem dX12_ofTwo_12 : decode cX12_ofTwo 12 = .ok (.bipush 7, 2) := by decide +kernel
theorem dX12_ofTwo_14 : decode cX12_ofTwo 14 = .ok (.invokevirtual 488, 3) := by decide +kernel
theorem dX12_ofTwo_17 : decode cX12_ofTwo 17 = .ok (.invokestatic 485, 3) := by decide +kernel
theorem dX12_ofTwo_20 : decode cX12_ofTwo 20 = .ok (.goto 4, 3) := by decide +kernel
theorem dX12_ofTwo_23 : decode cX12_ofTwo 23 = .ok (.lload_n 2, 1) := by decide +kernel
theorem dX12_ofTwo_24 : decode cX12_ofTwo 24 = .ok (.lstore 7, 2) := by decide +kernel
theorem dX12_ofTwo_26 : decode cX12_ofTwo 26 = .ok (.iload 6, 2) := by decide +kernel
theorem dX12_ofTwo_28 : decode cX12_ofTwo 28 = .ok (.invokestatic 462, 3) := by decide +kernel
theorem dX12_ofTwo_31 : decode cX12_ofTwo 31 = .ok (.ifCond .eq 19, 3) := by decide +kernel
theorem dX12_ofTwo_34 : decode cX12_ofTwo 34 = .ok (.aload_n 0, 1) := by decide +kernel
theorem dX12_ofTwo_35 : decode cX12_ofTwo 35 = .ok (.lload 4, 2) := by decide +kernel
theorem dX12_ofTwo_37 : decode cX12_ofTwo 37 = .ok (.iload 6, 2) := by decide +kernel
theorem dX12_ofTwo_39 : decode cX12_ofTwo 39 = .ok (.bipush 7, 2) := by decide +kernel
theorem dX12_ofTwo_41 : decode cX12_ofTwo 41 = .ok (.invokevirtual 488, 3) := by decide +kernel
theorem dX12_ofTwo_44 : decode cX12_ofTwo 44 = .ok (.invokestatic 485, 3) := by decide +kernel
theorem dX12_ofTwo_47 : decode cX12_ofTwo 47 = .ok (.goto 5, 3) := by decide +kernel
theorem dX12_ofTwo_50 : decode cX12_ofTwo 50 = .ok (.lload 4, 2) := by decide +kernel
theorem dX12_ofTwo_52 : decode cX12_ofTwo 52 = .ok (.lstore 9, 2) := by decide +kernel
theorem dX12_ofTwo_54 : decode cX12_ofTwo 54 = .ok (.lload 7, 2) := by decide +kernel
theorem dX12_ofTwo_56 : decode cX12_ofTwo 56 = .ok (.lload 9, 2) := by decide +kernel
theorem dX12_ofTwo_58 : decode cX12_ofTwo 58 = .ok (.lcmp, 1) := by decide +kernel
theorem dX12_ofTwo_59 : decode cX12_ofTwo 59 = .ok (.ifCond .ge 7, 3) := by decide +kernel
theorem dX12_ofTwo_62 : decode cX12_ofTwo 62 = .ok (.iconst 1, 1) := by decide +kernel
theorem dX12_ofTwo_63 : decode cX12_ofTwo 63 = .ok (.goto 4, 3) := by decide +kernel
theorem dX12_ofTwo_66 : decode cX12_ofTwo 66 = .ok (.iconst 0, 1) := by decide +kernel
theorem dX12_ofTwo_67 : decode cX12_ofTwo 67 = .ok (.iload_n 1, 1) := by decide +kernel
theorem dX12_ofTwo_68 : decode cX12_ofTwo 68 = .ok (.sipush 213, 3) := by decide +kernel
theorem dX12_ofTwo_71 : decode cX12_ofTwo 71 = .ok (.if_icmp .ne 7, 3) := by decide +kernel
theorem dX12_ofTwo_74 : decode cX12_ofTwo 74 = .ok (.iconst 1, 1) := by decide +kernel
theorem dX12_ofTwo_75 : decode cX12_ofTwo 75 = .ok (.goto 4, 3) := by decide +kernel
theorem dX12_ofTwo_78 : decode cX12_ofTwo 78 = .ok (.iconst 0, 1) := by decide +kernel
theorem dX12_ofTwo_79 : decode cX12_ofTwo 79 = .ok (.if_icmp .ne 7, 3) := by decide +kernel
theorem dX12_ofTwo_82 : decode cX12_ofTwo 82 = .ok (.lload_n 2, 1) := by decide +kernel
theorem dX12_ofTwo_83 : decode cX12_ofTwo 83 = .ok (.goto 5, 3) := by decide +kernel
theorem dX12_ofTwo_86 : decode cX12_ofTwo 86 = .ok (.lload 4, 2) := by decide +kernel
theorem dX12_ofTwo_88 : decode cX12_ofTwo 88 = .ok (.lreturn, 1) := by decide +kernel
abbrev R_X12_ofTwo : Room := ({ frames := 4, cells := 0, slots := 0, locals := 104 } : Room)
def b_X12_ofTwo_79 (n : Nat) (gT : Gs) (v2 : Int64) (v4 : Int64) (s0 : Int32) (s1 : Int32) : Option (Int64 × Gs) :=
  if s1 = s0 then (some (v2, gT)) else (some (v4, gT))
def b_X12_ofTwo_67 (n : Nat) (gT : Gs) (v1 : Int32) (v2 : Int64) (v4 : Int64) (s0 : Int32) : Option (Int64 × Gs) :=
  if v1 = (213 : Int32) then (b_X12_ofTwo_79 n gT v2 v4 (1 : Int32) s0) else (b_X12_ofTwo_79 n gT v2 v4 (0 : Int32) s0)
def b_X12_ofTwo_52 (n : Nat) (gT : Gs) (v1 : Int32) (v2 : Int64) (v4 : Int64) (v7 : Int64) (s0 : Int64) : Option (Int64 × Gs) :=
  if s0 ≤ v7 then (b_X12_ofTwo_67 n gT v1 v2 v4 (0 : Int32)) else (b_X12_ofTwo_67 n gT v1 v2 v4 (1 : Int32))
def b_X12_ofTwo_24 (n : Nat) (gT : Gs) (v1 : Int32) (v2 : Int64) (v4 : Int64) (v6 : Int32) (s0 : Int64) : Option (Int64 × Gs) :=
  bnd (f_X12_isReal v6) (fun q_3 => if q_3 = 0 then (b_X12_ofTwo_52 n gT v1 v2 v4 s0 v4) else (bnd (f_X12_become n gT v4 v6 (7 : Int32)) (fun q_5 => bnd (f_X12_place q_5.1) (fun q_7 => b_X12_ofTwo_52 n q_5.2 v1 v2 v4 s0 q_7))))
def f_X12_ofTwo (n : Nat) (gT : Gs) (x0 : Int32) (x1 : Int64) (x2 : Int64) (x3 : Int32) : Option (Int64 × Gs) :=
  bnd (f_X12_isReal x3) (fun q_1 => if q_1 = 0 then (b_X12_ofTwo_24 n gT x0 x1 x2 x3 x1) else (bnd (f_X12_become n gT x1 x3 (7 : Int32)) (fun q_9 => bnd (f_X12_place q_9.1) (fun q_11 => b_X12_ofTwo_24 n q_9.2 x0 x1 x2 x3 q_11))))
def S_X12_ofTwo_79 (l : Launch) (D : Dx) (hT : Nat) (aT : Nat → Nat) (yT : Nat → ClassId) (fn : Gs → Int64 → Int64 → Int32 → Int32 → Option (Int64 × Gs)) : Prop :=
  ∀ {p : Program} {e : Env} {s : State} {m : MethodId} {args : Array Value} {below : List Frame} {meth : Method} {c : Code} {H : Heap} {locs : List Loc} {A : Nat → Prop} {ls : Array Slot} {gT : Gs} {v2 : Int64} {v4 : Int64} {s0 : Int32} {s1 : Int32} {q : Int64 × Gs}, Cx p s m args meth c cX12_ofTwo (some .long) 11 RX12 lw_all → Hx D (tX12 yT) A s H locs (wX12 hT aT yT gT) → lv_has ls 11 [(2, .long v2), (4, .long v4)] → fn gT v2 v4 s0 s1 = some q → W p l e R_X12_ofTwo s m args below meth c H locs 0 0 (MQ below (QL D A (wX12 hT aT yT q.2) q.1) args s 0 0 A) (F0 m 79 ls [.int s0, .int s1])
def S_X12_ofTwo_67 (l : Launch) (D : Dx) (hT : Nat) (aT : Nat → Nat) (yT : Nat → ClassId) (fn : Gs → Int32 → Int64 → Int64 → Int32 → Option (Int64 × Gs)) : Prop :=
  ∀ {p : Program} {e : Env} {s : State} {m : MethodId} {args : Array Value} {below : List Frame} {meth : Method} {c : Code} {H : Heap} {locs : List Loc} {A : Nat → Prop} {ls : Array Slot} {gT : Gs} {v1 : Int32} {v2 : Int64} {v4 : Int64} {s0 : Int32} {q : Int64 × Gs}, Cx p s m args meth c cX12_ofTwo (some .long) 11 RX12 lw_all → Hx D (tX12 yT) A s H locs (wX12 hT aT yT gT) → lv_has ls 11 [(1, .int v1), (2, .long v2), (4, .long v4)] → fn gT v1 v2 v4 s0 = some q → W p l e R_X12_ofTwo s m args below meth c H locs 0 0 (MQ below (QL D A (wX12 hT aT yT q.2) q.1) args s 0 0 A) (F0 m 67 ls [.int s0])
def S_X12_ofTwo_52 (l : Launch) (D : Dx) (hT : Nat) (aT : Nat → Nat) (yT : Nat → ClassId) (fn : Gs → Int32 → Int64 → Int64 → Int64 → Int64 → Option (Int64 × Gs)) : Prop :=
  ∀ {p : Program} {e : Env} {s : State} {m : MethodId} {args : Array Value} {below : List Frame} {meth : Method} {c : Code} {H : Heap} {locs : List Loc} {A : Nat → Prop} {ls : Array Slot} {gT : Gs} {v1 : Int32} {v2 : Int64} {v4 : Int64} {v7 : Int64} {s0 : Int64} {q : Int64 × Gs}, Cx p s m args meth c cX12_ofTwo (some .long) 11 RX12 lw_all → Hx D (tX12 yT) A s H locs (wX12 hT aT yT gT) → lv_has ls 11 [(1, .int v1), (2, .long v2), (4, .long v4), (7, .long v7)] → fn gT v1 v2 v4 v7 s0 = some q → W p l e R_X12_ofTwo s m args below meth c H locs 0 0 (MQ below (QL D A (wX12 hT aT yT q.2) q.1) args s 0 0 A) (F0 m 52 ls [.long s0])
def S_X12_ofTwo_24 (l : Launch) (D : Dx) (hT : Nat) (aT : Nat → Nat) (yT : Nat → ClassId) (fn : Gs → Int32 → Int64 → Int64 → Int32 → Int64 → Option (Int64 × Gs)) : Prop :=
  ∀ {p : Program} {e : Env} {s : State} {m : MethodId} {args : Array Value} {below : List Frame} {meth : Method} {c : Code} {H : Heap} {locs : List Loc} {A : Nat → Prop} {ls : Array Slot} {gT : Gs} {v1 : Int32} {v2 : Int64} {v4 : Int64} {v6 : Int32} {s0 : Int64} {q : Int64 × Gs}, Cx p s m args meth c cX12_ofTwo (some .long) 11 RX12 lw_all → Hx D (tX12 yT) A s H locs (wX12 hT aT yT gT) → lv_has ls 11 [(0, .ref hT), (1, .int v1), (2, .long v2), (4, .long v4), (6, .int v6)] → fn gT v1 v2 v4 v6 s0 = some q → W p l e R_X12_ofTwo s m args below meth c H locs 0 0 (MQ below (QL D A (wX12 hT aT yT q.2) q.1) args s 0 0 A) (F0 m 24 ls [.long s0])
set_option maxHeartbeats 4000000 in
set_option maxRecDepth 100000 in
theorem k_X12_ofTwo_79 (l : Launch) (D : Dx) (hT : Nat) (aT : Nat → Nat) (yT : Nat → ClassId) (n : Nat) : S_X12_ofTwo_79 l D hT aT yT (b_X12_ofTwo_79 n) := by
  intro p e s m args below meth c H locs A ls gT v2 v4 s0 s1 q C X hl hF
  obtain ⟨hx, hb, hr, hml, hown, hts, hlk⟩ := id C
  unfold b_X12_ofTwo_79 at hF
  refine lv_icmp_ne (tgt := 86) hx hb dX12_ofTwo_79 (by decide) (fun c => ?_) (fun c => ?_)
  · replace hF := iF c hF
    refine lv_lload hx hb dX12_ofTwo_86 (lv_at hl 1 rfl) ?_
    have hq := Option.some.inj hF
    subst hq
    exact rt_l C X dX12_ofTwo_88
  · replace hF := iT c hF
    refine lv_lload_n hx hb dX12_ofTwo_82 rfl (lv_at hl 0 rfl) ?_
    refine lv_goto (tgt := 88) hx hb dX12_ofTwo_83 (by decide) ?_
    have hq := Option.some.inj hF
    subst hq
    exact rt_l C X dX12_ofTwo_88
set_option maxHeartbeats 4000000 in
set_option maxRecDepth 100000 in
theorem k_X12_ofTwo_67 (l : Launch) (D : Dx) (hT : Nat) (aT : Nat → Nat) (yT : Nat → ClassId) (n : Nat) : S_X12_ofTwo_67 l D hT aT yT (b_X12_ofTwo_67 n) := by
  intro p e s m args below meth c H locs A ls gT v1 v2 v4 s0 q C X hl hF
  obtain ⟨hx, hb, hr, hml, hown, hts, hlk⟩ := id C
  unfold b_X12_ofTwo_67 at hF
  refine lv_iload_n hx hb dX12_ofTwo_67 rfl (lv_at hl 0 rfl) ?_
  refine lv_sipush (v := (213 : Int32)) hx hb dX12_ofTwo_68 (by decide) ?_
  refine lv_icmp_ne (tgt := 78) hx hb dX12_ofTwo_71 (by decide) (fun c => ?_) (fun c => ?_)
  · replace hF := iF c hF
    refine lv_iconst (v := (0 : Int32)) hx hb dX12_ofTwo_78 (by decide) ?_
    exact (k_X12_ofTwo_79 l D hT aT yT n) C X (lv_sub hl [1, 2] rfl) hF
  · replace hF := iT c hF
    refine lv_iconst (v := (1 : Int32)) hx hb dX12_ofTwo_74 (by decide) ?_
    refine lv_goto (tgt := 79) hx hb dX12_ofTwo_75 (by decide) ?_
    exact (k_X12_ofTwo_79 l D hT aT yT n) C X (lv_sub hl [1, 2] rfl) hF
set_option maxHeartbeats 4000000 in
set_option maxRecDepth 100000 in
theorem k_X12_ofTwo_52 (l : Launch) (D : Dx) (hT : Nat) (aT : Nat → Nat) (yT : Nat → ClassId) (n : Nat) : S_X12_ofTwo_52 l D hT aT yT (b_X12_ofTwo_52 n) := by
  intro p e s m args below meth c H locs A ls gT v1 v2 v4 v7 s0 q C X hl hF
  obtain ⟨hx, hb, hr, hml, hown, hts, hlk⟩ := id C
  unfold b_X12_ofTwo_52 at hF
  refine lv_lstore (lv' := [(9, .long s0), (1, .int v1), (2, .long v2), (4, .long v4), (7, .long v7)]) hx hb dX12_ofTwo_52 hl (by decide) rfl (fun ls hl => ?_)
  refine lv_lload hx hb dX12_ofTwo_54 (lv_at hl 4 rfl) ?_
  refine lv_lload hx hb dX12_ofTwo_56 (lv_at hl 0 rfl) ?_
  refine W.lcmp hx hb dX12_ofTwo_58 ?_
  refine lv_if_ge (tgt := 66) hx hb dX12_ofTwo_59 (by decide) (fun c => ?_) (fun c => ?_)
  · have c := (lg_cmp_ge _ _).mp c
    replace hF := iT c hF
    refine lv_iconst (v := (0 : Int32)) hx hb dX12_ofTwo_66 (by decide) ?_
    exact (k_X12_ofTwo_67 l D hT aT yT n) C X (lv_sub hl [1, 2, 3] rfl) hF
  · have c := fun h => c ((lg_cmp_ge _ _).mpr h)
    replace hF := iF c hF
    refine lv_iconst (v := (1 : Int32)) hx hb dX12_ofTwo_62 (by decide) ?_
    refine lv_goto (tgt := 67) hx hb dX12_ofTwo_63 (by decide) ?_
    exact (k_X12_ofTwo_67 l D hT aT yT n) C X (lv_sub hl [1, 2, 3] rfl) hF
set_option maxHeartbeats 4000000 in
set_option maxRecDepth 100000 in
theorem k_X12_ofTwo_24 (l : Launch) (D : Dx) (hT : Nat) (aT : Nat → Nat) (yT : Nat → ClassId) (n : Nat) : S_X12_ofTwo_24 l D hT aT yT (b_X12_ofTwo_24 n) := by
  intro p e s m args below meth c H locs A ls gT v1 v2 v4 v6 s0 q C X hl hF
  obtain ⟨hx, hb, hr, hml, hown, hts, hlk⟩ := id C
  unfold b_X12_ofTwo_24 at hF
  refine lv_lstore (lv' := [(7, .long s0), (0, .ref hT), (1, .int v1), (2, .long v2), (4, .long v4), (6, .int v6)]) hx hb dX12_ofTwo_24 hl (by decide) rfl (fun ls hl => ?_)
  refine lv_iload hx hb dX12_ofTwo_26 (lv_at hl 5 rfl) ?_
  obtain ⟨q_3, hc_4, hF⟩ := bnd_some hF
  refine cS_i (As := [.int v6]) (rest := []) C X (c_X12_isReal l D  v6 q_3 hc_4 _) (va_cwS 1 hts (good_S q8_101 q8_102 q1_9 q8_103) rfl rfl rfl (by decide +kernel) ⟨Nat.le_of_ble_eq_true rfl, Nat.le_of_ble_eq_true rfl⟩) (eK X) eP (eD (A := A)) (eF X) hl.1 rfl rfl (Nat.le_of_ble_eq_true rfl) dX12_ofTwo_28 ⟨Nat.le_of_ble_eq_true rfl, Nat.le_of_ble_eq_true rfl⟩ (fun t H1 locs1 ht hB hk hS => ?_)
  have X := Hx_after_none X hk hS
  clear hk hS ht hB
  generalize H1 = H at X ⊢
  generalize locs1 = locs at X ⊢
  refine lv_if_eq (tgt := 50) hx hb dX12_ofTwo_31 (by decide) (fun c => ?_) (fun c => ?_)
  · replace hF := iT c hF
    refine lv_lload hx hb dX12_ofTwo_50 (lv_at hl 4 rfl) ?_
    exact (k_X12_ofTwo_52 l D hT aT yT n) C X (lv_sub hl [2, 3, 4, 0] rfl) hF
  · replace hF := iF c hF
    refine lv_aload_n hx hb dX12_ofTwo_34 rfl (lv_at hl 1 rfl) ?_
    refine lv_lload hx hb dX12_ofTwo_35 (lv_at hl 4 rfl) ?_
    refine lv_iload hx hb dX12_ofTwo_37 (lv_at hl 5 rfl) ?_
    refine lv_bipush (v := (7 : Int32)) hx hb dX12_ofTwo_39 (by decide) ?_
    obtain ⟨q_5, hc_6, hF⟩ := bnd_some hF
    refine cV_l (As := [.long v4, .int v6, .int (7 : Int32)]) (rest := []) C X (c_X12_become l D hT aT yT n gT v4 v6 (7 : Int32) q_5 hc_6 _) (cwV 3 hts (good_V q8_136 q8_138 q0_73 q1_9 q8_139) rfl rfl rfl (by decide +kernel) ⟨Nat.le_of_ble_eq_true rfl, Nat.le_of_ble_eq_true rfl⟩) (va_recv X.1 X.2.1 (ci := 12) (q0 := 0) rfl rfl) X.1 X.2.1 X.2.2.1 (free_all X) hl.1 rfl rfl (Nat.le_of_ble_eq_true rfl) dX12_ofTwo_41 ⟨Nat.le_of_ble_eq_true rfl, Nat.le_of_ble_eq_true rfl⟩ (fun t H1 locs1 ht hB hk hS => ?_)
    have X : Hx D (tX12 yT) A s H1 locs1 (wX12 hT aT yT q_5.2) := Hx_after_all X ht hB hS
    clear hk hS ht hB
    generalize H1 = H at X ⊢
    generalize locs1 = locs at X ⊢
    obtain ⟨q_7, hc_8, hF⟩ := bnd_some hF
    refine cS_l (As := [.long q_5.1]) (rest := []) C X (c_X12_place l D  q_5.1 q_7 hc_8 _) (va_cwS 1 hts (good_S q9_100 q9_101 q1_9 q9_102) rfl rfl rfl (by decide +kernel) ⟨Nat.le_of_ble_eq_true rfl, Nat.le_of_ble_eq_true rfl⟩) (eK X) eP (eD (A := A)) (eF X) hl.1 rfl rfl (Nat.le_of_ble_eq_true rfl) dX12_ofTwo_44 ⟨Nat.le_of_ble_eq_true rfl, Nat.le_of_ble_eq_true rfl⟩ (fun t H1 locs1 ht hB hk hS => ?_)
    have X := Hx_after_none X hk hS
    clear hk hS ht hB
    generalize H1 = H at X ⊢
    generalize locs1 = locs at X ⊢
    refine lv_goto (tgt := 52) hx hb dX12_ofTwo_47 (by decide) ?_
    exact (k_X12_ofTwo_52 l D hT aT yT n) C X (lv_sub hl [2, 3, 4, 0] rfl) hF
set_option maxHeartbeats 4000000 in
set_option maxRecDepth 100000 in
theorem c_X12_ofTwo (l : Launch) (D : Dx) (hT : Nat) (aT : Nat → Nat) (yT : Nat → ClassId) (n : Nat) (gT : Gs) (x0 : Int32) (x1 : Int64) (x2 : Int64) (x3 : Int32) (q : Int64 × Gs) (hF : f_X12_ofTwo n gT x0 x1 x2 x3 = some q) (sz : Nat) : Met l yX12_ofTwo (ws_ yX12_ofTwo cX12_ofTwo 11 (some .long)) R_X12_ofTwo (PC D (tX12 yT) [.ref hT, .int x0, .long x1, .long x2, .int x3] (wX12 hT aT yT gT) sz) (QL D (va_A (wX12 hT aT yT gT) sz) (wX12 hT aT yT q.2) q.1) 0 0 (va_A (wX12 hT aT yT gT) sz) := by
  refine Met.ofW (cc := cX12_ofTwo) (maxL := 11) (ret := (some .long)) (by decide) rfl ?_
  intro p e s m args below meth c s₁ B hml hv
  obtain ⟨rfl, hsz, hP, hK, hD, hN⟩ := hv
  subst hsz
  have C : Cx p s m _ meth c cX12_ofTwo (some .long) 11 RX12 lw_all := Cx_of B hml
  have X := Hx_start hP hK hD hN
  obtain ⟨hx, hb, hr, -, hown, hts, hlk⟩ := id C
  generalize va_A (wX12 hT aT yT gT) s.heap.size = A at X ⊢
  have hl := lv_entry ([.ref hT, .int x0, .long x1, .long x2, .int x3]) (n := 11) (Nat.le_of_ble_eq_true rfl)
  rw [lg_entry_eq]
  generalize (lg_sl ([.ref hT, .int x0, .long x1, .long x2, .int x3]) ++ List.replicate (11 - (lg_sl ([.ref hT, .int x0, .long x1, .long x2, .int x3])).length) Slot.unset).toArray = ls at hl ⊢
  have hl : lv_has ls 11 [(0, .ref hT), (1, .int x0), (2, .long x1), (4, .long x2), (6, .int x3)] := hl
  unfold f_X12_ofTwo at hF
  refine lv_iload hx hb dX12_ofTwo_0 (lv_at hl 4 rfl) ?_
  obtain ⟨q_1, hc_2, hF⟩ := bnd_some hF
  refine cS_i (As := [.int x3]) (rest := []) C X (c_X12_isReal l D  x3 q_1 hc_2 _) (va_cwS 1 hts (good_S q8_101 q8_102 q1_9 q8_103) rfl rfl rfl (by decide +kernel) ⟨Nat.le_of_ble_eq_true rfl, Nat.le_of_ble_eq_true rfl⟩) (eK X) eP (eD (A := A)) (eF X) hl.1 rfl rfl (Nat.le_of_ble_eq_true rfl) dX12_ofTwo_2 ⟨Nat.le_of_ble_eq_true rfl, Nat.le_of_ble_eq_true rfl⟩ (fun t H1 locs1 ht hB hk hS => ?_)
  have X := Hx_after_none X hk hS
  clear hk hS ht hB
  generalize H1 = H at X ⊢
  generalize locs1 = locs at X ⊢
  refine lv_if_eq (tgt := 23) hx hb dX12_ofTwo_5 (by decide) (fun c => ?_) (fun c => ?_)
  · replace hF := iT c hF
    refine lv_lload_n hx hb dX12_ofTwo_23 rfl (lv_at hl 2 rfl) ?_
    exact (k_X12_ofTwo_24 l D hT aT yT n) C X (lv_sub hl [0, 1, 2, 3, 4] rfl) hF
  · replace hF := iF c hF
    refine lv_aload_n hx hb dX12_ofTwo_8 rfl (lv_at hl 0 rfl) ?_
    refine lv_lload_n hx hb dX12_ofTwo_9 rfl (lv_at hl 2 rfl) ?_
    refine lv_iload hx hb dX12_ofTwo_10 (lv_at hl 4 rfl) ?_
    refine lv_bipush (v := (7 : Int32)) hx hb dX12_ofTwo_12 (by decide) ?_
    obtain ⟨q_9, hc_10, hF⟩ := bnd_some hF
    refine cV_l (As := [.long x1, .int x3, .int (7 : Int32)]) (rest := []) C X (c_X12_become l D hT aT yT n gT x1 x3 (7 : Int32) q_9 hc_10 _) (cwV 3 hts (good_V q8_136 q8_138 q0_73 q1_9 q8_139) rfl rfl rfl (by decide +kernel) ⟨Nat.le_of_ble_eq_true rfl, Nat.le_of_ble_eq_true rfl⟩) (va_recv X.1 X.2.1 (ci := 12) (q0 := 0) rfl rfl) X.1 X.2.1 X.2.2.1 (free_all X) hl.1 rfl rfl (Nat.le_of_ble_eq_true rfl) dX12_ofTwo_14 ⟨Nat.le_of_ble_eq_true rfl, Nat.le_of_ble_eq_true rfl⟩ (fun t H1 locs1 ht hB hk hS => ?_)
    have X : Hx D (tX12 yT) A s H1 locs1 (wX12 hT aT yT q_9.2) := Hx_after_all X ht hB hS
    clear hk hS ht hB
    generalize H1 = H at X ⊢
    generalize locs1 = locs at X ⊢
    obtain ⟨q_11, hc_12, hF⟩ := bnd_some hF
    refine cS_l (As := [.long q_9.1]) (rest := []) C X (c_X12_place l D  q_9.1 q_11 hc_12 _) (va_cwS 1 hts (good_S q9_100 q9_101 q1_9 q9_102) rfl rfl rfl (by decide +kernel) ⟨Nat.le_of_ble_eq_true rfl, Nat.le_of_ble_eq_true rfl⟩) (eK X) eP (eD (A := A)) (eF X) hl.1 rfl rfl (Nat.le_of_ble_eq_true rfl) dX12_ofTwo_17 ⟨Nat.le_of_ble_eq_true rfl, Nat.le_of_ble_eq_true rfl⟩ (fun t H1 locs1 ht hB hk hS => ?_)
    have X := Hx_after_none X hk hS
    clear hk hS ht hB
    generalize H1 = H at X ⊢
    generalize locs1 = locs at X ⊢
    refine lv_goto (tgt := 24) hx hb dX12_ofTwo_20 (by decide) ?_
    exact (k_X12_ofTwo_24 l D hT aT yT n) C X (lv_sub hl [0, 1, 2, 3, 4] rfl) hF

/-! ### X12_jams -/
theorem dX12_jams_0 : decode cX12_jams 0 = .ok (.aload_n 0, 1) := by decide +kernel
theorem dX12_jams_1 : decode cX12_jams 1 = .ok (.iload_n 1, 1) := by decide +kernel
theorem dX12_jams_2 : decode cX12_jams 2 = .ok (.putfield 346, 3) := by decide +kernel
theorem dX12_jams_5 : decode cX12_jams 5 = .ok (.aload_n 0, 1) := by decide +kernel
theorem dX12_jams_6 : decode cX12_jams 6 = .ok (.iload_n 2, 1) := by decide +kernel
theorem dX12_jams_7 : decode cX12_jams 7 = .ok (.putfield 349, 3) := by decide +kernel
theorem dX12_jams_10 : decode cX12_jams 10 = .ok (.iconst 0, 1) := by decide +kernel
theorem dX12_jams_11 : decode cX12_jams 11 = .ok (.ireturn, 1) := by decide +kernel
abbrev R_X12_jams : Room := ({ frames := 0, cells := 0, slots := 0, locals := 0 } : Room)
def f_X12_jams (gT : Gs) (x0 : Int32) (x1 : Int32) : Option (Int32 × Gs) :=
  some ((0 : Int32), (sI (sI gT 95 x0) 96 x1))
set_option maxHeartbeats 4000000 in
set_option maxRecDepth 100000 in
theorem c_X12_jams (l : Launch) (D : Dx) (hT : Nat) (aT : Nat → Nat) (yT : Nat → ClassId) (gT : Gs) (x0 : Int32) (x1 : Int32) (q : Int32 × Gs) (hF : f_X12_jams gT x0 x1 = some q) (sz : Nat) : Met l yX12_jams (ws_ yX12_jams cX12_jams 3 (some .boolean)) R_X12_jams (PC D (tX12 yT) [.ref hT, .int x0, .int x1] (wX12 hT aT yT gT) sz) (QI D (va_A (wX12 hT aT yT gT) sz) (wX12 hT aT yT q.2) q.1) 0 0 (va_A (wX12 hT aT yT gT) sz) := by
  refine Met.ofW (cc := cX12_jams) (maxL := 3) (ret := (some .boolean)) (by decide) rfl ?_
  intro p e s m args below meth c s₁ B hml hv
  obtain ⟨rfl, hsz, hP, hK, hD, hN⟩ := hv
  subst hsz
  have C : Cx p s m _ meth c cX12_jams (some .boolean) 3 RX12 lw_all := Cx_of B hml
  have X := Hx_start hP hK hD hN
  obtain ⟨hx, hb, hr, -, hown, hts, hlk⟩ := id C
  generalize va_A (wX12 hT aT yT gT) s.heap.size = A at X ⊢
  have hl := lv_entry ([.ref hT, .int x0, .int x1]) (n := 3) (Nat.le_of_ble_eq_true rfl)
  rw [lg_entry_eq]
  generalize (lg_sl ([.ref hT, .int x0, .int x1]) ++ List.replicate (3 - (lg_sl ([.ref hT, .int x0, .int x1])).length) Slot.unset).toArray = ls at hl ⊢
  have hl : lv_has ls 3 [(0, .ref hT), (1, .int x0), (2, .int x1)] := hl
  unfold f_X12_jams at hF
  refine lv_aload_n hx hb dX12_jams_0 rfl (lv_at hl 0 rfl) ?_
  refine lv_iload_n hx hb dX12_jams_1 rfl (lv_at hl 1 rfl) ?_
  refine va_put (D := D.1) (ci := 12) (v := .int x0) (ty := .int) (C := RX12) (T := TX12) (N := 114) hx hb hts wi_X12 tyX12 tyX12_ok nmX12 hown X.1 X.2.1 X.2.2.1 X.2.2.2.1 0 rfl rfl 95 (by decide) (hts _ q7_49) (fun _ h9 => h9) rfl (by decide +kernel) rfl rfl (by rw [List.length_map, List.length_range]; decide) dX12_jams_2 (fun H locs hP hD hS => ?_)
  have X : Hx D (tX12 yT) A s H locs (wX12 hT aT yT (sI gT 95 x0)) := Hx_set X (wG_sI (k := 95) rfl) hP hD hS
  refine lv_aload_n hx hb dX12_jams_5 rfl (lv_at hl 0 rfl) ?_
  refine lv_iload_n hx hb dX12_jams_6 rfl (lv_at hl 2 rfl) ?_
  refine va_put (D := D.1) (ci := 12) (v := .int x1) (ty := .int) (C := RX12) (T := TX12) (N := 114) hx hb hts wi_X12 tyX12 tyX12_ok nmX12 hown X.1 X.2.1 X.2.2.1 X.2.2.2.1 0 rfl rfl 96 (by decide) (hts _ q7_50) (fun _ h9 => h9) rfl (by decide +kernel) rfl rfl (by rw [List.length_map, List.length_range]; decide) dX12_jams_7 (fun H locs hP hD hS => ?_)
  have X : Hx D (tX12 yT) A s H locs (wX12 hT aT yT (sI (sI gT 95 x0) 96 x1)) := Hx_set X (wG_sI (k := 96) rfl) hP hD hS
  refine lv_iconst (v := (0 : Int32)) hx hb dX12_jams_10 (by decide) ?_
  have hq := Option.some.inj hF
  subst hq
  exact rt_z (v := (0 : Int32)) C X (by decide) dX12_jams_11

/-! ### X12_counts -/
theorem dX12_counts_0 : decode cX12_counts 0 = .ok (.iload_n 2, 1) := by decide +kernel
theorem dX12_counts_1 : decode cX12_counts 1 = .ok (.bipush 47, 2) := by decide +kernel
theorem dX12_counts_3 : decode cX12_counts 3 = .ok (.if_icmp .eq 9, 3) := by decide +kernel
theorem dX12_counts_6 : decode cX12_counts 6 = .ok (.iload_n 2, 1) := by decide +kernel
theorem dX12_counts_7 : decode cX12_counts 7 = .ok (.bipush 37, 2) := by decide +kernel
theorem dX12_counts_9 : decode cX12_counts 9 = .ok (.if_icmp .ne 7, 3) := by decide +kernel
theorem dX12_counts_12 : decode cX12_counts 12 = .ok (.iconst 1, 1) := by decide +kernel
theorem dX12_counts_13 : decode cX12_counts 13 = .ok (.goto 4, 3) := by decide +kernel
theorem dX12_counts_16 : decode cX12_counts 16 = .ok (.iconst 0, 1) := by decide +kernel
theorem dX12_counts_17 : decode cX12_counts 17 = .ok (.istore 8, 2) := by decide +kernel
theorem dX12_counts_19 : decode cX12_counts 19 = .ok (.lconst 0, 1) := by decide +kernel
theorem dX12_counts_20 : decode cX12_counts 20 = .ok (.lstore 9, 2) := by decide +kernel
theorem dX12_counts_22 : decode cX12_counts 22 = .ok (.iload 7, 2) := by decide +kernel
theorem dX12_counts_24 : decode cX12_counts 24 = .ok (.invokestatic 462, 3) := by decide +kernel
theorem dX12_counts_27 : decode cX12_counts 27 = .ok (.ifCond .eq 111, 3) := by decide +kernel
theorem dX12_counts_30 : decode cX12_counts 30 = .ok (.iload 8, 2) := by decide +kernel
theorem dX12_counts_32 : decode cX12_counts 32 = .ok (.ifCond .eq 25, 3) := by decide +kernel
theorem dX12_counts_35 : decode cX12_counts 35 = .ok (.lload 5, 2) := by decide +kernel
theorem dX12_counts_37 : decode cX12_counts 37 = .ok (.iload 7, 2) := by decide +kernel
theorem dX12_counts_39 : decode cX12_counts 39 = .ok (.invokestatic 687, 3) := by decide +kernel
theorem dX12_counts_42 : decode cX12_counts 42 = .ok (.ifCond .eq 15, 3) := by decide +kernel
theorem dX12_counts_45 : decode cX12_counts 45 = .ok (.aload_n 0, 1) := by decide +kernel
theorem dX12_counts_46 : decode cX12_counts 46 = .ok (.iconst 2, 1) := by decide +kernel
theorem dX12_counts_47 : decode cX12_counts 47 = .ok (.aload_n 0, 1) := by decide +kernel
theorem dX12_counts_48 : decode cX12_counts 48 = .ok (.getfield 107, 3) := by decide +kernel
theorem dX12_counts_51 : decode cX12_counts 51 = .ok (.iload_n 1, 1) := by decide +kernel
theorem dX12_counts_52 : decode cX12_counts 52 = .ok (.iaload, 1) := by decide +kernel
theorem dX12_counts_53 : decode cX12_counts 53 = .ok (.invokevirtual 663, 3) := by decide +kernel
theorem dX12_counts_56 : decode cX12_counts 56 = .ok (.ireturn, 1) := by decide +kernel
theorem dX12_counts_57 : decode cX12_counts 57 = .ok (.iload_n 2, 1) := by decide +kernel
theorem dX12_counts_58 : decode cX12_counts 58 = .ok (.bipush 37, 2) := by decide +kernel
theorem dX12_counts_60 : decode cX12_counts 60 = .ok (.if_icmp .ne 39, 3) := by decide +kernel
theorem dX12_counts_63 : decode cX12_counts 63 = .ok (.aload_n 0, 1) := by decide +kernel
theorem dX12_counts_64 : decode cX12_counts 64 = .ok (.aload_n 0, 1) := by decide +kernel
theorem dX12_counts_65 : decode cX12_counts 65 = .ok (.aload_n 0, 1) := by decide +kernel
theorem dX12_counts_66 : decode cX12_counts 66 = .ok (.lload_n 3, 1) := by decide +kernel
theorem dX12_counts_67 : decode cX12_counts 67 = .ok (.iload 7, 2) := by decide +kernel
theorem dX12_counts_69 : decode cX12_counts 69 = .ok (.bipush 7, 2) := by decide +kernel
theorem dX12_counts_71 : decode cX12_counts 71 = .ok (.invokevirtual 488, 3) := by decide +kernel
theorem dX12_counts_74 : decode cX12_counts 74 = .ok (.aload_n 0, 1) := by decide +kernel
theorem dX12_counts_75 : decode cX12_counts 75 = .ok (.lload 5, 2) := by decide +kernel
theorem dX12_counts_77 : decode cX12_counts 77 = .ok (.iload 7, 2) := by decide +kernel
theorem dX12_counts_79 : decode cX12_counts 79 = .ok (.bipush 7, 2) := by decide +kernel
theorem dX12_counts_81 : decode cX12_counts 81 = .ok (.invokevirtual 488, 3) := by decide +kernel
theorem dX12_counts_84 : decode cX12_counts 84 = .ok (.invokevirtual 481, 3) := by decide +kernel
theorem dX12_counts_87 : decode cX12_counts 87 = .ok (.bipush 7, 2) := by decide +kernel
theorem dX12_counts_89 : decode cX12_counts 89 = .ok (.iload 7, 2) := by decide +kernel
theorem dX12_counts_91 : decode cX12_counts 91 = .ok (.invokevirtual 488, 3) := by decide +kernel
theorem dX12_counts_94 : decode cX12_counts 94 = .ok (.lstore 9, 2) := by decide +kernel
theorem dX12_counts_96 : decode cX12_counts 96 = .ok (.goto 15, 3) := by decide +kernel
theorem dX12_counts_99 : decode cX12_counts 99 = .ok (.aload_n 0, 1) := by decide +kernel
theorem dX12_counts_100 : decode cX12_counts 100 = .ok (.iload_n 2, 1) := by decide +kernel
theorem dX12_counts_101 : decode cX12_counts 101 = .ok (.lload_n 3, 1) := by decide +kernel
theorem dX12_counts_102 : decode cX12_counts 102 = .ok (.lload 5, 2) := by decide +kernel
theorem dX12_counts_104 : decode cX12_counts 104 = .ok (.iload 7, 2) := by decide +kernel
theorem dX12_counts_106 : decode cX12_counts 106 = .ok (.invokevirtual 691, 3) := by decide +kernel
theorem dX12_counts_109 : decode cX12_counts 109 = .ok (.lstore 9, 2) := by decide +kernel
theorem dX12_counts_111 : decode cX12_counts 111 = .ok (.iload_n 2, 1) := by decide +kernel
theorem dX12_counts_112 : decode cX12_counts 112 = .ok (.bipush 37, 2) := by decide +kernel
theorem dX12_counts_114 : decode cX12_counts 114 = .ok (.if_icmp .eq 147, 3) := by decide +kernel
theorem dX12_counts_117 : decode cX12_counts 117 = .ok (.lload 9, 2) := by decide +kernel
theorem dX12_counts_119 : decode cX12_counts 119 = .ok (.ldc2_w 424, 3) := by decide +kernel
theorem dX12_counts_122 : decode cX12_counts 122 = .ok (.lcmp, 1) := by decide +kernel
theorem dX12_counts_123 : decode cX12_counts 123 = .ok (.ifCond .ne 138, 3) := by decide +kernel
theorem dX12_counts_126 : decode cX12_counts 126 = .ok (.aload_n 0, 1) := by decide +kernel
theorem dX12_counts_127 : decode cX12_counts 127 = .ok (.iconst 3, 1) := by decide +kernel
theorem dX12_counts_128 : decode cX12_counts 128 = .ok (.aload_n 0, 1) := by decide +kernel
theorem dX12_counts_129 : decode cX12_counts 129 = .ok (.getfield 107, 3) := by decide +kernel
theorem dX12_counts_132 : decode cX12_counts 132 = .ok (.iload_n 1, 1) := by decide +kernel
theorem dX12_counts_133 : decode cX12_counts 133 = .ok (.iaload, 1) := by decide +kernel
theorem dX12_counts_134 : decode cX12_counts 134 = .ok (.invokevirtual 663, 3) := by decide +kernel
theorem dX12_counts_137 : decode cX12_counts 137 = .ok (.ireturn, 1) := by decide +kernel
theorem dX12_counts_138 : decode cX12_counts 138 = .ok (.iload 8, 2) := by decide +kernel
theorem dX12_counts_140 : decode cX12_counts 140 = .ok (.ifCond .eq 22, 3) := by decide +kernel
theorem dX12_counts_143 : decode cX12_counts 143 = .ok (.lload 5, 2) := by decide +kernel
theorem dX12_counts_145 : decode cX12_counts 145 = .ok (.lconst 0, 1) := by decide +kernel
theorem dX12_counts_146 : decode cX12_counts 146 = .ok (.lcmp, 1) := by decide +kernel
theorem dX12_counts_147 : decode cX12_counts 147 = .ok (.ifCond .ne 15, 3) := by decide +kernel
theorem dX12_counts_150 : decode cX12_counts 150 = .ok (.aload_n 0, 1) := by decide +kernel
theorem dX12_counts_151 : decode cX12_counts 151 = .ok (.iconst 1, 1) := by decide +kernel
theorem dX12_counts_152 : decode cX12_counts 152 = .ok (.aload_n 0, 1) := by decide +kernel
theorem dX12_counts_153 : decode cX12_counts 153 = .ok (.getfield 107, 3) := by decide +kernel
theorem dX12_counts_156 : decode cX12_counts 156 = .ok (.iload_n 1, 1) := by decide +kernel
theorem dX12_counts_157 : decode cX12_counts 157 = .ok (.iaload, 1) := by decide +kernel
theorem dX12_counts_158 : decode cX12_counts 158 = .ok (.invokevirtual 663, 3) := by decide +kernel
theorem dX12_counts_161 : decode cX12_counts 161 = .ok (.ireturn, 1) := by decide +kernel
theorem dX12_counts_162 : decode cX12_counts 162 = .ok (.iload_n 2, 1) := by decide +kernel
theorem dX12_counts_163 : decode cX12_counts 163 = .ok (.bipush 43, 2) := by decide +kernel
theorem dX12_counts_165 : decode cX12_counts 165 = .ok (.if_icmp .ne 12, 3) := by decide +kernel
theorem dX12_counts_168 : decode cX12_counts 168 = .ok (.lload_n 3, 1) := by decide +kernel
theorem dX12_counts_169 : decode cX12_counts 169 = .ok (.lload 5, 2) := by decide +kernel
theorem dX12_counts_171 : decode cX12_counts 171 = .ok (.ladd, 1) := by decide +kernel
theorem dX12_counts_172 : decode cX12_counts 172 = .ok (.lstore 9, 2) := by decide +kernel
theorem dX12_counts_174 : decode cX12_counts 174 = .ok (.goto 78, 3) := by decide +kernel
theorem dX12_counts_177 : decode cX12_counts 177 = .ok (.iload_n 2, 1) := by decide +kernel
theorem dX12_counts_178 : decode cX12_counts 178 = .ok (.bipush 45, 2) := by decide +kernel
theorem dX12_counts_180 : decode cX12_counts 180 = .ok (.if_icmp .ne 12, 3) := by decide +kernel
theorem dX12_counts_183 : decode cX12_counts 183 = .ok (.lload_n 3, 1) := by decide +kernel
theorem dX12_counts_184 : decode cX12_counts 184 = .ok (.lload 5, 2) := by decide +kernel
theorem dX12_counts_186 : decode cX12_counts 186 = .ok (.lsub, 1) := by decide +kernel
theorem dX12_counts_187 : decode cX12_counts 187 = .ok (.lstore 9, 2) := by decide +kernel
theorem dX12_counts_189 : decode cX12_counts 189 = .ok (.goto 63, 3) := by decide +kernel
theorem dX12_counts_192 : decode cX12_counts 192 = .ok (.iload_n 2, 1) := by decide +kernel
theorem dX12_counts_193 : decode cX12_counts 193 = .ok (.bipush 42, 2) := by decide +kernel
theorem dX12_counts_195 : decode cX12_counts 195 = .ok (.if_icmp .ne 12, 3) := by decide +kernel
theorem dX12_counts_198 : decode cX12_counts 198 = .ok (.lload_n 3, 1) := by decide +kernel
theorem dX12_counts_199 : decode cX12_counts 199 = .ok (.lload 5, 2) := by decide +kernel
theorem dX12_counts_201 : decode cX12_counts 201 = .ok (.lmul, 1) := by decide +kernel
theorem dX12_counts_202 : decode cX12_counts 202 = .ok (.lstore 9, 2) := by decide +kernel
theorem dX12_counts_204 : decode cX12_counts 204 = .ok (.goto 48, 3) := by decide +kernel
theorem dX12_counts_207 : decode cX12_counts 207 = .ok (.lload 5, 2) := by decide +kernel
theorem dX12_counts_209 : decode cX12_counts 209 = .ok (.ldc2_w 694, 3) := by decide +kernel
theorem dX12_counts_212 : decode cX12_counts 212 = .ok (.lcmp, 1) := by decide +kernel
theorem dX12_counts_213 : decode cX12_counts 213 = .ok (.ifCond .ne 20, 3) := by decide +kernel
theorem dX12_counts_216 : decode cX12_counts 216 = .ok (.iload_n 2, 1) := by decide +kernel
theorem dX12_counts_217 : decode cX12_counts 217 = .ok (.bipush 47, 2) := by decide +kernel
theorem dX12_counts_219 : decode cX12_counts 219 = .ok (.if_icmp .ne 8, 3) := by decide +kernel
theorem dX12_counts_222 : decode cX12_counts 222 = .ok (.lload_n 3, 1) := by decide +kernel
theorem dX12_counts_223 : decode cX12_counts 223 = .ok (.lneg, 1) := by decide +kernel
theorem dX12_counts_224 : decode cX12_counts 224 = .ok (.goto 4, 3) := by decide +kernel
theorem dX12_counts_227 : decode cX12_counts 227 = .ok (.lconst 0, 1) := by decide +kernel
theorem dX12_counts_228 : decode cX12_counts 228 = .ok (.lstore 9, 2) := by decide +kernel
theorem dX12_counts_230 : decode cX12_counts 230 = .ok (.goto 22, 3) := by decide +kernel
theorem dX12_counts_233 : decode cX12_counts 233 = .ok (.iload_n 2, 1) := by decide +kernel
theorem dX12_counts_234 : decode cX12_counts 234 = .ok (.bipush 47, 2) := by decide +kernel
theorem dX12_counts_236 : decode cX12_counts 236 = .ok (.if_icmp .ne 10, 3) := by decide +kernel
theorem dX12_counts_239 : decode cX12_counts 239 = .ok (.lload_n 3, 1) := by decide +kernel
theorem dX12_counts_240 : decode cX12_counts 240 = .ok (.lload 5, 2) := by decide +kernel
theorem dX12_counts_242 : decode cX12_counts 242 = .ok (.ldiv, 1) := by decide +kernel
theorem dX12_counts_243 : decode cX12_counts 243 = .ok (.goto 7, 3) := by decide +kernel
theorem dX12_counts_246 : decode cX12_counts 246 = .ok (.lload_n 3, 1) := by decide +kernel
theorem dX12_counts_247 : decode cX12_counts 247 = .ok (.lload 5, 2) := by decide +kernel
theorem dX12_counts_249 : decode cX12_counts 249 = .ok (.lrem, 1) := by decide +kernel
theorem dX12_counts_250 : decode cX12_counts 250 = .ok (.lstore 9, 2) := by decide +kernel
theorem dX12_counts_252 : decode cX12_counts 252 = .ok (.lload 9, 2) := by decide +kernel
theorem dX12_counts_254 : decode cX12_counts 254 = .ok (.iload 7, 2) := by decide +kernel
theorem dX12_counts_256 : decode cX12_counts 256 = .ok (.invokestatic 470, 3) := by decide +kernel
theorem dX12_counts_259 : decode cX12_counts 259 = .ok (.lstore 9, 2) := by decide +kernel
theorem dX12_counts_261 : decode cX12_counts 261 = .ok (.aload_n 0, 1) := by decide +kernel
theorem dX12_counts_262 : decode cX12_counts 262 = .ok (.getfield 337, 3) := by decide +kernel
theorem dX12_counts_265 : decode cX12_counts 265 = .ok (.aload_n 0, 1) := by decide +kernel
theorem dX12_counts_266 : decode cX12_counts 266 = .ok (.getfield 340, 3) := by decide +kernel
theorem dX12_counts_269 : decode cX12_counts 269 = .ok (.iconst 1, 1) := by decide +kernel
theorem dX12_counts_270 : decode cX12_counts 270 = .ok (.isub, 1) := by decide +kernel
theorem dX12_counts_271 : decode cX12_counts 271 = .ok (.lload 9, 2) := by decide +kernel
theorem dX12_counts_273 : decode cX12_counts 273 = .ok (.lastore, 1) := by decide +kernel
theorem dX12_counts_274 : decode cX12_counts 274 = .ok (.iconst 1, 1) := by decide +kernel
theorem dX12_counts_275 : decode cX12_counts 275 = .ok (.ireturn, 1) := by decide +kernel
abbrev R_X12_counts : Room := ({ frames := 5, cells := 0, slots := 0, locals := 138 } : Room)
def b_X12_counts_261 (n : Nat) (gT : Gs) (v9 : Int64) : Option (Int32 × Gs) :=
  grd (inB ((gI gT 93) - (1 : Int32)) 400) (some ((1 : Int32), (sLA gT 92 (vp_updL (gLA gT 92) ((gI gT 93) - (1 : Int32)).toNatClampNeg v9))))
def b_X12_counts_252 (n : Nat) (gT : Gs) (v7 : Int32) (v9 : Int64) : Option (Int32 × Gs) :=
  bnd (f_X12_narrowed v9 v7) (fun q_4 => b_X12_counts_261 n gT q_4)
def b_X12_counts_250 (n : Nat) (gT : Gs) (v7 : Int32) (s0 : Int64) : Option (Int32 × Gs) :=
  b_X12_counts_252 n gT v7 s0
def b_X12_counts_228 (n : Nat) (gT : Gs) (v7 : Int32) (s0 : Int64) : Option (Int32 × Gs) :=
  b_X12_counts_252 n gT v7 s0
def b_X12_counts_162 (n : Nat) (gT : Gs) (v2 : Int32) (v3 : Int64) (v5 : Int64) (v7 : Int32) : Option (Int32 × Gs) :=
  if v2 = (43 : Int32) then (b_X12_counts_252 n gT v7 (v3 + v5)) else (if v2 = (45 : Int32) then (b_X12_counts_252 n gT v7 (v3 - v5)) else (if v2 = (42 : Int32) then (b_X12_counts_252 n gT v7 (v3 * v5)) else (if v5 = (-1 : Int64) then (if v2 = (47 : Int32) then (b_X12_counts_228 n gT v7 (-v3)) else (b_X12_counts_228 n gT v7 (0 : Int64))) else (if v2 = (47 : Int32) then (grd (nzL v5) (b_X12_counts_250 n gT v7 (v3 / v5))) else (grd (nzL v5) (b_X12_counts_250 n gT v7 (v3 - v3 / v5 * v5)))))))
def b_X12_counts_111 (n : Nat) (gT : Gs) (v1 : Int32) (v2 : Int32) (v9 : Int64) : Option (Int32 × Gs) :=
  if v2 = (37 : Int32) then (b_X12_counts_261 n gT v9) else (if v9 = (9223372036854775807 : Int64) then (grd (inB v1 8000) (bnd (f_X12_jams gT (3 : Int32) (gIA gT 17 v1.toNatClampNeg)) (fun q_15 => grd (zB q_15.1) (some (q_15.1, q_15.2))))) else (b_X12_counts_261 n gT v9))
def b_X12_counts_57 (n : Nat) (gT : Gs) (v1 : Int32) (v2 : Int32) (v3 : Int64) (v5 : Int64) (v7 : Int32) : Option (Int32 × Gs) :=
  if v2 = (37 : Int32) then (bnd (f_X12_become n gT v3 v7 (7 : Int32)) (fun q_18 => bnd (f_X12_become n q_18.2 v5 v7 (7 : Int32)) (fun q_20 => bnd (f_X12_remainder n q_20.2 q_18.1 q_20.1) (fun q_22 => bnd (f_X12_become n q_22.2 q_22.1 (7 : Int32) v7) (fun q_24 => b_X12_counts_111 n q_24.2 v1 v2 q_24.1))))) else (bnd (f_X12_reckoned n gT v2 v3 v5 v7) (fun q_12 => b_X12_counts_111 n q_12.2 v1 v2 q_12.1))
def b_X12_counts_17 (n : Nat) (gT : Gs) (v1 : Int32) (v2 : Int32) (v3 : Int64) (v5 : Int64) (v7 : Int32) (s0 : Int32) : Option (Int32 × Gs) :=
  bnd (f_X12_isReal v7) (fun q_1 => if q_1 = 0 then (if s0 = 0 then (b_X12_counts_162 n gT v2 v3 v5 v7) else (if v5 = (0 : Int64) then (grd (inB v1 8000) (bnd (f_X12_jams gT (1 : Int32) (gIA gT 17 v1.toNatClampNeg)) (fun q_9 => grd (zB q_9.1) (some (q_9.1, q_9.2))))) else (b_X12_counts_162 n gT v2 v3 v5 v7))) else (if s0 = 0 then (b_X12_counts_57 n gT v1 v2 v3 v5 v7) else (bnd (f_X12_isZero v5 v7) (fun q_26 => if q_26 = 0 then (b_X12_counts_57 n gT v1 v2 v3 v5 v7) else (grd (inB v1 8000) (bnd (f_X12_jams gT (2 : Int32) (gIA gT 17 v1.toNatClampNeg)) (fun q_29 => grd (zB q_29.1) (some (q_29.1, q_29.2)))))))))
def b_X12_counts_12 (n : Nat) (gT : Gs) (v1 : Int32) (v2 : Int32) (v3 : Int64) (v5 : Int64) (v7 : Int32) : Option (Int32 × Gs) :=
  b_X12_counts_17 n gT v1 v2 v3 v5 v7 (1 : Int32)
def f_X12_counts (n : Nat) (gT : Gs) (x0 : Int32) (x1 : Int32) (x2 : Int64) (x3 : Int64) (x4 : Int32) : Option (Int32 × Gs) :=
  if x1 = (47 : Int32) then (b_X12_counts_12 n gT x0 x1 x2 x3 x4) else (if x1 = (37 : Int32) then (b_X12_counts_12 n gT x0 x1 x2 x3 x4) else (b_X12_counts_17 n gT x0 x1 x2 x3 x4 (0 : Int32)))
def S_X12_counts_261 (l : Launch) (D : Dx) (hT : Nat) (aT : Nat → Nat) (yT : Nat → ClassId) (fn : Gs → Int64 → Option (Int32 × Gs)) : Prop :=
  ∀ {p : Program} {e : Env} {s : State} {m : MethodId} {args : Array Value} {below : List Frame} {meth : Method} {c : Code} {H : Heap} {locs : List Loc} {A : Nat → Prop} {ls : Array Slot} {gT : Gs} {v9 : Int64} {q : Int32 × Gs}, Cx p s m args meth c cX12_counts (some .boolean) 11 RX12 lw_all → Hx D (tX12 yT) A s H locs (wX12 hT aT yT gT) → lv_has ls 11 [(0, .ref hT), (9, .long v9)] → fn gT v9 = some q → W p l e R_X12_counts s m args below meth c H locs 0 0 (MQ below (QI D A (wX12 hT aT yT q.2) q.1) args s 0 0 A) (F0 m 261 ls [])
def S_X12_counts_252 (l : Launch) (D : Dx) (hT : Nat) (aT : Nat → Nat) (yT : Nat → ClassId) (fn : Gs → Int32 → Int64 → Option (Int32 × Gs)) : Prop :=
  ∀ {p : Program} {e : Env} {s : State} {m : MethodId} {args : Array Value} {below : List Frame} {meth : Method} {c : Code} {H : Heap} {locs : List Loc} {A : Nat → Prop} {ls : Array Slot} {gT : Gs} {v7 : Int32} {v9 : Int64} {q : Int32 × Gs}, Cx p s m args meth c cX12_counts (some .boolean) 11 RX12 lw_all → Hx D (tX12 yT) A s H locs (wX12 hT aT yT gT) → lv_has ls 11 [(0, .ref hT), (7, .int v7), (9, .long v9)] → fn gT v7 v9 = some q → W p l e R_X12_counts s m args below meth c H locs 0 0 (MQ below (QI D A (wX12 hT aT yT q.2) q.1) args s 0 0 A) (F0 m 252 ls [])
def S_X12_counts_250 (l : Launch) (D : Dx) (hT : Nat) (aT : Nat → Nat) (yT : Nat → ClassId) (fn : Gs → Int32 → Int64 → Option (Int32 × Gs)) : Prop :=
  ∀ {p : Program} {e : Env} {s : State} {m : MethodId} {args : Array Value} {below : List Frame} {meth : Method} {c : Code} {H : Heap} {locs : List Loc} {A : Nat → Prop} {ls : Array Slot} {gT : Gs} {v7 : Int32} {s0 : Int64} {q : Int32 × Gs}, Cx p s m args meth c cX12_counts (some .boolean) 11 RX12 lw_all → Hx D (tX12 yT) A s H locs (wX12 hT aT yT gT) → lv_has ls 11 [(0, .ref hT), (7, .int v7)] → fn gT v7 s0 = some q → W p l e R_X12_counts s m args below meth c H locs 0 0 (MQ below (QI D A (wX12 hT aT yT q.2) q.1) args s 0 0 A) (F0 m 250 ls [.long s0])
def S_X12_counts_228 (l : Launch) (D : Dx) (hT : Nat) (aT : Nat → Nat) (yT : Nat → ClassId) (fn : Gs → Int32 → Int64 → Option (Int32 × Gs)) : Prop :=
  ∀ {p : Program} {e : Env} {s : State} {m : MethodId} {args : Array Value} {below : List Frame} {meth : Method} {c : Code} {H : Heap} {locs : List Loc} {A : Nat → Prop} {ls : Array Slot} {gT : Gs} {v7 : Int32} {s0 : Int64} {q : Int32 × Gs}, Cx p s m args meth c cX12_counts (some .boolean) 11 RX12 lw_all → Hx D (tX12 yT) A s H locs (wX12 hT aT yT gT) → lv_has ls 11 [(0, .ref hT), (7, .int v7)] → fn gT v7 s0 = some q → W p l e R_X12_counts s m args below meth c H locs 0 0 (MQ below (QI D A (wX12 hT aT yT q.2) q.1) args s 0 0 A) (F0 m 228 ls [.long s0])
def S_X12_counts_162 (l : Launch) (D : Dx) (hT : Nat) (aT : Nat → Nat) (yT : Nat → ClassId) (fn : Gs → Int32 → Int64 → Int64 → Int32 → Option (Int32 × Gs)) : Prop :=
  ∀ {p : Program} {e : Env} {s : State} {m : MethodId} {args : Array Value} {below : List Frame} {meth : Method} {c : Code} {H : Heap} {locs : List Loc} {A : Nat → Prop} {ls : Array Slot} {gT : Gs} {v2 : Int32} {v3 : Int64} {v5 : Int64} {v7 : Int32} {q : Int32 × Gs}, Cx p s m args meth c cX12_counts (some .boolean) 11 RX12 lw_all → Hx D (tX12 yT) A s H locs (wX12 hT aT yT gT) → lv_has ls 11 [(0, .ref hT), (2, .int v2), (3, .long v3), (5, .long v5), (7, .int v7)] → fn gT v2 v3 v5 v7 = some q → W p l e R_X12_counts s m args below meth c H locs 0 0 (MQ below (QI D A (wX12 hT aT yT q.2) q.1) args s 0 0 A) (F0 m 162 ls [])
def S_X12_counts_111 (l : Launch) (D : Dx) (hT : Nat) (aT : Nat → Nat) (yT : Nat → ClassId) (fn : Gs → Int32 → Int32 → Int64 → Option (Int32 × Gs)) : Prop :=
  ∀ {p : Program} {e : Env} {s : State} {m : MethodId} {args : Array Value} {below : List Frame} {meth : Method} {c : Code} {H : Heap} {locs : List Loc} {A : Nat → Prop} {ls : Array Slot} {gT : Gs} {v1 : Int32} {v2 : Int32} {v9 : Int64} {q : Int32 × Gs}, Cx p s m args meth c cX12_counts (some .boolean) 11 RX12 lw_all → Hx D (tX12 yT) A s H locs (wX12 hT aT yT gT) → lv_has ls 11 [(0, .ref hT), (1, .int v1), (2, .int v2), (9, .long v9)] → fn gT v1 v2 v9 = some q → W p l e R_X12_counts s m args below meth c H locs 0 0 (MQ below (QI D A (wX12 hT aT yT q.2) q.1) args s 0 0 A) (F0 m 111 ls [])
def S_X12_counts_57 (l : Launch) (D : Dx) (hT : Nat) (aT : Nat → Nat) (yT : Nat → ClassId) (fn : Gs → Int32 → Int32 → Int64 → Int64 → Int32 → Option (Int32 × Gs)) : Prop :=
  ∀ {p : Program} {e : Env} {s : State} {m : MethodId} {args : Array Value} {below : List Frame} {meth : Method} {c : Code} {H : Heap} {locs : List Loc} {A : Nat → Prop} {ls : Array Slot} {gT : Gs} {v1 : Int32} {v2 : Int32} {v3 : Int64} {v5 : Int64} {v7 : Int32} {q : Int32 × Gs}, Cx p s m args meth c cX12_counts (some .boolean) 11 RX12 lw_all → Hx D (tX12 yT) A s H locs (wX12 hT aT yT gT) → lv_has ls 11 [(0, .ref hT), (1, .int v1), (2, .int v2), (3, .long v3), (5, .long v5), (7, .int v7)] → fn gT v1 v2 v3 v5 v7 = some q → W p l e R_X12_counts s m args below meth c H locs 0 0 (MQ below (QI D A (wX12 hT aT yT q.2) q.1) args s 0 0 A) (F0 m 57 ls [])
def S_X12_counts_17 (l : Launch) (D : Dx) (hT : Nat) (aT : Nat → Nat) (yT : Nat → ClassId) (fn : Gs → Int32 → Int32 → Int64 → Int64 → Int32 → Int32 → Option (Int32 × Gs)) : Prop :=
  ∀ {p : Program} {e : Env} {s : State} {m : MethodId} {args : Array Value} {below : List Frame} {meth : Method} {c : Code} {H : Heap} {locs : List Loc} {A : Nat → Prop} {ls : Array Slot} {gT : Gs} {v1 : Int32} {v2 : Int32} {v3 : Int64} {v5 : Int64} {v7 : Int32} {s0 : Int32} {q : Int32 × Gs}, Cx p s m args meth c cX12_counts (some .boolean) 11 RX12 lw_all → Hx D (tX12 yT) A s H locs (wX12 hT aT yT gT) → lv_has ls 11 [(0, .ref hT), (1, .int v1), (2, .int v2), (3, .long v3), (5, .long v5), (7, .int v7)] → fn gT v1 v2 v3 v5 v7 s0 = some q → W p l e R_X12_counts s m args below meth c H locs 0 0 (MQ below (QI D A (wX12 hT aT yT q.2) q.1) args s 0 0 A) (F0 m 17 ls [.int s0])
def S_X12_counts_12 (l : Launch) (D : Dx) (hT : Nat) (aT : Nat → Nat) (yT : Nat → ClassId) (fn : Gs → Int32 → Int32 → Int64 → Int64 → Int32 → Option (Int32 × Gs)) : Prop :=
  ∀ {p : Program} {e : Env} {s : State} {m : MethodId} {args : Array Value} {below : List Frame} {meth : Method} {c : Code} {H : Heap} {locs : List Loc} {A : Nat → Prop} {ls : Array Slot} {gT : Gs} {v1 : Int32} {v2 : Int32} {v3 : Int64} {v5 : Int64} {v7 : Int32} {q : Int32 × Gs}, Cx p s m args meth c cX12_counts (some .boolean) 11 RX12 lw_all → Hx D (tX12 yT) A s H locs (wX12 hT aT yT gT) → lv_has ls 11 [(0, .ref hT), (1, .int v1), (2, .int v2), (3, .long v3), (5, .long v5), (7, .int v7)] → fn gT v1 v2 v3 v5 v7 = some q → W p l e R_X12_counts s m args below meth c H locs 0 0 (MQ below (QI D A (wX12 hT aT yT q.2) q.1) args s 0 0 A) (F0 m 12 ls [])
set_option maxHeartbeats 4000000 in
set_option maxRecDepth 100000 in
theorem k_X12_counts_261 (l : Launch) (D : Dx) (hT : Nat) (aT : Nat → Nat) (yT : Nat → ClassId) (n : Nat) : S_X12_counts_261 l D hT aT yT (b_X12_counts_261 n) := by
  intro p e s m args below meth c H locs A ls gT v9 q C X hl hF
  obtain ⟨hx, hb, hr, hml, hown, hts, hlk⟩ := id C
  unfold b_X12_counts_261 at hF
  refine lv_aload_n hx hb dX12_counts_261 rfl (lv_at hl 0 rfl) ?_
  refine va_get (D := D.1) (ci := 12) (v := .ref (aT 92)) (C := RX12) (T := TX12) (N := 114) hx hb hts wi_X12 hown X.1 X.2.1 0 rfl rfl 92 (by decide) (hts _ q7_46) (fun _ h9 => h9) (fl_get (by decide)) dX12_counts_262 ?_
  refine lv_aload_n hx hb dX12_counts_265 rfl (lv_at hl 0 rfl) ?_
  refine va_get (D := D.1) (ci := 12) (v := .int (gI gT 93)) (C := RX12) (T := TX12) (N := 114) hx hb hts wi_X12 hown X.1 X.2.1 0 rfl rfl 93 (by decide) (hts _ q7_47) (fun _ h9 => h9) (fl_get (by decide)) dX12_counts_266 ?_
  refine lv_iconst (v := (1 : Int32)) hx hb dX12_counts_269 (by decide) ?_
  refine lv_isub hx hb dX12_counts_270 ?_
  refine lv_lload hx hb dX12_counts_271 (lv_at hl 1 rfl) ?_
  obtain ⟨h_6, hF⟩ := grd_some hF
  refine va_last (D := D.1) (f := gLA gT 92) hx hb X.1 X.2.1 X.2.2.1 X.2.2.2.1 63 62 rfl rfl (inB_ok h_6) dX12_counts_273 (fun H locs hP hD hS => ?_)
  have X : Hx D (tX12 yT) A s H locs (wX12 hT aT yT (sLA gT 92 (vp_updL (gLA gT 92) ((gI gT 93) - (1 : Int32)).toNatClampNeg v9))) := Hx_set X (wG_sLA (i := 62) (k := 92) ndX12 rfl rfl) hP hD hS
  refine lv_iconst (v := (1 : Int32)) hx hb dX12_counts_274 (by decide) ?_
  have hq := Option.some.inj hF
  subst hq
  exact rt_z (v := (1 : Int32)) C X (by decide) dX12_counts_275
set_option maxHeartbeats 4000000 in
set_option maxRecDepth 100000 in
theorem k_X12_counts_252 (l : Launch) (D : Dx) (hT : Nat) (aT : Nat → Nat) (yT : Nat → ClassId) (n : Nat) : S_X12_counts_252 l D hT aT yT (b_X12_counts_252 n) := by
  intro p e s m args below meth c H locs A ls gT v7 v9 q C X hl hF
  obtain ⟨hx, hb, hr, hml, hown, hts, hlk⟩ := id C
  unfold b_X12_counts_252 at hF
  refine lv_lload hx hb dX12_counts_252 (lv_at hl 2 rfl) ?_
  refine lv_iload hx hb dX12_counts_254 (lv_at hl 1 rfl) ?_
  obtain ⟨q_4, hc_5, hF⟩ := bnd_some hF
  refine cS_l (As := [.long v9, .int v7]) (rest := []) C X (c_X12_narrowed l D  v9 v7 q_4 hc_5 _) (va_cwS 2 hts (good_S q8_143 q8_144 q1_9 q8_145) rfl rfl rfl (by decide +kernel) ⟨Nat.le_of_ble_eq_true rfl, Nat.le_of_ble_eq_true rfl⟩) (eK X) eP (eD (A := A)) (eF X) hl.1 rfl rfl (Nat.le_of_ble_eq_true rfl) dX12_counts_256 ⟨Nat.le_of_ble_eq_true rfl, Nat.le_of_ble_eq_true rfl⟩ (fun t H1 locs1 ht hB hk hS => ?_)
  have X := Hx_after_none X hk hS
  clear hk hS ht hB
  generalize H1 = H at X ⊢
  generalize locs1 = locs at X ⊢
  refine lv_lstore (lv' := [(9, .long q_4), (0, .ref hT), (7, .int v7)]) hx hb dX12_counts_259 hl (by decide) rfl (fun ls hl => ?_)
  exact (k_X12_counts_261 l D hT aT yT n) C X (lv_sub hl [1, 0] rfl) hF
set_option maxHeartbeats 4000000 in
set_option maxRecDepth 100000 in
theorem k_X12_counts_250 (l : Launch) (D : Dx) (hT : Nat) (aT : Nat → Nat) (yT : Nat → ClassId) (n : Nat) : S_X12_counts_250 l D hT aT yT (b_X12_counts_250 n) := by
  intro p e s m args below meth c H locs A ls gT v7 s0 q C X hl hF
  obtain ⟨hx, hb, hr, hml, hown, hts, hlk⟩ := id C
  unfold b_X12_counts_250 at hF
  refine lv_lstore (lv' := [(9, .long s0), (0, .ref hT), (7, .int v7)]) hx hb dX12_counts_250 hl (by decide) rfl (fun ls hl => ?_)
  exact (k_X12_counts_252 l D hT aT yT n) C X (lv_sub hl [1, 2, 0] rfl) hF
set_option maxHeartbeats 4000000 in
set_option maxRecDepth 100000 in
theorem k_X12_counts_228 (l : Launch) (D : Dx) (hT : Nat) (aT : Nat → Nat) (yT : Nat → ClassId) (n : Nat) : S_X12_counts_228 l D hT aT yT (b_X12_counts_228 n) := by
  intro p e s m args below meth c H locs A ls gT v7 s0 q C X hl hF
  obtain ⟨hx, hb, hr, hml, hown, hts, hlk⟩ := id C
  unfold b_X12_counts_228 at hF
  refine lv_lstore (lv' := [(9, .long s0), (0, .ref hT), (7, .int v7)]) hx hb dX12_counts_228 hl (by decide) rfl (fun ls hl => ?_)
  refine lv_goto (tgt := 252) hx hb dX12_counts_230 (by decide) ?_
  exact (k_X12_counts_252 l D hT aT yT n) C X (lv_sub hl [1, 2, 0] rfl) hF
set_option maxHeartbeats 4000000 in
set_option maxRecDepth 100000 in
theorem k_X12_counts_162 (l : Launch) (D : Dx) (hT : Nat) (aT : Nat → Nat) (yT : Nat → ClassId) (n : Nat) : S_X12_counts_162 l D hT aT yT (b_X12_counts_162 n) := by
  intro p e s m args below meth c H locs A ls gT v2 v3 v5 v7 q C X hl hF
  obtain ⟨hx, hb, hr, hml, hown, hts, hlk⟩ := id C
  unfold b_X12_counts_162 at hF
  refine lv_iload_n hx hb dX12_counts_162 rfl (lv_at hl 1 rfl) ?_
  refine lv_bipush (v := (43 : Int32)) hx hb dX12_counts_163 (by decide) ?_
  refine lv_icmp_ne (tgt := 177) hx hb dX12_counts_165 (by decide) (fun c => ?_) (fun c => ?_)
  · replace hF := iF c hF
    refine lv_iload_n hx hb dX12_counts_177 rfl (lv_at hl 1 rfl) ?_
    refine lv_bipush (v := (45 : Int32)) hx hb dX12_counts_178 (by decide) ?_
    refine lv_icmp_ne (tgt := 192) hx hb dX12_counts_180 (by decide) (fun c => ?_) (fun c => ?_)
    · replace hF := iF c hF
      refine lv_iload_n hx hb dX12_counts_192 rfl (lv_at hl 1 rfl) ?_
      refine lv_bipush (v := (42 : Int32)) hx hb dX12_counts_193 (by decide) ?_
      refine lv_icmp_ne (tgt := 207) hx hb dX12_counts_195 (by decide) (fun c => ?_) (fun c => ?_)
      · replace hF := iF c hF
        refine lv_lload hx hb dX12_counts_207 (lv_at hl 3 rfl) ?_
        refine lv_ldc2 hx hb hown (hts _ q9_125) dX12_counts_209 ?_
        refine W.lcmp hx hb dX12_counts_212 ?_
        refine lv_if_ne (tgt := 233) hx hb dX12_counts_213 (by decide) (fun c => ?_) (fun c => ?_)
        · have c := fun h => c ((lg_cmp_eq _ _).mpr h)
          replace hF := iF c hF
          refine lv_iload_n hx hb dX12_counts_233 rfl (lv_at hl 1 rfl) ?_
          refine lv_bipush (v := (47 : Int32)) hx hb dX12_counts_234 (by decide) ?_
          refine lv_icmp_ne (tgt := 246) hx hb dX12_counts_236 (by decide) (fun c => ?_) (fun c => ?_)
          · replace hF := iF c hF
            refine lv_lload_n hx hb dX12_counts_246 rfl (lv_at hl 2 rfl) ?_
            refine lv_lload hx hb dX12_counts_247 (lv_at hl 3 rfl) ?_
            obtain ⟨h_3, hF⟩ := grd_some hF
            refine lv_lrem hx hb dX12_counts_249 (nzL_ok h_3) ?_
            exact (k_X12_counts_250 l D hT aT yT n) C X (lv_sub hl [0, 4] rfl) hF
          · replace hF := iT c hF
            refine lv_lload_n hx hb dX12_counts_239 rfl (lv_at hl 2 rfl) ?_
            refine lv_lload hx hb dX12_counts_240 (lv_at hl 3 rfl) ?_
            obtain ⟨h_7, hF⟩ := grd_some hF
            refine lv_ldiv hx hb dX12_counts_242 (nzL_ok h_7) ?_
            refine lv_goto (tgt := 250) hx hb dX12_counts_243 (by decide) ?_
            exact (k_X12_counts_250 l D hT aT yT n) C X (lv_sub hl [0, 4] rfl) hF
        · have c := (lg_cmp_eq _ _).mp c
          replace hF := iT c hF
          refine lv_iload_n hx hb dX12_counts_216 rfl (lv_at hl 1 rfl) ?_
          refine lv_bipush (v := (47 : Int32)) hx hb dX12_counts_217 (by decide) ?_
          refine lv_icmp_ne (tgt := 227) hx hb dX12_counts_219 (by decide) (fun c => ?_) (fun c => ?_)
          · replace hF := iF c hF
            refine lv_lconst (v := (0 : Int64)) hx hb dX12_counts_227 (by decide) ?_
            exact (k_X12_counts_228 l D hT aT yT n) C X (lv_sub hl [0, 4] rfl) hF
          · replace hF := iT c hF
            refine lv_lload_n hx hb dX12_counts_222 rfl (lv_at hl 2 rfl) ?_
            refine lv_lneg hx hb dX12_counts_223 ?_
            refine lv_goto (tgt := 228) hx hb dX12_counts_224 (by decide) ?_
            exact (k_X12_counts_228 l D hT aT yT n) C X (lv_sub hl [0, 4] rfl) hF
      · replace hF := iT c hF
        refine lv_lload_n hx hb dX12_counts_198 rfl (lv_at hl 2 rfl) ?_
        refine lv_lload hx hb dX12_counts_199 (lv_at hl 3 rfl) ?_
        refine lv_lmul hx hb dX12_counts_201 ?_
        refine lv_lstore (lv' := [(9, .long (v3 * v5)), (0, .ref hT), (2, .int v2), (3, .long v3), (5, .long v5), (7, .int v7)]) hx hb dX12_counts_202 hl (by decide) rfl (fun ls hl => ?_)
        refine lv_goto (tgt := 252) hx hb dX12_counts_204 (by decide) ?_
        exact (k_X12_counts_252 l D hT aT yT n) C X (lv_sub hl [1, 5, 0] rfl) hF
    · replace hF := iT c hF
      refine lv_lload_n hx hb dX12_counts_183 rfl (lv_at hl 2 rfl) ?_
      refine lv_lload hx hb dX12_counts_184 (lv_at hl 3 rfl) ?_
      refine lv_lsub hx hb dX12_counts_186 ?_
      refine lv_lstore (lv' := [(9, .long (v3 - v5)), (0, .ref hT), (2, .int v2), (3, .long v3), (5, .long v5), (7, .int v7)]) hx hb dX12_counts_187 hl (by decide) rfl (fun ls hl => ?_)
      refine lv_goto (tgt := 252) hx hb dX12_counts_189 (by decide) ?_
      exact (k_X12_counts_252 l D hT aT yT n) C X (lv_sub hl [1, 5, 0] rfl) hF
  · replace hF := iT c hF
    refine lv_lload_n hx hb dX12_counts_168 rfl (lv_at hl 2 rfl) ?_
    refine lv_lload hx hb dX12_counts_169 (lv_at hl 3 rfl) ?_
    refine lv_ladd hx hb dX12_counts_171 ?_
    refine lv_lstore (lv' := [(9, .long (v3 + v5)), (0, .ref hT), (2, .int v2), (3, .long v3), (5, .long v5), (7, .int v7)]) hx hb dX12_counts_172 hl (by decide) rfl (fun ls hl => ?_)
    refine lv_goto (tgt := 252) hx hb dX12_counts_174 (by decide) ?_
    exact (k_X12_counts_252 l D hT aT yT n) C X (lv_sub hl [1, 5, 0] rfl) hF
set_option maxHeartbeats 4000000 in
set_option maxRecDepth 100000 in
theorem k_X12_counts_111 (l : Launch) (D : Dx) (hT : Nat) (aT : Nat → Nat) (yT : Nat → ClassId) (n : Nat) : S_X12_counts_111 l D hT aT yT (b_X12_counts_111 n) := by
  intro p e s m args below meth c H locs A ls gT v1 v2 v9 q C X hl hF
  obtain ⟨hx, hb, hr, hml, hown, hts, hlk⟩ := id C
  unfold b_X12_counts_111 at hF
  refine lv_iload_n hx hb dX12_counts_111 rfl (lv_at hl 2 rfl) ?_
  refine lv_bipush (v := (37 : Int32)) hx hb dX12_counts_112 (by decide) ?_
  refine lv_icmp_eq (tgt := 261) hx hb dX12_counts_114 (by decide) (fun c => ?_) (fun c => ?_)
  · replace hF := iT c hF
    exact (k_X12_counts_261 l D hT aT yT n) C X (lv_sub hl [0, 3] rfl) hF
  · replace hF := iF c hF
    refine lv_lload hx hb dX12_counts_117 (lv_at hl 3 rfl) ?_
    refine lv_ldc2 hx hb hown (hts _ q8_99) dX12_counts_119 ?_
    refine W.lcmp hx hb dX12_counts_122 ?_
    refine lv_if_ne (tgt := 261) hx hb dX12_counts_123 (by decide) (fun c => ?_) (fun c => ?_)
    · have c := fun h => c ((lg_cmp_eq _ _).mpr h)
      replace hF := iF c hF
      exact (k_X12_counts_261 l D hT aT yT n) C X (lv_sub hl [0, 3] rfl) hF
    · have c := (lg_cmp_eq _ _).mp c
      replace hF := iT c hF
      refine lv_aload_n hx hb dX12_counts_126 rfl (lv_at hl 0 rfl) ?_
      refine lv_iconst (v := (3 : Int32)) hx hb dX12_counts_127 (by decide) ?_
      refine lv_aload_n hx hb dX12_counts_128 rfl (lv_at hl 0 rfl) ?_
      refine va_get (D := D.1) (ci := 12) (v := .ref (aT 17)) (C := RX12) (T := TX12) (N := 114) hx hb hts wi_X12 hown X.1 X.2.1 0 rfl rfl 17 (by decide) (hts _ q6_211) (fun _ h9 => h9) (fl_get (by decide)) dX12_counts_129 ?_
      refine lv_iload_n hx hb dX12_counts_132 rfl (lv_at hl 1 rfl) ?_
      obtain ⟨h_14, hF⟩ := grd_some hF
      refine va_iald (D := D.1) (f := gIA gT 17) hx hb X.1 X.2.1 12 11 rfl rfl (inB_ok h_14) dX12_counts_133 ?_
      obtain ⟨q_15, hc_16, hF⟩ := bnd_some hF
      refine cV_i (As := [.int (3 : Int32), .int (gIA gT 17 v1.toNatClampNeg)]) (rest := []) C X (c_X12_jams l D hT aT yT gT (3 : Int32) (gIA gT 17 v1.toNatClampNeg) q_15 hc_16 _) (cwV 2 hts (good_V q9_110 q9_112 q0_117 q1_9 q9_113) rfl rfl rfl (by decide +kernel) ⟨Nat.le_of_ble_eq_true rfl, Nat.le_of_ble_eq_true rfl⟩) (va_recv X.1 X.2.1 (ci := 12) (q0 := 0) rfl rfl) X.1 X.2.1 X.2.2.1 (free_all X) hl.1 rfl rfl (Nat.le_of_ble_eq_true rfl) dX12_counts_134 ⟨Nat.le_of_ble_eq_true rfl, Nat.le_of_ble_eq_true rfl⟩ (fun t H1 locs1 ht hB hk hS => ?_)
      have X : Hx D (tX12 yT) A s H1 locs1 (wX12 hT aT yT q_15.2) := Hx_after_all X ht hB hS
      clear hk hS ht hB
      generalize H1 = H at X ⊢
      generalize locs1 = locs at X ⊢
      obtain ⟨h_17, hF⟩ := grd_some hF
      have hq := Option.some.inj hF
      subst hq
      exact rt_z (v := q_15.1) C X (zB_n h_17) dX12_counts_137
set_option maxHeartbeats 4000000 in
set_option maxRecDepth 100000 in
theorem k_X12_counts_57 (l : Launch) (D : Dx) (hT : Nat) (aT : Nat → Nat) (yT : Nat → ClassId) (n : Nat) : S_X12_counts_57 l D hT aT yT (b_X12_counts_57 n) := by
  intro p e s m args below meth c H locs A ls gT v1 v2 v3 v5 v7 q C X hl hF
  obtain ⟨hx, hb, hr, hml, hown, hts, hlk⟩ := id C
  unfold b_X12_counts_57 at hF
  refine lv_iload_n hx hb dX12_counts_57 rfl (lv_at hl 2 rfl) ?_
  refine lv_bipush (v := (37 : Int32)) hx hb dX12_counts_58 (by decide) ?_
  refine lv_icmp_ne (tgt := 99) hx hb dX12_counts_60 (by decide) (fun c => ?_) (fun c => ?_)
  · replace hF := iF c hF
    refine lv_aload_n hx hb dX12_counts_99 rfl (lv_at hl 0 rfl) ?_
    refine lv_iload_n hx hb dX12_counts_100 rfl (lv_at hl 2 rfl) ?_
    refine lv_lload_n hx hb dX12_counts_101 rfl (lv_at hl 3 rfl) ?_
    refine lv_lload hx hb dX12_counts_102 (lv_at hl 4 rfl) ?_
    refine lv_iload hx hb dX12_counts_104 (lv_at hl 5 rfl) ?_
    obtain ⟨q_12, hc_13, hF⟩ := bnd_some hF
    refine cV_l (As := [.int v2, .long v3, .long v5, .int v7]) (rest := []) C X (c_X12_reckoned l D hT aT yT n gT v2 v3 v5 v7 q_12 hc_13 _) (cwV 4 hts (good_V q9_114 q9_116 q0_118 q1_9 q9_117) rfl rfl rfl (by decide +kernel) ⟨Nat.le_of_ble_eq_true rfl, Nat.le_of_ble_eq_true rfl⟩) (va_recv X.1 X.2.1 (ci := 12) (q0 := 0) rfl rfl) X.1 X.2.1 X.2.2.1 (free_all X) hl.1 rfl rfl (Nat.le_of_ble_eq_true rfl) dX12_counts_106 ⟨Nat.le_of_ble_eq_true rfl, Nat.le_of_ble_eq_true rfl⟩ (fun t H1 locs1 ht hB hk hS => ?_)
    have X : Hx D (tX12 yT) A s H1 locs1 (wX12 hT aT yT q_12.2) := Hx_after_all X ht hB hS
    clear hk hS ht hB
    generalize H1 = H at X ⊢
    generalize locs1 = locs at X ⊢
    refine lv_lstore (lv' := [(9, .long q_12.1), (0, .ref hT), (1, .int v1), (2, .int v2), (3, .long v3), (5, .long v5), (7, .int v7)]) hx hb dX12_counts_109 hl (by decide) rfl (fun ls hl => ?_)
    exact (k_X12_counts_111 l D hT aT yT n) C X (lv_sub hl [1, 2, 3, 0] rfl) hF
  · replace hF := iT c hF
    refine lv_aload_n hx hb dX12_counts_63 rfl (lv_at hl 0 rfl) ?_
    refine lv_aload_n hx hb dX12_counts_64 rfl (lv_at hl 0 rfl) ?_
    refine lv_aload_n hx hb dX12_counts_65 rfl (lv_at hl 0 rfl) ?_
    refine lv_lload_n hx hb dX12_counts_66 rfl (lv_at hl 3 rfl) ?_
    refine lv_iload hx hb dX12_counts_67 (lv_at hl 5 rfl) ?_
    refine lv_bipush (v := (7 : Int32)) hx hb dX12_counts_69 (by decide) ?_
    obtain ⟨q_18, hc_19, hF⟩ := bnd_some hF
    refine cV_l (As := [.long v3, .int v7, .int (7 : Int32)]) (rest := [.ref hT, .ref hT]) C X (c_X12_become l D hT aT yT n gT v3 v7 (7 : Int32) q_18 hc_19 _) (cwV 3 hts (good_V q8_136 q8_138 q0_73 q1_9 q8_139) rfl rfl rfl (by decide +kernel) ⟨Nat.le_of_ble_eq_true rfl, Nat.le_of_ble_eq_true rfl⟩) (va_recv X.1 X.2.1 (ci := 12) (q0 := 0) rfl rfl) X.1 X.2.1 X.2.2.1 (free_all X) hl.1 rfl rfl (Nat.le_of_ble_eq_true rfl) dX12_counts_71 ⟨Nat.le_of_ble_eq_true rfl, Nat.le_of_ble_eq_true rfl⟩ (fun t H1 locs1 ht hB hk hS => ?_)
    have X : Hx D (tX12 yT) A s H1 locs1 (wX12 hT aT yT q_18.2) := Hx_after_all X ht hB hS
    clear hk hS ht hB
    generalize H1 = H at X ⊢
    generalize locs1 = locs at X ⊢
    refine lv_aload_n hx hb dX12_counts_74 rfl (lv_at hl 0 rfl) ?_
    refine lv_lload hx hb dX12_counts_75 (lv_at hl 4 rfl) ?_
    refine lv_iload hx hb dX12_counts_77 (lv_at hl 5 rfl) ?_
    refine lv_bipush (v := (7 : Int32)) hx hb dX12_counts_79 (by decide) ?_
    obtain ⟨q_20, hc_21, hF⟩ := bnd_some hF
    refine cV_l (As := [.long v5, .int v7, .int (7 : Int32)]) (rest := [.long q_18.1, .ref hT, .ref hT]) C X (c_X12_become l D hT aT yT n q_18.2 v5 v7 (7 : Int32) q_20 hc_21 _) (cwV 3 hts (good_V q8_136 q8_138 q0_73 q1_9 q8_139) rfl rfl rfl (by decide +kernel) ⟨Nat.le_of_ble_eq_true rfl, Nat.le_of_ble_eq_true rfl⟩) (va_recv X.1 X.2.1 (ci := 12) (q0 := 0) rfl rfl) X.1 X.2.1 X.2.2.1 (free_all X) hl.1 rfl rfl (Nat.le_of_ble_eq_true rfl) dX12_counts_81 ⟨Nat.le_of_ble_eq_true rfl, Nat.le_of_ble_eq_true rfl⟩ (fun t H1 locs1 ht hB hk hS => ?_)
    have X : Hx D (tX12 yT) A s H1 locs1 (wX12 hT aT yT q_20.2) := Hx_after_all X ht hB hS
    clear hk hS ht hB
    generalize H1 = H at X ⊢
    generalize locs1 = locs at X ⊢
    obtain ⟨q_22, hc_23, hF⟩ := bnd_some hF
    refine cV_l (As := [.long q_18.1, .long q_20.1]) (rest := [.ref hT]) C X (c_X12_remainder l D hT aT yT n q_20.2 q_18.1 q_20.1 q_22 hc_23 _) (cwV 2 hts (good_V q9_92 q9_94 q0_114 q1_9 q9_95) rfl rfl rfl (by decide +kernel) ⟨Nat.le_of_ble_eq_true rfl, Nat.le_of_ble_eq_true rfl⟩) (va_recv X.1 X.2.1 (ci := 12) (q0 := 0) rfl rfl) X.1 X.2.1 X.2.2.1 (free_all X) hl.1 rfl rfl (Nat.le_of_ble_eq_true rfl) dX12_counts_84 ⟨Nat.le_of_ble_eq_true rfl, Nat.le_of_ble_eq_true rfl⟩ (fun t H1 locs1 ht hB hk hS => ?_)
    have X : Hx D (tX12 yT) A s H1 locs1 (wX12 hT aT yT q_22.2) := Hx_after_all X ht hB hS
    clear hk hS ht hB
    generalize H1 = H at X ⊢
    generalize locs1 = locs at X ⊢
    refine lv_bipush (v := (7 : Int32)) hx hb dX12_counts_87 (by decide) ?_
    refine lv_iload hx hb dX12_counts_89 (lv_at hl 5 rfl) ?_
    obtain ⟨q_24, hc_25, hF⟩ := bnd_some hF
    refine cV_l (As := [.long q_22.1, .int (7 : Int32), .int v7]) (rest := []) C X (c_X12_become l D hT aT yT n q_22.2 q_22.1 (7 : Int32) v7 q_24 hc_25 _) (cwV 3 hts (good_V q8_136 q8_138 q0_73 q1_9 q8_139) rfl rfl rfl (by decide +kernel) ⟨Nat.le_of_ble_eq_true rfl, Nat.le_of_ble_eq_true rfl⟩) (va_recv X.1 X.2.1 (ci := 12) (q0 := 0) rfl rfl) X.1 X.2.1 X.2.2.1 (free_all X) hl.1 rfl rfl (Nat.le_of_ble_eq_true rfl) dX12_counts_91 ⟨Nat.le_of_ble_eq_true rfl, Nat.le_of_ble_eq_true rfl⟩ (fun t H1 locs1 ht hB hk hS => ?_)
    have X : Hx D (tX12 yT) A s H1 locs1 (wX12 hT aT yT q_24.2) := Hx_after_all X ht hB hS
    clear hk hS ht hB
    generalize H1 = H at X ⊢
    generalize locs1 = locs at X ⊢
    refine lv_lstore (lv' := [(9, .long q_24.1), (0, .ref hT), (1, .int v1), (2, .int v2), (3, .long v3), (5, .long v5), (7, .int v7)]) hx hb dX12_counts_94 hl (by decide) rfl (fun ls hl => ?_)
    refine lv_goto (tgt := 111) hx hb dX12_counts_96 (by decide) ?_
    exact (k_X12_counts_111 l D hT aT yT n) C X (lv_sub hl [1, 2, 3, 0] rfl) hF
set_option maxHeartbeats 4000000 in
set_option maxRecDepth 100000 in
theorem k_X12_counts_17 (l : Launch) (D : Dx) (hT : Nat) (aT : Nat → Nat) (yT : Nat → ClassId) (n : Nat) : S_X12_counts_17 l D hT aT yT (b_X12_counts_17 n) := by
  intro p e s m args below meth c H locs A ls gT v1 v2 v3 v5 v7 s0 q C X hl hF
  obtain ⟨hx, hb, hr, hml, hown, hts, hlk⟩ := id C
  unfold b_X12_counts_17 at hF
  refine lv_istore (lv' := [(8, .int s0), (0, .ref hT), (1, .int v1), (2, .int v2), (3, .long v3), (5, .long v5), (7, .int v7)]) hx hb dX12_counts_17 hl (by decide) rfl (fun ls hl => ?_)
  refine lv_lconst (v := (0 : Int64)) hx hb dX12_counts_19 (by decide) ?_
  refine lv_lstore (lv' := [(9, .long (0 : Int64)), (8, .int s0), (0, .ref hT), (1, .int v1), (2, .int v2), (3, .long v3), (5, .long v5), (7, .int v7)]) hx hb dX12_counts_20 hl (by decide) rfl (fun ls hl => ?_)
  refine lv_iload hx hb dX12_counts_22 (lv_at hl 7 rfl) ?_
  obtain ⟨q_1, hc_2, hF⟩ := bnd_some hF
  refine cS_i (As := [.int v7]) (rest := []) C X (c_X12_isReal l D  v7 q_1 hc_2 _) (va_cwS 1 hts (good_S q8_101 q8_102 q1_9 q8_103) rfl rfl rfl (by decide +kernel) ⟨Nat.le_of_ble_eq_true rfl, Nat.le_of_ble_eq_true rfl⟩) (eK X) eP (eD (A := A)) (eF X) hl.1 rfl rfl (Nat.le_of_ble_eq_true rfl) dX12_counts_24 ⟨Nat.le_of_ble_eq_true rfl, Nat.le_of_ble_eq_true rfl⟩ (fun t H1 locs1 ht hB hk hS => ?_)
  have X := Hx_after_none X hk hS
  clear hk hS ht hB
  generalize H1 = H at X ⊢
  generalize locs1 = locs at X ⊢
  refine lv_if_eq (tgt := 138) hx hb dX12_counts_27 (by decide) (fun c => ?_) (fun c => ?_)
  · replace hF := iT c hF
    refine lv_iload hx hb dX12_counts_138 (lv_at hl 1 rfl) ?_
    refine lv_if_eq (tgt := 162) hx hb dX12_counts_140 (by decide) (fun c => ?_) (fun c => ?_)
    · replace hF := iT c hF
      exact (k_X12_counts_162 l D hT aT yT n) C X (lv_sub hl [2, 4, 5, 6, 7] rfl) hF
    · replace hF := iF c hF
      refine lv_lload hx hb dX12_counts_143 (lv_at hl 6 rfl) ?_
      refine lv_lconst (v := (0 : Int64)) hx hb dX12_counts_145 (by decide) ?_
      refine W.lcmp hx hb dX12_counts_146 ?_
      refine lv_if_ne (tgt := 162) hx hb dX12_counts_147 (by decide) (fun c => ?_) (fun c => ?_)
      · have c := fun h => c ((lg_cmp_eq _ _).mpr h)
        replace hF := iF c hF
        exact (k_X12_counts_162 l D hT aT yT n) C X (lv_sub hl [2, 4, 5, 6, 7] rfl) hF
      · have c := (lg_cmp_eq _ _).mp c
        replace hF := iT c hF
        refine lv_aload_n hx hb dX12_counts_150 rfl (lv_at hl 2 rfl) ?_
        refine lv_iconst (v := (1 : Int32)) hx hb dX12_counts_151 (by decide) ?_
        refine lv_aload_n hx hb dX12_counts_152 rfl (lv_at hl 2 rfl) ?_
        refine va_get (D := D.1) (ci := 12) (v := .ref (aT 17)) (C := RX12) (T := TX12) (N := 114) hx hb hts wi_X12 hown X.1 X.2.1 0 rfl rfl 17 (by decide) (hts _ q6_211) (fun _ h9 => h9) (fl_get (by decide)) dX12_counts_153 ?_
        refine lv_iload_n hx hb dX12_counts_156 rfl (lv_at hl 3 rfl) ?_
        obtain ⟨h_8, hF⟩ := grd_some hF
        refine va_iald (D := D.1) (f := gIA gT 17) hx hb X.1 X.2.1 12 11 rfl rfl (inB_ok h_8) dX12_counts_157 ?_
        obtain ⟨q_9, hc_10, hF⟩ := bnd_some hF
        refine cV_i (As := [.int (1 : Int32), .int (gIA gT 17 v1.toNatClampNeg)]) (rest := []) C X (c_X12_jams l D hT aT yT gT (1 : Int32) (gIA gT 17 v1.toNatClampNeg) q_9 hc_10 _) (cwV 2 hts (good_V q9_110 q9_112 q0_117 q1_9 q9_113) rfl rfl rfl (by decide +kernel) ⟨Nat.le_of_ble_eq_true rfl, Nat.le_of_ble_eq_true rfl⟩) (va_recv X.1 X.2.1 (ci := 12) (q0 := 0) rfl rfl) X.1 X.2.1 X.2.2.1 (free_all X) hl.1 rfl rfl (Nat.le_of_ble_eq_true rfl) dX12_counts_158 ⟨Nat.le_of_ble_eq_true rfl, Nat.le_of_ble_eq_true rfl⟩ (fun t H1 locs1 ht hB hk hS => ?_)
        have X : Hx D (tX12 yT) A s H1 locs1 (wX12 hT aT yT q_9.2) := Hx_after_all X ht hB hS
        clear hk hS ht hB
        generalize H1 = H at X ⊢
        generalize locs1 = locs at X ⊢
        obtain ⟨h_11, hF⟩ := grd_some hF
        have hq := Option.some.inj hF
        subst hq
        exact rt_z (v := q_9.1) C X (zB_n h_11) dX12_counts_161
  · replace hF := iF c hF
    refine lv_iload hx hb dX12_counts_30 (lv_at hl 1 rfl) ?_
    refine lv_if_eq (tgt := 57) hx hb dX12_counts_32 (by decide) (fun c => ?_) (fun c => ?_)
    · replace hF := iT c hF
      exact (k_X12_counts_57 l D hT aT yT n) C X (lv_sub hl [2, 3, 4, 5, 6, 7] rfl) hF
    · replace hF := iF c hF
      refine lv_lload hx hb dX12_counts_35 (lv_at hl 6 rfl) ?_
      refine lv_iload hx hb dX12_counts_37 (lv_at hl 7 rfl) ?_
      obtain ⟨q_26, hc_27, hF⟩ := bnd_some hF
      refine cS_i (As := [.long v5, .int v7]) (rest := []) C X (c_X12_isZero l D  v5 v7 q_26 hc_27 _) (va_cwS 2 hts (good_S q9_107 q9_108 q1_9 q9_109) rfl rfl rfl (by decide +kernel) ⟨Nat.le_of_ble_eq_true rfl, Nat.le_of_ble_eq_true rfl⟩) (eK X) eP (eD (A := A)) (eF X) hl.1 rfl rfl (Nat.le_of_ble_eq_true rfl) dX12_counts_39 ⟨Nat.le_of_ble_eq_true rfl, Nat.le_of_ble_eq_true rfl⟩ (fun t H1 locs1 ht hB hk hS => ?_)
      have X := Hx_after_none X hk hS
      clear hk hS ht hB
      generalize H1 = H at X ⊢
      generalize locs1 = locs at X ⊢
      refine lv_if_eq (tgt := 57) hx hb dX12_counts_42 (by decide) (fun c => ?_) (fun c => ?_)
      · replace hF := iT c hF
        exact (k_X12_counts_57 l D hT aT yT n) C X (lv_sub hl [2, 3, 4, 5, 6, 7] rfl) hF
      · replace hF := iF c hF
        refine lv_aload_n hx hb dX12_counts_45 rfl (lv_at hl 2 rfl) ?_
        refine lv_iconst (v := (2 : Int32)) hx hb dX12_counts_46 (by decide) ?_
        refine lv_aload_n hx hb dX12_counts_47 rfl (lv_at hl 2 rfl) ?_
        refine va_get (D := D.1) (ci := 12) (v := .ref (aT 17)) (C := RX12) (T := TX12) (N := 114) hx hb hts wi_X12 hown X.1 X.2.1 0 rfl rfl 17 (by decide) (hts _ q6_211) (fun _ h9 => h9) (fl_get (by decide)) dX12_counts_48 ?_
        refine lv_iload_n hx hb dX12_counts_51 rfl (lv_at hl 3 rfl) ?_
        obtain ⟨h_28, hF⟩ := grd_some hF
        refine va_iald (D := D.1) (f := gIA gT 17) hx hb X.1 X.2.1 12 11 rfl rfl (inB_ok h_28) dX12_counts_52 ?_
        obtain ⟨q_29, hc_30, hF⟩ := bnd_some hF
        refine cV_i (As := [.int (2 : Int32), .int (gIA gT 17 v1.toNatClampNeg)]) (rest := []) C X (c_X12_jams l D hT aT yT gT (2 : Int32) (gIA gT 17 v1.toNatClampNeg) q_29 hc_30 _) (cwV 2 hts (good_V q9_110 q9_112 q0_117 q1_9 q9_113) rfl rfl rfl (by decide +kernel) ⟨Nat.le_of_ble_eq_true rfl, Nat.le_of_ble_eq_true rfl⟩) (va_recv X.1 X.2.1 (ci := 12) (q0 := 0) rfl rfl) X.1 X.2.1 X.2.2.1 (free_all X) hl.1 rfl rfl (Nat.le_of_ble_eq_true rfl) dX12_counts_53 ⟨Nat.le_of_ble_eq_true rfl, Nat.le_of_ble_eq_true rfl⟩ (fun t H1 locs1 ht hB hk hS => ?_)
        have X : Hx D (tX12 yT) A s H1 locs1 (wX12 hT aT yT q_29.2) := Hx_after_all X ht hB hS
        clear hk hS ht hB
        generalize H1 = H at X ⊢
        generalize locs1 = locs at X ⊢
        obtain ⟨h_31, hF⟩ := grd_some hF
        have hq := Option.some.inj hF
        subst hq
        exact rt_z (v := q_29.1) C X (zB_n h_31) dX12_counts_56
set_option maxHeartbeats 4000000 in
set_option maxRecDepth 100000 in
theorem k_X12_counts_12 (l : Launch) (D : Dx) (hT : Nat) (aT : Nat → Nat) (yT : Nat → ClassId) (n : Nat) : S_X12_counts_12 l D hT aT yT (b_X12_counts_12 n) := by
  intro p e s m args below meth c H locs A ls gT v1 v2 v3 v5 v7 q C X hl hF
  obtain ⟨hx, hb, hr, hml, hown, hts, hlk⟩ := id C
  unfold b_X12_counts_12 at hF
  refine lv_iconst (v := (1 : Int32)) hx hb dX12_counts_12 (by decide) ?_
  refine lv_goto (tgt := 17) hx hb dX12_counts_13 (by decide) ?_
  exact (k_X12_counts_17 l D hT aT yT n) C X (lv_sub hl [0, 1, 2, 3, 4, 5] rfl) hF
set_option maxHeartbeats 4000000 in
set_option maxRecDepth 100000 in
theorem c_X12_counts (l : Launch) (D : Dx) (hT : Nat) (aT : Nat → Nat) (yT : Nat → ClassId) (n : Nat) (gT : Gs) (x0 : Int32) (x1 : Int32) (x2 : Int64) (x3 : Int64) (x4 : Int32) (q : Int32 × Gs) (hF : f_X12_counts n gT x0 x1 x2 x3 x4 = some q) (sz : Nat) : Met l yX12_counts (ws_ yX12_counts cX12_counts 11 (some .boolean)) R_X12_counts (PC D (tX12 yT) [.ref hT, .int x0, .int x1, .long x2, .long x3, .int x4] (wX12 hT aT yT gT) sz) (QI D (va_A (wX12 hT aT yT gT) sz) (wX12 hT aT yT q.2) q.1) 0 0 (va_A (wX12 hT aT yT gT) sz) := by
  refine Met.ofW (cc := cX12_counts) (maxL := 11) (ret := (some .boolean)) (by decide) rfl ?_
  intro p e s m args below meth c s₁ B hml hv
  obtain ⟨rfl, hsz, hP, hK, hD, hN⟩ := hv
  subst hsz
  have C : Cx p s m _ meth c cX12_counts (some .boolean) 11 RX12 lw_all := Cx_of B hml
  have X := Hx_start hP hK hD hN
  obtain ⟨hx, hb, hr, -, hown, hts, hlk⟩ := id C
  generalize va_A (wX12 hT aT yT gT) s.heap.size = A at X ⊢
  have hl := lv_entry ([.ref hT, .int x0, .int x1, .long x2, .long x3, .int x4]) (n := 11) (Nat.le_of_ble_eq_true rfl)
  rw [lg_entry_eq]
  generalize (lg_sl ([.ref hT, .int x0, .int x1, .long x2, .long x3, .int x4]) ++ List.replicate (11 - (lg_sl ([.ref hT, .int x0, .int x1, .long x2, .long x3, .int x4])).length) Slot.unset).toArray = ls at hl ⊢
  have hl : lv_has ls 11 [(0, .ref hT), (1, .int x0), (2, .int x1), (3, .long x2), (5, .long x3), (7, .int x4)] := hl
  unfold f_X12_counts at hF
  refine lv_iload_n hx hb dX12_counts_0 rfl (lv_at hl 2 rfl) ?_
  refine lv_bipush (v := (47 : Int32)) hx hb dX12_counts_1 (by decide) ?_
  refine lv_icmp_eq (tgt := 12) hx hb dX12_counts_3 (by decide) (fun c => ?_) (fun c => ?_)
  · replace hF := iT c hF
    exact (k_X12_counts_12 l D hT aT yT n) C X (lv_sub hl [0, 1, 2, 3, 4, 5] rfl) hF
  · replace hF := iF c hF
    refine lv_iload_n hx hb dX12_counts_6 rfl (lv_at hl 2 rfl) ?_
    refine lv_bipush (v := (37 : Int32)) hx hb dX12_counts_7 (by decide) ?_
    refine lv_icmp_ne (tgt := 16) hx hb dX12_counts_9 (by decide) (fun c => ?_) (fun c => ?_)
    · replace hF := iF c hF
      refine lv_iconst (v := (0 : Int32)) hx hb dX12_counts_16 (by decide) ?_
      exact (k_X12_counts_17 l D hT aT yT n) C X (lv_sub hl [0, 1, 2, 3, 4, 5] rfl) hF
    · replace hF := iT c hF
      exact (k_X12_counts_12 l D hT aT yT n) C X (lv_sub hl [0, 1, 2, 3, 4, 5] rfl) hF

/-! ### X12_holds -/
theorem dX12_holds_0 : decode cX12_holds 0 = .ok (.lload_n 2, 1) := by decide +kernel
theorem dX12_holds_1 : decode cX12_holds 1 = .ok (.lload 4, 2) := by decide +kernel
theorem dX12_holds_3 : decode cX12_holds 3 = .ok (.lcmp, 1) := by decide +kernel
theorem dX12_holds_4 : decode cX12_holds 4 = .ok (.ifCond .ge 7, 3) := by decide +kernel
theorem dX12_holds_7 : decode cX12_holds 7 = .ok (.iconst (-1), 1) := by decide +kernel
theorem dX12_holds_8 : decode cX12_holds 8 = .ok (.goto 15, 3) := by decide +kernel
theorem dX12_holds_11 : decode cX12_holds 11 = .ok (.lload_n 2, 1) := by decide +kernel
theorem dX12_holds_12 : decode cX12_holds 12 = .ok (.lload 4, 2) := by decide +kernel
theorem dX12_holds_14 : decode cX12_holds 14 = .ok (.lcmp, 1) := by decide +kernel
theorem dX12_holds_15 : decode cX12_holds 15 = .ok (.ifCond .le 7, 3) := by decide +kernel
theorem dX12_holds_18 : decode cX12_holds 18 = .ok (.iconst 1, 1) := by decide +kernel
theorem dX12_holds_19 : decode cX12_holds 19 = .ok (.goto 4, 3) := by decide +kernel
theorem dX12_holds_22 : decode cX12_holds 22 = .ok (.iconst 0, 1) := by decide +kernel
theorem dX12_holds_23 : decode cX12_holds 23 = .ok (.istore 7, 2) := by decide +kernel
theorem dX12_holds_25 : decode cX12_holds 25 = .ok (.iload 6, 2) := by decide +kernel
theorem dX12_holds_27 : decode cX12_holds 27 = .ok (.invokestatic 462, 3) := by decide +kernel
theorem dX12_holds_30 : decode cX12_holds 30 = .ok (.ifCond .eq 27, 3) := by decide +kernel
theorem dX12_holds_33 : decode cX12_holds 33 = .ok (.aload_n 0, 1) := by decide +kernel
theorem dX12_holds_34 : decode cX12_holds 34 = .ok (.lload_n 2, 1) := by decide +kernel
theorem dX12_holds_35 : decode cX12_holds 35 = .ok (.iload 6, 2) := by decide +kernel
theorem dX12_holds_37 : decode cX12_holds 37 = .ok (.bipush 7, 2) := by decide +kernel
theorem dX12_holds_39 : decode cX12_holds 39 = .ok (.invokevirtual 488, 3) := by decide +kernel
theorem dX12_holds_42 : decode cX12_holds 42 = .ok (.aload_n 0, 1) := by decide +kernel
theorem dX12_holds_43 : decode cX12_holds 43 = .ok (.lload 4, 2) := by decide +kernel
theorem dX12_holds_45 : decode cX12_holds 45 = .ok (.iload 6, 2) := by decide +kernel
theorem dX12_holds_47 : decode cX12_holds 47 = .ok (.bipush 7, 2) := by decide +kernel
theorem dX12_holds_49 : decode cX12_holds 49 = .ok (.invokevirtual 488, 3) := by decide +kernel
theorem dX12_holds_52 : decode cX12_holds 52 = .ok (.invokestatic 683, 3) := by decide +kernel
theorem dX12_holds_55 : decode cX12_holds 55 = .ok (.istore 7, 2) := by decide +kernel
theorem dX12_holds_57 : decode cX12_holds 57 = .ok (.iload_n 1, 1) := by decide +kernel
theorem dX12_holds_58 : decode cX12_holds 58 = .ok (.lookupswitch 105 #[(60, 94), (161, 61), (188, 72), (189, 50), (190, 83)], 50) := by decide +kernel
theorem dX12_holds_108 : decode cX12_holds 108 = .ok (.iload 7, 2) := by decide +kernel
theorem dX12_holds_110 : decode cX12_holds 110 = .ok (.ifCond .ne 7, 3) := by decide +kernel
theorem dX12_holds_113 : decode cX12_holds 113 = .ok (.iconst 1, 1) := by decide +kernel
theorem dX12_holds_114 : decode cX12_holds 114 = .ok (.goto 4, 3) := by decide +kernel
theorem dX12_holds_117 : decode cX12_holds 117 = .ok (.iconst 0, 1) := by decide +kernel
theorem dX12_holds_118 : decode cX12_holds 118 = .ok (.ireturn, 1) := by decide +kernel
theorem dX12_holds_119 : decode cX12_holds 119 = .ok (.iload 7, 2) := by decide +kernel
theorem dX12_holds_121 : decode cX12_holds 121 = .ok (.ifCond .eq 7, 3) := by decide +kernel
theorem dX12_holds_124 : decode cX12_holds 124 = .ok (.iconst 1, 1) := by decide +kernel
theorem dX12_holds_125 : decode cX12_holds 125 = .ok (.goto 4, 3) := by decide +kernel
theorem dX12_holds_128 : decode cX12_holds 128 = .ok (.iconst 0, 1) := by decide +kernel
theorem dX12_holds_129 : decode cX12_holds 129 = .ok (.ireturn, 1) := by decide +kernel
theorem dX12_holds_130 : decode cX12_holds 130 = .ok (.iload 7, 2) := by decide +kernel
theorem dX12_holds_132 : decode cX12_holds 132 = .ok (.ifCond .gt 7, 3) := by decide +kernel
theorem dX12_holds_135 : decode cX12_holds 135 = .ok (.iconst 1, 1) := by decide +kernel
theorem dX12_holds_136 : decode cX12_holds 136 = .ok (.goto 4, 3) := by decide +kernel
theorem dX12_holds_139 : decode cX12_holds 139 = .ok (.iconst 0, 1) := by decide +kernel
theorem dX12_holds_140 : decode cX12_holds 140 = .ok (.ireturn, 1) := by decide +kernel
theorem dX12_holds_141 : decode cX12_holds 141 = .ok (.iload 7, 2) := by decide +kernel
theorem dX12_holds_143 : decode cX12_holds 143 = .ok (.ifCond .lt 7, 3) := by decide +kernel
theorem dX12_holds_146 : decode cX12_holds 146 = .ok (.iconst 1, 1) := by decide +kernel
theorem dX12_holds_147 : decode cX12_holds 147 = .ok (.goto 4, 3) := by decide +kernel
theorem dX12_holds_150 : decode cX12_holds 150 = .ok (.iconst 0, 1) := by decide +kernel
theorem dX12_holds_151 : decode cX12_holds 151 = .ok (.ireturn, 1) := by decide +kernel
theorem dX12_holds_152 : decode cX12_holds 152 = .ok (.iload 7, 2) := by decide +kernel
theorem dX12_holds_154 : decode cX12_holds 154 = .ok (.ifCond .ge 7, 3) := by decide +kernel
theorem dX12_holds_157 : decode cX12_holds 157 = .ok (.iconst 1, 1) := by decide +kernel
theorem dX12_holds_158 : decode cX12_holds 158 = .ok (.goto 4, 3) := by decide +kernel
theorem dX12_holds_161 : decode cX12_holds 161 = .ok (.iconst 0, 1) := by decide +kernel
theorem dX12_holds_162 : decode cX12_holds 162 = .ok (.ireturn, 1) := by decide +kernel
theorem dX12_holds_163 : decode cX12_holds 163 = .ok (.iload 7, 2) := by decide +kernel
theorem dX12_holds_165 : decode cX12_holds 165 = .ok (.ifCond .le 7, 3) := by decide +kernel
theorem dX12_holds_168 : decode cX12_holds 168 = .ok (.iconst 1, 1) := by decide +kernel
theorem dX12_holds_169 : decode cX12_holds 169 = .ok (.goto 4, 3) := by decide +kernel
theorem dX12_holds_172 : decode cX12_holds 172 = .ok (.iconst 0, 1) := by decide +kernel
theorem dX12_holds_173 : decode cX12_holds 173 = .ok (.ireturn, 1) := by decide +kernel
abbrev R_X12_holds : Room := ({ frames := 4, cells := 0, slots := 0, locals := 104 } : Room)
def b_X12_holds_57 (n : Nat) (gT : Gs) (v1 : Int32) (v7 : Int32) : Option (Int32 × Gs) :=
  if v1 = (60 : Int32) then (if 0 ≤ v7 then (some ((0 : Int32), gT)) else (some ((1 : Int32), gT))) else (if v1 = (161 : Int32) then (if v7 = 0 then (some ((0 : Int32), gT)) else (some ((1 : Int32), gT))) else (if v1 = (188 : Int32) then (if 0 < v7 then (some ((0 : Int32), gT)) else (some ((1 : Int32), gT))) else (if v1 = (189 : Int32) then (if v7 = 0 then (some ((1 : Int32), gT)) else (some ((0 : Int32), gT))) else (if v1 = (190 : Int32) then (if v7 < 0 then (some ((0 : Int32), gT)) else (some ((1 : Int32), gT))) else (if v7 ≤ 0 then (some ((0 : Int32), gT)) else (some ((1 : Int32), gT)))))))
def b_X12_holds_23 (n : Nat) (gT : Gs) (v1 : Int32) (v2 : Int64) (v4 : Int64) (v6 : Int32) (s0 : Int32) : Option (Int32 × Gs) :=
  bnd (f_X12_isReal v6) (fun q_1 => if q_1 = 0 then (b_X12_holds_57 n gT v1 s0) else (bnd (f_X12_become n gT v2 v6 (7 : Int32)) (fun q_3 => bnd (f_X12_become n q_3.2 v4 v6 (7 : Int32)) (fun q_5 => bnd (f_X12_order q_3.1 q_5.1) (fun q_7 => b_X12_holds_57 n q_5.2 v1 q_7)))))
def f_X12_holds (n : Nat) (gT : Gs) (x0 : Int32) (x1 : Int64) (x2 : Int64) (x3 : Int32) : Option (Int32 × Gs) :=
  if x2 ≤ x1 then (if x1 ≤ x2 then (b_X12_holds_23 n gT x0 x1 x2 x3 (0 : Int32)) else (b_X12_holds_23 n gT x0 x1 x2 x3 (1 : Int32))) else (b_X12_holds_23 n gT x0 x1 x2 x3 (-1 : Int32))
def S_X12_holds_57 (l : Launch) (D : Dx) (hT : Nat) (aT : Nat → Nat) (yT : Nat → ClassId) (fn : Gs → Int32 → Int32 → Option (Int32 × Gs)) : Prop :=
  ∀ {p : Program} {e : Env} {s : State} {m : MethodId} {args : Array Value} {below : List Frame} {meth : Method} {c : Code} {H : Heap} {locs : List Loc} {A : Nat → Prop} {ls : Array Slot} {gT : Gs} {v1 : Int32} {v7 : Int32} {q : Int32 × Gs}, Cx p s m args meth c cX12_holds (some .boolean) 8 RX12 lw_all → Hx D (tX12 yT) A s H locs (wX12 hT aT yT gT) → lv_has ls 8 [(1, .int v1), (7, .int v7)] → fn gT v1 v7 = some q → W p l e R_X12_holds s m args below meth c H locs 0 0 (MQ below (QI D A (wX12 hT aT yT q.2) q.1) args s 0 0 A) (F0 m 57 ls [])
def S_X12_holds_23 (l : Launch) (D : Dx) (hT : Nat) (aT : Nat → Nat) (yT : Nat → ClassId) (fn : Gs → Int32 → Int64 → Int64 → Int32 → Int32 → Option (Int32 × Gs)) : Prop :=
  ∀ {p : Program} {e : Env} {s : State} {m : MethodId} {args : Array Value} {below : List Frame} {meth : Method} {c : Code} {H : Heap} {locs : List Loc} {A : Nat → Prop} {ls : Array Slot} {gT : Gs} {v1 : Int32} {v2 : Int64} {v4 : Int64} {v6 : Int32} {s0 : Int32} {q : Int32 × Gs}, Cx p s m args meth c cX12_holds (some .boolean) 8 RX12 lw_all → Hx D (tX12 yT) A s H locs (wX12 hT aT yT gT) → lv_has ls 8 [(0, .ref hT), (1, .int v1), (2, .long v2), (4, .long v4), (6, .int v6)] → fn gT v1 v2 v4 v6 s0 = some q → W p l e R_X12_holds s m args below meth c H locs 0 0 (MQ below (QI D A (wX12 hT aT yT q.2) q.1) args s 0 0 A) (F0 m 23 ls [.int s0])
set_option maxHeartbeats 4000000 in
set_option maxRecDepth 100000 in
theorem k_X12_holds_57 (l : Launch) (D : Dx) (hT : Nat) (aT : Nat → Nat) (yT : Nat → ClassId) (n : Nat) : S_X12_holds_57 l D hT aT yT (b_X12_holds_57 n) := by
  intro p e s m args below meth c H locs A ls gT v1 v7 q C X hl hF
  obtain ⟨hx, hb, hr, hml, hown, hts, hlk⟩ := id C
  unfold b_X12_holds_57 at hF
  refine lv_iload_n hx hb dX12_holds_57 rfl (lv_at hl 0 rfl) ?_
  by_cases c60 : v1 = (60 : Int32)
  · replace hF := iT c60 hF
    refine lv_lookup (tgt := 152) (off := 94) hx hb dX12_holds_58 (by decide) (by rw [c60]; rfl) (by decide) ?_
    refine lv_iload hx hb dX12_holds_152 (lv_at hl 1 rfl) ?_
    refine lv_if_ge (tgt := 161) hx hb dX12_holds_154 (by decide) (fun c => ?_) (fun c => ?_)
    · replace hF := iT c hF
      refine lv_iconst (v := (0 : Int32)) hx hb dX12_holds_161 (by decide) ?_
      have hq := Option.some.inj hF
      subst hq
      exact rt_z (v := (0 : Int32)) C X (by decide) dX12_holds_162
    · replace hF := iF c hF
      refine lv_iconst (v := (1 : Int32)) hx hb dX12_holds_157 (by decide) ?_
      refine lv_goto (tgt := 162) hx hb dX12_holds_158 (by decide) ?_
      have hq := Option.some.inj hF
      subst hq
      exact rt_z (v := (1 : Int32)) C X (by decide) dX12_holds_162
  · replace hF := iF c60 hF
    by_cases c161 : v1 = (161 : Int32)
    · replace hF := iT c161 hF
      refine lv_lookup (tgt := 119) (off := 61) hx hb dX12_holds_58 (by decide) (by rw [c161]; rfl) (by decide) ?_
      refine lv_iload hx hb dX12_holds_119 (lv_at hl 1 rfl) ?_
      refine lv_if_eq (tgt := 128) hx hb dX12_holds_121 (by decide) (fun c => ?_) (fun c => ?_)
      · replace hF := iT c hF
        refine lv_iconst (v := (0 : Int32)) hx hb dX12_holds_128 (by decide) ?_
        have hq := Option.some.inj hF
        subst hq
        exact rt_z (v := (0 : Int32)) C X (by decide) dX12_holds_129
      · replace hF := iF c hF
        refine lv_iconst (v := (1 : Int32)) hx hb dX12_holds_124 (by decide) ?_
        refine lv_goto (tgt := 129) hx hb dX12_holds_125 (by decide) ?_
        have hq := Option.some.inj hF
        subst hq
        exact rt_z (v := (1 : Int32)) C X (by decide) dX12_holds_129
    · replace hF := iF c161 hF
      by_cases c188 : v1 = (188 : Int32)
      · replace hF := iT c188 hF
        refine lv_lookup (tgt := 130) (off := 72) hx hb dX12_holds_58 (by decide) (by rw [c188]; rfl) (by decide) ?_
        refine lv_iload hx hb dX12_holds_130 (lv_at hl 1 rfl) ?_
        refine lv_if_gt (tgt := 139) hx hb dX12_holds_132 (by decide) (fun c => ?_) (fun c => ?_)
        · replace hF := iT c hF
          refine lv_iconst (v := (0 : Int32)) hx hb dX12_holds_139 (by decide) ?_
          have hq := Option.some.inj hF
          subst hq
          exact rt_z (v := (0 : Int32)) C X (by decide) dX12_holds_140
        · replace hF := iF c hF
          refine lv_iconst (v := (1 : Int32)) hx hb dX12_holds_135 (by decide) ?_
          refine lv_goto (tgt := 140) hx hb dX12_holds_136 (by decide) ?_
          have hq := Option.some.inj hF
          subst hq
          exact rt_z (v := (1 : Int32)) C X (by decide) dX12_holds_140
      · replace hF := iF c188 hF
        by_cases c189 : v1 = (189 : Int32)
        · replace hF := iT c189 hF
          refine lv_lookup (tgt := 108) (off := 50) hx hb dX12_holds_58 (by decide) (by rw [c189]; rfl) (by decide) ?_
          refine lv_iload hx hb dX12_holds_108 (lv_at hl 1 rfl) ?_
          refine lv_if_ne (tgt := 117) hx hb dX12_holds_110 (by decide) (fun c => ?_) (fun c => ?_)
          · replace hF := iF c hF
            refine lv_iconst (v := (0 : Int32)) hx hb dX12_holds_117 (by decide) ?_
            have hq := Option.some.inj hF
            subst hq
            exact rt_z (v := (0 : Int32)) C X (by decide) dX12_holds_118
          · replace hF := iT c hF
            refine lv_iconst (v := (1 : Int32)) hx hb dX12_holds_113 (by decide) ?_
            refine lv_goto (tgt := 118) hx hb dX12_holds_114 (by decide) ?_
            have hq := Option.some.inj hF
            subst hq
            exact rt_z (v := (1 : Int32)) C X (by decide) dX12_holds_118
        · replace hF := iF c189 hF
          by_cases c190 : v1 = (190 : Int32)
          · replace hF := iT c190 hF
            refine lv_lookup (tgt := 141) (off := 83) hx hb dX12_holds_58 (by decide) (by rw [c190]; rfl) (by decide) ?_
            refine lv_iload hx hb dX12_holds_141 (lv_at hl 1 rfl) ?_
            refine lv_if_lt (tgt := 150) hx hb dX12_holds_143 (by decide) (fun c => ?_) (fun c => ?_)
            · replace hF := iT c hF
              refine lv_iconst (v := (0 : Int32)) hx hb dX12_holds_150 (by decide) ?_
              have hq := Option.some.inj hF
              subst hq
              exact rt_z (v := (0 : Int32)) C X (by decide) dX12_holds_151
            · replace hF := iF c hF
              refine lv_iconst (v := (1 : Int32)) hx hb dX12_holds_146 (by decide) ?_
              refine lv_goto (tgt := 151) hx hb dX12_holds_147 (by decide) ?_
              have hq := Option.some.inj hF
              subst hq
              exact rt_z (v := (1 : Int32)) C X (by decide) dX12_holds_151
          · replace hF := iF c190 hF
            refine lv_lookup (tgt := 163) (off := 105) hx hb dX12_holds_58 (by decide) (lkc (tneS c60 (by decide)) (lkc (tneS c161 (by decide)) (lkc (tneS c188 (by decide)) (lkc (tneS c189 (by decide)) (lkc (tneS c190 (by decide)) lkn))))) (by decide) ?_
            refine lv_iload hx hb dX12_holds_163 (lv_at hl 1 rfl) ?_
            refine lv_if_le (tgt := 172) hx hb dX12_holds_165 (by decide) (fun c => ?_) (fun c => ?_)
            · replace hF := iT c hF
              refine lv_iconst (v := (0 : Int32)) hx hb dX12_holds_172 (by decide) ?_
              have hq := Option.some.inj hF
              subst hq
              exact rt_z (v := (0 : Int32)) C X (by decide) dX12_holds_173
            · replace hF := iF c hF
              refine lv_iconst (v := (1 : Int32)) hx hb dX12_holds_168 (by decide) ?_
              refine lv_goto (tgt := 173) hx hb dX12_holds_169 (by decide) ?_
              have hq := Option.some.inj hF
              subst hq
              exact rt_z (v := (1 : Int32)) C X (by decide) dX12_holds_173
set_option maxHeartbeats 4000000 in
set_option maxRecDepth 100000 in
theorem k_X12_holds_23 (l : Launch) (D : Dx) (hT : Nat) (aT : Nat → Nat) (yT : Nat → ClassId) (n : Nat) : S_X12_holds_23 l D hT aT yT (b_X12_holds_23 n) := by
  intro p e s m args below meth c H locs A ls gT v1 v2 v4 v6 s0 q C X hl hF
  obtain ⟨hx, hb, hr, hml, hown, hts, hlk⟩ := id C
  unfold b_X12_holds_23 at hF
  refine lv_istore (lv' := [(7, .int s0), (0, .ref hT), (1, .int v1), (2, .long v2), (4, .long v4), (6, .int v6)]) hx hb dX12_holds_23 hl (by decide) rfl (fun ls hl => ?_)
  refine lv_iload hx hb dX12_holds_25 (lv_at hl 5 rfl) ?_
  obtain ⟨q_1, hc_2, hF⟩ := bnd_some hF
  refine cS_i (As := [.int v6]) (rest := []) C X (c_X12_isReal l D  v6 q_1 hc_2 _) (va_cwS 1 hts (good_S q8_101 q8_102 q1_9 q8_103) rfl rfl rfl (by decide +kernel) ⟨Nat.le_of_ble_eq_true rfl, Nat.le_of_ble_eq_true rfl⟩) (eK X) eP (eD (A := A)) (eF X) hl.1 rfl rfl (Nat.le_of_ble_eq_true rfl) dX12_holds_27 ⟨Nat.le_of_ble_eq_true rfl, Nat.le_of_ble_eq_true rfl⟩ (fun t H1 locs1 ht hB hk hS => ?_)
  have X := Hx_after_none X hk hS
  clear hk hS ht hB
  generalize H1 = H at X ⊢
  generalize locs1 = locs at X ⊢
  refine lv_if_eq (tgt := 57) hx hb dX12_holds_30 (by decide) (fun c => ?_) (fun c => ?_)
  · replace hF := iT c hF
    exact (k_X12_holds_57 l D hT aT yT n) C X (lv_sub hl [2, 0] rfl) hF
  · replace hF := iF c hF
    refine lv_aload_n hx hb dX12_holds_33 rfl (lv_at hl 1 rfl) ?_
    refine lv_lload_n hx hb dX12_holds_34 rfl (lv_at hl 3 rfl) ?_
    refine lv_iload hx hb dX12_holds_35 (lv_at hl 5 rfl) ?_
    refine lv_bipush (v := (7 : Int32)) hx hb dX12_holds_37 (by decide) ?_
    obtain ⟨q_3, hc_4, hF⟩ := bnd_some hF
    refine cV_l (As := [.long v2, .int v6, .int (7 : Int32)]) (rest := []) C X (c_X12_become l D hT aT yT n gT v2 v6 (7 : Int32) q_3 hc_4 _) (cwV 3 hts (good_V q8_136 q8_138 q0_73 q1_9 q8_139) rfl rfl rfl (by decide +kernel) ⟨Nat.le_of_ble_eq_true rfl, Nat.le_of_ble_eq_true rfl⟩) (va_recv X.1 X.2.1 (ci := 12) (q0 := 0) rfl rfl) X.1 X.2.1 X.2.2.1 (free_all X) hl.1 rfl rfl (Nat.le_of_ble_eq_true rfl) dX12_holds_39 ⟨Nat.le_of_ble_eq_true rfl, Nat.le_of_ble_eq_true rfl⟩ (fun t H1 locs1 ht hB hk hS => ?_)
    have X : Hx D (tX12 yT) A s H1 locs1 (wX12 hT aT yT q_3.2) := Hx_after_all X ht hB hS
    clear hk hS ht hB
    generalize H1 = H at X ⊢
    generalize locs1 = locs at X ⊢
    refine lv_aload_n hx hb dX12_holds_42 rfl (lv_at hl 1 rfl) ?_
    refine lv_lload hx hb dX12_holds_43 (lv_at hl 4 rfl) ?_
    refine lv_iload hx hb dX12_holds_45 (lv_at hl 5 rfl) ?_
    refine lv_bipush (v := (7 : Int32)) hx hb dX12_holds_47 (by decide) ?_
    obtain ⟨q_5, hc_6, hF⟩ := bnd_some hF
    refine cV_l (As := [.long v4, .int v6, .int (7 : Int32)]) (rest := [.long q_3.1]) C X (c_X12_become l D hT aT yT n q_3.2 v4 v6 (7 : Int32) q_5 hc_6 _) (cwV 3 hts (good_V q8_136 q8_138 q0_73 q1_9 q8_139) rfl rfl rfl (by decide +kernel) ⟨Nat.le_of_ble_eq_true rfl, Nat.le_of_ble_eq_true rfl⟩) (va_recv X.1 X.2.1 (ci := 12) (q0 := 0) rfl rfl) X.1 X.2.1 X.2.2.1 (free_all X) hl.1 rfl rfl (Nat.le_of_ble_eq_true rfl) dX12_holds_49 ⟨Nat.le_of_ble_eq_true rfl, Nat.le_of_ble_eq_true rfl⟩ (fun t H1 locs1 ht hB hk hS => ?_)
    have X : Hx D (tX12 yT) A s H1 locs1 (wX12 hT aT yT q_5.2) := Hx_after_all X ht hB hS
    clear hk hS ht hB
    generalize H1 = H at X ⊢
    generalize locs1 = locs at X ⊢
    obtain ⟨q_7, hc_8, hF⟩ := bnd_some hF
    refine cS_i (As := [.long q_3.1, .long q_5.1]) (rest := []) C X (c_X12_order l D  q_3.1 q_5.1 q_7 hc_8 _) (va_cwS 2 hts (good_S q9_130 q9_131 q1_9 q9_132) rfl rfl rfl (by decide +kernel) ⟨Nat.le_of_ble_eq_true rfl, Nat.le_of_ble_eq_true rfl⟩) (eK X) eP (eD (A := A)) (eF X) hl.1 rfl rfl (Nat.le_of_ble_eq_true rfl) dX12_holds_52 ⟨Nat.le_of_ble_eq_true rfl, Nat.le_of_ble_eq_true rfl⟩ (fun t H1 locs1 ht hB hk hS => ?_)
    have X := Hx_after_none X hk hS
    clear hk hS ht hB
    generalize H1 = H at X ⊢
    generalize locs1 = locs at X ⊢
    refine lv_istore (lv' := [(7, .int q_7), (0, .ref hT), (1, .int v1), (2, .long v2), (4, .long v4), (6, .int v6)]) hx hb dX12_holds_55 hl (by decide) rfl (fun ls hl => ?_)
    exact (k_X12_holds_57 l D hT aT yT n) C X (lv_sub hl [2, 0] rfl) hF
set_option maxHeartbeats 4000000 in
set_option maxRecDepth 100000 in
theorem c_X12_holds (l : Launch) (D : Dx) (hT : Nat) (aT : Nat → Nat) (yT : Nat → ClassId) (n : Nat) (gT : Gs) (x0 : Int32) (x1 : Int64) (x2 : Int64) (x3 : Int32) (q : Int32 × Gs) (hF : f_X12_holds n gT x0 x1 x2 x3 = some q) (sz : Nat) : Met l yX12_holds (ws_ yX12_holds cX12_holds 8 (some .boolean)) R_X12_holds (PC D (tX12 yT) [.ref hT, .int x0, .long x1, .long x2, .int x3] (wX12 hT aT yT gT) sz) (QI D (va_A (wX12 hT aT yT gT) sz) (wX12 hT aT yT q.2) q.1) 0 0 (va_A (wX12 hT aT yT gT) sz) := by
  refine Met.ofW (cc := cX12_holds) (maxL := 8) (ret := (some .boolean)) (by decide) rfl ?_
  intro p e s m args below meth c s₁ B hml hv
  obtain ⟨rfl, hsz, hP, hK, hD, hN⟩ := hv
  subst hsz
  have C : Cx p s m _ meth c cX12_holds (some .boolean) 8 RX12 lw_all := Cx_of B hml
  have X := Hx_start hP hK hD hN
  obtain ⟨hx, hb, hr, -, hown, hts, hlk⟩ := id C
  generalize va_A (wX12 hT aT yT gT) s.heap.size = A at X ⊢
  have hl := lv_entry ([.ref hT, .int x0, .long x1, .long x2, .int x3]) (n := 8) (Nat.le_of_ble_eq_true rfl)
  rw [lg_entry_eq]
  generalize (lg_sl ([.ref hT, .int x0, .long x1, .long x2, .int x3]) ++ List.replicate (8 - (lg_sl ([.ref hT, .int x0, .long x1, .long x2, .int x3])).length) Slot.unset).toArray = ls at hl ⊢
  have hl : lv_has ls 8 [(0, .ref hT), (1, .int x0), (2, .long x1), (4, .long x2), (6, .int x3)] := hl
  unfold f_X12_holds at hF
  refine lv_lload_n hx hb dX12_holds_0 rfl (lv_at hl 2 rfl) ?_
  refine lv_lload hx hb dX12_holds_1 (lv_at hl 3 rfl) ?_
  refine W.lcmp hx hb dX12_holds_3 ?_
  refine lv_if_ge (tgt := 11) hx hb dX12_holds_4 (by decide) (fun c => ?_) (fun c => ?_)
  · have c := (lg_cmp_ge _ _).mp c
    replace hF := iT c hF
    refine lv_lload_n hx hb dX12_holds_11 rfl (lv_at hl 2 rfl) ?_
    refine lv_lload hx hb dX12_holds_12 (lv_at hl 3 rfl) ?_
    refine W.lcmp hx hb dX12_holds_14 ?_
    refine lv_if_le (tgt := 22) hx hb dX12_holds_15 (by decide) (fun c => ?_) (fun c => ?_)
    · have c := (lg_cmp_le _ _).mp c
      replace hF := iT c hF
      refine lv_iconst (v := (0 : Int32)) hx hb dX12_holds_22 (by decide) ?_
      exact (k_X12_holds_23 l D hT aT yT n) C X (lv_sub hl [0, 1, 2, 3, 4] rfl) hF
    · have c := fun h => c ((lg_cmp_le _ _).mpr h)
      replace hF := iF c hF
      refine lv_iconst (v := (1 : Int32)) hx hb dX12_holds_18 (by decide) ?_
      refine lv_goto (tgt := 23) hx hb dX12_holds_19 (by decide) ?_
      exact (k_X12_holds_23 l D hT aT yT n) C X (lv_sub hl [0, 1, 2, 3, 4] rfl) hF
  · have c := fun h => c ((lg_cmp_ge _ _).mpr h)
    replace hF := iF c hF
    refine lv_iconst (v := (-1 : Int32)) hx hb dX12_holds_7 (by decide) ?_
    refine lv_goto (tgt := 23) hx hb dX12_holds_8 (by decide) ?_
    exact (k_X12_holds_23 l D hT aT yT n) C X (lv_sub hl [0, 1, 2, 3, 4] rfl) hF

/-! ### X12_joins -/
theorem dX12_joins_0 : decode cX12_joins 0 = .ok (.aload_n 0, 1) := by decide +kernel
theorem dX12_joins_1 : decode cX12_joins 1 = .ok (.getfield 101, 3) := by decide +kernel
theorem dX12_joins_4 : decode cX12_joins 4 = .ok (.iload_n 1, 1) := by decide +kernel
theorem dX12_joins_5 : decode cX12_joins 5 = .ok (.iaload, 1) := by decide +kernel
theorem dX12_joins_6 : decode cX12_joins 6 = .ok (.istore_n 2, 1) := by decide +kernel
theorem dX12_joins_7 : decode cX12_joins 7 = .ok (.aload_n 0, 1) := by decide +kernel
theorem dX12_joins_8 : decode cX12_joins 8 = .ok (.getfield 104, 3) := by decide +kernel
theorem dX12_joins_11 : decode cX12_joins 11 = .ok (.iload_n 1, 1) := by decide +kernel
theorem dX12_joins_12 : decode cX12_joins 12 = .ok (.iaload, 1) := by decide +kernel
theorem dX12_joins_13 : decode cX12_joins 13 = .ok (.iconst 3, 1) := by decide +kernel
theorem dX12_joins_14 : decode cX12_joins 14 = .ok (.ishr, 1) := by decide +kernel
theorem dX12_joins_15 : decode cX12_joins 15 = .ok (.istore_n 3, 1) := by decide +kernel
theorem dX12_joins_16 : decode cX12_joins 16 = .ok (.aload_n 0, 1) := by decide +kernel
theorem dX12_joins_17 : decode cX12_joins 17 = .ok (.getfield 104, 3) := by decide +kernel
theorem dX12_joins_20 : decode cX12_joins 20 = .ok (.iload_n 1, 1) := by decide +kernel
theorem dX12_joins_21 : decode cX12_joins 21 = .ok (.iaload, 1) := by decide +kernel
theorem dX12_joins_22 : decode cX12_joins 22 = .ok (.bipush 7, 2) := by decide +kernel
theorem dX12_joins_24 : decode cX12_joins 24 = .ok (.iand, 1) := by decide +kernel
theorem dX12_joins_25 : decode cX12_joins 25 = .ok (.istore 4, 2) := by decide +kernel
theorem dX12_joins_27 : decode cX12_joins 27 = .ok (.aload_n 0, 1) := by decide +kernel
theorem dX12_joins_28 : decode cX12_joins 28 = .ok (.dup, 1) := by decide +kernel
theorem dX12_joins_29 : decode cX12_joins 29 = .ok (.getfield 340, 3) := by decide +kernel
theorem dX12_joins_32 : decode cX12_joins 32 = .ok (.iconst 1, 1) := by decide +kernel
theorem dX12_joins_33 : decode cX12_joins 33 = .ok (.isub, 1) := by decide +kernel
theorem dX12_joins_34 : decode cX12_joins 34 = .ok (.putfield 340, 3) := by decide +kernel
theorem dX12_joins_37 : decode cX12_joins 37 = .ok (.aload_n 0, 1) := by decide +kernel
theorem dX12_joins_38 : decode cX12_joins 38 = .ok (.getfield 337, 3) := by decide +kernel
theorem dX12_joins_41 : decode cX12_joins 41 = .ok (.aload_n 0, 1) := by decide +kernel
theorem dX12_joins_42 : decode cX12_joins 42 = .ok (.getfield 340, 3) := by decide +kernel
theorem dX12_joins_45 : decode cX12_joins 45 = .ok (.laload, 1) := by decide +kernel
theorem dX12_joins_46 : decode cX12_joins 46 = .ok (.lstore 5, 2) := by decide +kernel
theorem dX12_joins_48 : decode cX12_joins 48 = .ok (.aload_n 0, 1) := by decide +kernel
theorem dX12_joins_49 : decode cX12_joins 49 = .ok (.getfield 337, 3) := by decide +kernel
theorem dX12_joins_52 : decode cX12_joins 52 = .ok (.aload_n 0, 1) := by decide +kernel
theorem dX12_joins_53 : decode cX12_joins 53 = .ok (.getfield 340, 3) := by decide +kernel
theorem dX12_joins_56 : decode cX12_joins 56 = .ok (.iconst 1, 1) := by decide +kernel
theorem dX12_joins_57 : decode cX12_joins 57 = .ok (.isub, 1) := by decide +kernel
theorem dX12_joins_58 : decode cX12_joins 58 = .ok (.laload, 1) := by decide +kernel
theorem dX12_joins_59 : decode cX12_joins 59 = .ok (.lstore 7, 2) := by decide +kernel
theorem dX12_joins_61 : decode cX12_joins 61 = .ok (.iload_n 3, 1) := by decide +kernel
theorem dX12_joins_62 : decode cX12_joins 62 = .ok (.ifCond .ne 49, 3) := by decide +kernel
theorem dX12_joins_65 : decode cX12_joins 65 = .ok (.aload_n 0, 1) := by decide +kernel
theorem dX12_joins_66 : decode cX12_joins 66 = .ok (.getfield 337, 3) := by decide +kernel
theorem dX12_joins_69 : decode cX12_joins 69 = .ok (.aload_n 0, 1) := by decide +kernel
theorem dX12_joins_70 : decode cX12_joins 70 = .ok (.getfield 340, 3) := by decide +kernel
theorem dX12_joins_73 : decode cX12_joins 73 = .ok (.iconst 1, 1) := by decide +kernel
theorem dX12_joins_74 : decode cX12_joins 74 = .ok (.isub, 1) := by decide +kernel
theorem dX12_joins_75 : decode cX12_joins 75 = .ok (.lload 7, 2) := by decide +kernel
theorem dX12_joins_77 : decode cX12_joins 77 = .ok (.lload 5, 2) := by decide +kernel
theorem dX12_joins_79 : decode cX12_joins 79 = .ok (.lcmp, 1) := by decide +kernel
theorem dX12_joins_80 : decode cX12_joins 80 = .ok (.ifCond .ne 7, 3) := by decide +kernel
theorem dX12_joins_83 : decode cX12_joins 83 = .ok (.iconst 1, 1) := by decide +kernel
theorem dX12_joins_84 : decode cX12_joins 84 = .ok (.goto 4, 3) := by decide +kernel
theorem dX12_joins_87 : decode cX12_joins 87 = .ok (.iconst 0, 1) := by decide +kernel
theorem dX12_joins_88 : decode cX12_joins 88 = .ok (.iload_n 2, 1) := by decide +kernel
theorem dX12_joins_89 : decode cX12_joins 89 = .ok (.sipush 189, 3) := by decide +kernel
theorem dX12_joins_92 : decode cX12_joins 92 = .ok (.if_icmp .ne 7, 3) := by decide +kernel
theorem dX12_joins_95 : decode cX12_joins 95 = .ok (.iconst 1, 1) := by decide +kernel
theorem dX12_joins_96 : decode cX12_joins 96 = .ok (.goto 4, 3) := by decide +kernel
theorem dX12_joins_99 : decode cX12_joins 99 = .ok (.iconst 0, 1) := by decide +kernel
theorem dX12_joins_100 : decode cX12_joins 100 = .ok (.if_icmp .ne 7, 3) := by decide +kernel
theorem dX12_joins_103 : decode cX12_joins 103 = .ok (.lconst 1, 1) := by decide +kernel
theorem dX12_joins_104 : decode cX12_joins 104 = .ok (.goto 4, 3) := by decide +kernel
theorem dX12_joins_107 : decode cX12_joins 107 = .ok (.lconst 0, 1) := by decide +kernel
theorem dX12_joins_108 : decode cX12_joins 108 = .ok (.lastore, 1) := by decide +kernel
theorem dX12_joins_109 : decode cX12_joins 109 = .ok (.iconst 1, 1) := by decide +kernel
theorem dX12_joins_110 : decode cX12_joins 110 = .ok (.ireturn, 1) := by decide +kernel
theorem dX12_joins_111 : decode cX12_joins 111 = .ok (.iload_n 2, 1) := by decide +kernel
theorem dX12_joins_112 : decode cX12_joins 112 = .ok (.sipush 215, 3) := by decide +kernel
theorem dX12_joins_115 : decode cX12_joins 115 = .ok (.if_icmp .ne 8, 3) := by decide +kernel
theorem dX12_joins_118 : decode cX12_joins 118 = .ok (.bipush 7, 2) := by decide +kernel
theorem dX12_joins_120 : decode cX12_joins 120 = .ok (.goto 9, 3) := by decide +kernel
theorem dX12_joins_123 : decode cX12_joins 123 = .ok (.iload_n 3, 1) := by decide +kernel
theorem dX12_joins_124 : decode cX12_joins 124 = .ok (.iload 4, 2) := by decide +kernel
theorem dX12_joins_126 : decode cX12_joins 126 = .ok (.invokestatic 626, 3) := by decide +kernel
theorem dX12_joins_129 : decode cX12_joins 129 = .ok (.istore 9, 2) := by decide +kernel
theorem dX12_joins_131 : decode cX12_joins 131 = .ok (.aload_n 0, 1) := by decide +kernel
theorem dX12_joins_132 : decode cX12_joins 132 = .ok (.lload 7, 2) := by decide +kernel
theorem dX12_joins_134 : decode cX12_joins 134 = .ok (.iload_n 3, 1) := by decide +kernel
theorem dX12_joins_135 : decode cX12_joins 135 = .ok (.iload 9, 2) := by decide +kernel
theorem dX12_joins_137 : decode cX12_joins 137 = .ok (.invokevirtual 488, 3) := by decide +kernel
theorem dX12_joins_140 : decode cX12_joins 140 = .ok (.lstore 7, 2) := by decide +kernel
theorem dX12_joins_142 : decode cX12_joins 142 = .ok (.aload_n 0, 1) := by decide +kernel
theorem dX12_joins_143 : decode cX12_joins 143 = .ok (.lload 5, 2) := by decide +kernel
theorem dX12_joins_145 : decode cX12_joins 145 = .ok (.iload 4, 2) := by decide +kernel
theorem dX12_joins_147 : decode cX12_joins 147 = .ok (.iload 9, 2) := by decide +kernel
theorem dX12_joins_149 : decode cX12_joins 149 = .ok (.invokevirtual 488, 3) := by decide +kernel
theorem dX12_joins_152 : decode cX12_joins 152 = .ok (.lstore 5, 2) := by decide +kernel
theorem dX12_joins_154 : decode cX12_joins 154 = .ok (.lconst 0, 1) := by decide +kernel
theorem dX12_joins_155 : decode cX12_joins 155 = .ok (.lstore 10, 2) := by decide +kernel
theorem dX12_joins_157 : decode cX12_joins 157 = .ok (.iload_n 2, 1) := by decide +kernel
theorem dX12_joins_158 : decode cX12_joins 158 = .ok (.sipush 215, 3) := by decide +kernel
theorem dX12_joins_161 : decode cX12_joins 161 = .ok (.if_icmp .ne 16, 3) := by decide +kernel
theorem dX12_joins_164 : decode cX12_joins 164 = .ok (.aload_n 0, 1) := by decide +kernel
theorem dX12_joins_165 : decode cX12_joins 165 = .ok (.lload 7, 2) := by decide +kernel
theorem dX12_joins_167 : decode cX12_joins 167 = .ok (.lload 5, 2) := by decide +kernel
theorem dX12_joins_169 : decode cX12_joins 169 = .ok (.invokevirtual 669, 3) := by decide +kernel
theorem dX12_joins_172 : decode cX12_joins 172 = .ok (.lstore 10, 2) := by decide +kernel
theorem dX12_joins_174 : decode cX12_joins 174 = .ok (.goto 97, 3) := by decide +kernel
theorem dX12_joins_177 : decode cX12_joins 177 = .ok (.iload_n 2, 1) := by decide +kernel
theorem dX12_joins_178 : decode cX12_joins 178 = .ok (.sipush 213, 3) := by decide +kernel
theorem dX12_joins_181 : decode cX12_joins 181 = .ok (.if_icmp .eq 10, 3) := by decide +kernel
theorem dX12_joins_184 : decode cX12_joins 184 = .ok (.iload_n 2, 1) := by decide +kernel
theorem dX12_joins_185 : decode cX12_joins 185 = .ok (.sipush 214, 3) := by decide +kernel
theorem dX12_joins_188 : decode cX12_joins 188 = .ok (.if_icmp .ne 19, 3) := by decide +kernel
theorem dX12_joins_191 : decode cX12_joins 191 = .ok (.aload_n 0, 1) := by decide +kernel
theorem dX12_joins_192 : decode cX12_joins 192 = .ok (.iload_n 2, 1) := by decide +kernel
theorem dX12_joins_193 : decode cX12_joins 193 = .ok (.lload 7, 2) := by decide +kernel
theorem dX12_joins_195 : decode cX12_joins 195 = .ok (.lload 5, 2) := by decide +kernel
theorem dX12_joins_197 : decode cX12_joins 197 = .ok (.iload 9, 2) := by decide +kernel
theorem dX12_joins_199 : decode cX12_joins 199 = .ok (.invokevirtual 672, 3) := by decide +kernel
theorem dX12_joins_202 : decode cX12_joins 202 = .ok (.lstore 10, 2) := by decide +kernel
theorem dX12_joins_204 : decode cX12_joins 204 = .ok (.goto 67, 3) := by decide +kernel
theorem dX12_joins_207 : decode cX12_joins 207 = .ok (.iload_n 2, 1) := by decide +kernel
theorem dX12_joins_208 : decode cX12_joins 208 = .ok (.bipush 43, 2) := by decide +kernel
theorem dX12_joins_210 : decode cX12_joins 210 = .ok (.if_icmp .eq 27, 3) := by decide +kernel
theorem dX12_joins_213 : decode cX12_joins 213 = .ok (.iload_n 2, 1) := by decide +kernel
theorem dX12_joins_214 : decode cX12_joins 214 = .ok (.bipush 45, 2) := by decide +kernel
theorem dX12_joins_216 : decode cX12_joins 216 = .ok (.if_icmp .eq 21, 3) := by decide +kernel
theorem dX12_joins_219 : decode cX12_joins 219 = .ok (.iload_n 2, 1) := by decide +kernel
theorem dX12_joins_220 : decode cX12_joins 220 = .ok (.bipush 42, 2) := by decide +kernel
theorem dX12_joins_222 : decode cX12_joins 222 = .ok (.if_icmp .eq 15, 3) := by decide +kernel
theorem dX12_joins_225 : decode cX12_joins 225 = .ok (.iload_n 2, 1) := by decide +kernel
theorem dX12_joins_226 : decode cX12_joins 226 = .ok (.bipush 47, 2) := by decide +kernel
theorem dX12_joins_228 : decode cX12_joins 228 = .ok (.if_icmp .eq 9, 3) := by decide +kernel
theorem dX12_joins_231 : decode cX12_joins 231 = .ok (.iload_n 2, 1) := by decide +kernel
theorem dX12_joins_232 : decode cX12_joins 232 = .ok (.bipush 37, 2) := by decide +kernel
theorem dX12_joins_234 : decode cX12_joins 234 = .ok (.if_icmp .ne 16, 3) := by decide +kernel
theorem dX12_joins_237 : decode cX12_joins 237 = .ok (.aload_n 0, 1) := by decide +kernel
theorem dX12_joins_238 : decode cX12_joins 238 = .ok (.iload_n 1, 1) := by decide +kernel
theorem dX12_joins_239 : decode cX12_joins 239 = .ok (.iload_n 2, 1) := by decide +kernel
theorem dX12_joins_240 : decode cX12_joins 240 = .ok (.lload 7, 2) := by decide +kernel
theorem dX12_joins_242 : decode cX12_joins 242 = .ok (.lload 5, 2) := by decide +kernel
theorem dX12_joins_244 : decode cX12_joins 244 = .ok (.iload 9, 2) := by decide +kernel
theorem dX12_joins_246 : decode cX12_joins 246 = .ok (.invokevirtual 676, 3) := by decide +kernel
theorem dX12_joins_249 : decode cX12_joins 249 = .ok (.ireturn, 1) := by decide +kernel
theorem dX12_joins_250 : decode cX12_joins 250 = .ok (.aload_n 0, 1) := by decide +kernel
theorem dX12_joins_251 : decode cX12_joins 251 = .ok (.iload_n 2, 1) := by decide +kernel
theorem dX12_joins_252 : decode cX12_joins 252 = .ok (.lload 7, 2) := by decide +kernel
theorem dX12_joins_254 : decode cX12_joins 254 = .ok (.lload 5, 2) := by decide +kernel
theorem dX12_joins_256 : decode cX12_joins 256 = .ok (.iload 9, 2) := by decide +kernel
theorem dX12_joins_258 : decode cX12_joins 258 = .ok (.invokevirtual 679, 3) := by decide +kernel
theorem dX12_joins_261 : decode cX12_joins 261 = .ok (.ifCond .eq 7, 3) := by decide +kernel
theorem dX12_joins_264 : decode cX12_joins 264 = .ok (.lconst 1, 1) := by decide +kernel
theorem dX12_joins_265 : decode cX12_joins 265 = .ok (.goto 4, 3) := by decide +kernel
theorem dX12_joins_268 : decode cX12_joins 268 = .ok (.lconst 0, 1) := by decide +kernel
theorem dX12_joins_269 : decode cX12_joins 269 = .ok (.lstore 10, 2) := by decide +kernel
theorem dX12_joins_271 : decode cX12_joins 271 = .ok (.aload_n 0, 1) := by decide +kernel
theorem dX12_joins_272 : decode cX12_joins 272 = .ok (.getfield 337, 3) := by decide +kernel
theorem dX12_joins_275 : decode cX12_joins 275 = .ok (.aload_n 0, 1) := by decide +kernel
theorem dX12_joins_276 : decode cX12_joins 276 = .ok (.getfield 340, 3) := by decide +kernel
theorem dX12_joins_279 : decode cX12_joins 279 = .ok (.iconst 1, 1) := by decide +kernel
theorem dX12_joins_280 : decode cX12_joins 280 = .ok (.isub, 1) := by decide +kernel
theorem dX12_joins_281 : decode cX12_joins 281 = .ok (.lload 10, 2) := by decide +kernel
theorem dX12_joins_283 : decode cX12_joins 283 = .ok (.lastore, 1) := by decide +kernel
theorem dX12_joins_284 : decode cX12_joins 284 = .ok (.iconst 1, 1) := by decide +kernel
theorem dX12_joins_285 : decode cX12_joins 285 = .ok (.ireturn, 1) := by decide +kernel
abbrev R_X12_joins : Room := ({ frames := 6, cells := 0, slots := 0, locals := 168 } : Room)
def b_X12_joins_271 (n : Nat) (gT : Gs) (v10 : Int64) : Option (Int32 × Gs) :=
  grd (inB ((gI gT 93) - (1 : Int32)) 400) (some ((1 : Int32), (sLA gT 92 (vp_updL (gLA gT 92) ((gI gT 93) - (1 : Int32)).toNatClampNeg v10))))
def b_X12_joins_191 (n : Nat) (gT : Gs) (v2 : Int32) (v5 : Int64) (v7 : Int64) (v9 : Int32) : Option (Int32 × Gs) :=
  bnd (f_X12_ofTwo n gT v2 v7 v5 v9) (fun q_12 => b_X12_joins_271 n q_12.2 q_12.1)
def b_X12_joins_237 (n : Nat) (gT : Gs) (v1 : Int32) (v2 : Int32) (v5 : Int64) (v7 : Int64) (v9 : Int32) : Option (Int32 × Gs) :=
  bnd (f_X12_counts n gT v1 v2 v7 v5 v9) (fun q_15 => grd (zB q_15.1) (some (q_15.1, q_15.2)))
def b_X12_joins_269 (n : Nat) (gT : Gs) (s0 : Int64) : Option (Int32 × Gs) :=
  b_X12_joins_271 n gT s0
def b_X12_joins_129 (n : Nat) (gT : Gs) (v1 : Int32) (v2 : Int32) (v3 : Int32) (v4 : Int32) (v5 : Int64) (v7 : Int64) (s0 : Int32) : Option (Int32 × Gs) :=
  bnd (f_X12_become n gT v7 v3 s0) (fun q_8 => bnd (f_X12_become n q_8.2 v5 v4 s0) (fun q_10 => if v2 = (215 : Int32) then (bnd (f_X12_common n q_10.2 q_8.1 q_10.1) (fun q_20 => b_X12_joins_271 n q_20.2 q_20.1)) else (if v2 = (213 : Int32) then (b_X12_joins_191 n q_10.2 v2 q_10.1 q_8.1 s0) else (if v2 = (214 : Int32) then (b_X12_joins_191 n q_10.2 v2 q_10.1 q_8.1 s0) else (if v2 = (43 : Int32) then (b_X12_joins_237 n q_10.2 v1 v2 q_10.1 q_8.1 s0) else (if v2 = (45 : Int32) then (b_X12_joins_237 n q_10.2 v1 v2 q_10.1 q_8.1 s0) else (if v2 = (42 : Int32) then (b_X12_joins_237 n q_10.2 v1 v2 q_10.1 q_8.1 s0) else (if v2 = (47 : Int32) then (b_X12_joins_237 n q_10.2 v1 v2 q_10.1 q_8.1 s0) else (if v2 = (37 : Int32) then (b_X12_joins_237 n q_10.2 v1 v2 q_10.1 q_8.1 s0) else (bnd (f_X12_holds n q_10.2 v2 q_8.1 q_10.1 s0) (fun q_18 => if q_18.1 = 0 then (b_X12_joins_269 n q_18.2 (0 : Int64)) else (b_X12_joins_269 n q_18.2 (1 : Int64)))))))))))))
def b_X12_joins_108 (n : Nat) (gT : Gs) (s0 : Int64) (s1 : Int32) : Option (Int32 × Gs) :=
  grd (inB s1 400) (some ((1 : Int32), (sLA gT 92 (vp_updL (gLA gT 92) s1.toNatClampNeg s0))))
def b_X12_joins_100 (n : Nat) (gT : Gs) (s0 : Int32) (s1 : Int32) (s2 : Int32) : Option (Int32 × Gs) :=
  if s1 = s0 then (b_X12_joins_108 n gT (1 : Int64) s2) else (b_X12_joins_108 n gT (0 : Int64) s2)
def b_X12_joins_88 (n : Nat) (gT : Gs) (v2 : Int32) (s0 : Int32) (s1 : Int32) : Option (Int32 × Gs) :=
  if v2 = (189 : Int32) then (b_X12_joins_100 n gT (1 : Int32) s0 s1) else (b_X12_joins_100 n gT (0 : Int32) s0 s1)
def f_X12_joins (n : Nat) (gT : Gs) (x0 : Int32) : Option (Int32 × Gs) :=
  grd (inB x0 8000) (grd (inB x0 8000) (grd (inB x0 8000) (grd (inB ((gI gT 93) - (1 : Int32)) 400) (grd (inB (((gI gT 93) - (1 : Int32)) - (1 : Int32)) 400) (if ((gIA gT 16 x0.toNatClampNeg) >>> ((3 : Int32) &&& 31)) = 0 then (if (gLA gT 92 (((gI gT 93) - (1 : Int32)) - (1 : Int32)).toNatClampNeg) = (gLA gT 92 ((gI gT 93) - (1 : Int32)).toNatClampNeg) then (b_X12_joins_88 n (sI gT 93 ((gI gT 93) - (1 : Int32))) (gIA gT 15 x0.toNatClampNeg) (1 : Int32) (((gI gT 93) - (1 : Int32)) - (1 : Int32))) else (b_X12_joins_88 n (sI gT 93 ((gI gT 93) - (1 : Int32))) (gIA gT 15 x0.toNatClampNeg) (0 : Int32) (((gI gT 93) - (1 : Int32)) - (1 : Int32)))) else (if (gIA gT 15 x0.toNatClampNeg) = (215 : Int32) then (b_X12_joins_129 n (sI gT 93 ((gI gT 93) - (1 : Int32))) x0 (gIA gT 15 x0.toNatClampNeg) ((gIA gT 16 x0.toNatClampNeg) >>> ((3 : Int32) &&& 31)) ((gIA gT 16 x0.toNatClampNeg) &&& (7 : Int32)) (gLA gT 92 ((gI gT 93) - (1 : Int32)).toNatClampNeg) (gLA gT 92 (((gI gT 93) - (1 : Int32)) - (1 : Int32)).toNatClampNeg) (7 : Int32)) else (bnd (f_X12_joined ((gIA gT 16 x0.toNatClampNeg) >>> ((3 : Int32) &&& 31)) ((gIA gT 16 x0.toNatClampNeg) &&& (7 : Int32))) (fun q_6 => b_X12_joins_129 n (sI gT 93 ((gI gT 93) - (1 : Int32))) x0 (gIA gT 15 x0.toNatClampNeg) ((gIA gT 16 x0.toNatClampNeg) >>> ((3 : Int32) &&& 31)) ((gIA gT 16 x0.toNatClampNeg) &&& (7 : Int32)) (gLA gT 92 ((gI gT 93) - (1 : Int32)).toNatClampNeg) (gLA gT 92 (((gI gT 93) - (1 : Int32)) - (1 : Int32)).toNatClampNeg) q_6))))))))
def S_X12_joins_271 (l : Launch) (D : Dx) (hT : Nat) (aT : Nat → Nat) (yT : Nat → ClassId) (fn : Gs → Int64 → Option (Int32 × Gs)) : Prop :=
  ∀ {p : Program} {e : Env} {s : State} {m : MethodId} {args : Array Value} {below : List Frame} {meth : Method} {c : Code} {H : Heap} {locs : List Loc} {A : Nat → Prop} {ls : Array Slot} {gT : Gs} {v10 : Int64} {q : Int32 × Gs}, Cx p s m args meth c cX12_joins (some .boolean) 12 RX12 lw_all → Hx D (tX12 yT) A s H locs (wX12 hT aT yT gT) → lv_has ls 12 [(0, .ref hT), (10, .long v10)] → fn gT v10 = some q → W p l e R_X12_joins s m args below meth c H locs 0 0 (MQ below (QI D A (wX12 hT aT yT q.2) q.1) args s 0 0 A) (F0 m 271 ls [])
def S_X12_joins_191 (l : Launch) (D : Dx) (hT : Nat) (aT : Nat → Nat) (yT : Nat → ClassId) (fn : Gs → Int32 → Int64 → Int64 → Int32 → Option (Int32 × Gs)) : Prop :=
  ∀ {p : Program} {e : Env} {s : State} {m : MethodId} {args : Array Value} {below : List Frame} {meth : Method} {c : Code} {H : Heap} {locs : List Loc} {A : Nat → Prop} {ls : Array Slot} {gT : Gs} {v2 : Int32} {v5 : Int64} {v7 : Int64} {v9 : Int32} {q : Int32 × Gs}, Cx p s m args meth c cX12_joins (some .boolean) 12 RX12 lw_all → Hx D (tX12 yT) A s H locs (wX12 hT aT yT gT) → lv_has ls 12 [(0, .ref hT), (2, .int v2), (5, .long v5), (7, .long v7), (9, .int v9)] → fn gT v2 v5 v7 v9 = some q → W p l e R_X12_joins s m args below meth c H locs 0 0 (MQ below (QI D A (wX12 hT aT yT q.2) q.1) args s 0 0 A) (F0 m 191 ls [])
def S_X12_joins_237 (l : Launch) (D : Dx) (hT : Nat) (aT : Nat → Nat) (yT : Nat → ClassId) (fn : Gs → Int32 → Int32 → Int64 → Int64 → Int32 → Option (Int32 × Gs)) : Prop :=
  ∀ {p : Program} {e : Env} {s : State} {m : MethodId} {args : Array Value} {below : List Frame} {meth : Method} {c : Code} {H : Heap} {locs : List Loc} {A : Nat → Prop} {ls : Array Slot} {gT : Gs} {v1 : Int32} {v2 : Int32} {v5 : Int64} {v7 : Int64} {v9 : Int32} {q : Int32 × Gs}, Cx p s m args meth c cX12_joins (some .boolean) 12 RX12 lw_all → Hx D (tX12 yT) A s H locs (wX12 hT aT yT gT) → lv_has ls 12 [(0, .ref hT), (1, .int v1), (2, .int v2), (5, .long v5), (7, .long v7), (9, .int v9)] → fn gT v1 v2 v5 v7 v9 = some q → W p l e R_X12_joins s m args below meth c H locs 0 0 (MQ below (QI D A (wX12 hT aT yT q.2) q.1) args s 0 0 A) (F0 m 237 ls [])
def S_X12_joins_269 (l : Launch) (D : Dx) (hT : Nat) (aT : Nat → Nat) (yT : Nat → ClassId) (fn : Gs → Int64 → Option (Int32 × Gs)) : Prop :=
  ∀ {p : Program} {e : Env} {s : State} {m : MethodId} {args : Array Value} {below : List Frame} {meth : Method} {c : Code} {H : Heap} {locs : List Loc} {A : Nat → Prop} {ls : Array Slot} {gT : Gs} {s0 : Int64} {q : Int32 × Gs}, Cx p s m args meth c cX12_joins (some .boolean) 12 RX12 lw_all → Hx D (tX12 yT) A s H locs (wX12 hT aT yT gT) → lv_has ls 12 [(0, .ref hT)] → fn gT s0 = some q → W p l e R_X12_joins s m args below meth c H locs 0 0 (MQ below (QI D A (wX12 hT aT yT q.2) q.1) args s 0 0 A) (F0 m 269 ls [.long s0])
def S_X12_joins_129 (l : Launch) (D : Dx) (hT : Nat) (aT : Nat → Nat) (yT : Nat → ClassId) (fn : Gs → Int32 → Int32 → Int32 → Int32 → Int64 → Int64 → Int32 → Option (Int32 × Gs)) : Prop :=
  ∀ {p : Program} {e : Env} {s : State} {m : MethodId} {args : Array Value} {below : List Frame} {meth : Method} {c : Code} {H : Heap} {locs : List Loc} {A : Nat → Prop} {ls : Array Slot} {gT : Gs} {v1 : Int32} {v2 : Int32} {v3 : Int32} {v4 : Int32} {v5 : Int64} {v7 : Int64} {s0 : Int32} {q : Int32 × Gs}, Cx p s m args meth c cX12_joins (some .boolean) 12 RX12 lw_all → Hx D (tX12 yT) A s H locs (wX12 hT aT yT gT) → lv_has ls 12 [(0, .ref hT), (1, .int v1), (2, .int v2), (3, .int v3), (4, .int v4), (5, .long v5), (7, .long v7)] → fn gT v1 v2 v3 v4 v5 v7 s0 = some q → W p l e R_X12_joins s m args below meth c H locs 0 0 (MQ below (QI D A (wX12 hT aT yT q.2) q.1) args s 0 0 A) (F0 m 129 ls [.int s0])
def S_X12_joins_108 (l : Launch) (D : Dx) (hT : Nat) (aT : Nat → Nat) (yT : Nat → ClassId) (fn : Gs → Int64 → Int32 → Option (Int32 × Gs)) : Prop :=
  ∀ {p : Program} {e : Env} {s : State} {m : MethodId} {args : Array Value} {below : List Frame} {meth : Method} {c : Code} {H : Heap} {locs : List Loc} {A : Nat → Prop} {ls : Array Slot} {gT : Gs} {s0 : Int64} {s1 : Int32} {q : Int32 × Gs}, Cx p s m args meth c cX12_joins (some .boolean) 12 RX12 lw_all → Hx D (tX12 yT) A s H locs (wX12 hT aT yT gT) → lv_has ls 12 [] → fn gT s0 s1 = some q → W p l e R_X12_joins s m args below meth c H locs 0 0 (MQ below (QI D A (wX12 hT aT yT q.2) q.1) args s 0 0 A) (F0 m 108 ls [.long s0, .int s1, .ref (aT 92)])
def S_X12_joins_100 (l : Launch) (D : Dx) (hT : Nat) (aT : Nat → Nat) (yT : Nat → ClassId) (fn : Gs → Int32 → Int32 → Int32 → Option (Int32 × Gs)) : Prop :=
  ∀ {p : Program} {e : Env} {s : State} {m : MethodId} {args : Array Value} {below : List Frame} {meth : Method} {c : Code} {H : Heap} {locs : List Loc} {A : Nat → Prop} {ls : Array Slot} {gT : Gs} {s0 : Int32} {s1 : Int32} {s2 : Int32} {q : Int32 × Gs}, Cx p s m args meth c cX12_joins (some .boolean) 12 RX12 lw_all → Hx D (tX12 yT) A s H locs (wX12 hT aT yT gT) → lv_has ls 12 [] → fn gT s0 s1 s2 = some q → W p l e R_X12_joins s m args below meth c H locs 0 0 (MQ below (QI D A (wX12 hT aT yT q.2) q.1) args s 0 0 A) (F0 m 100 ls [.int s0, .int s1, .int s2, .ref (aT 92)])
def S_X12_joins_88 (l : Launch) (D : Dx) (hT : Nat) (aT : Nat → Nat) (yT : Nat → ClassId) (fn : Gs → Int32 → Int32 → Int32 → Option (Int32 × Gs)) : Prop :=
  ∀ {p : Program} {e : Env} {s : State} {m : MethodId} {args : Array Value} {below : List Frame} {meth : Method} {c : Code} {H : Heap} {locs : List Loc} {A : Nat → Prop} {ls : Array Slot} {gT : Gs} {v2 : Int32} {s0 : Int32} {s1 : Int32} {q : Int32 × Gs}, Cx p s m args meth c cX12_joins (some .boolean) 12 RX12 lw_all → Hx D (tX12 yT) A s H locs (wX12 hT aT yT gT) → lv_has ls 12 [(2, .int v2)] → fn gT v2 s0 s1 = some q → W p l e R_X12_joins s m args below meth c H locs 0 0 (MQ below (QI D A (wX12 hT aT yT q.2) q.1) args s 0 0 A) (F0 m 88 ls [.int s0, .int s1, .ref (aT 92)])
set_option maxHeartbeats 4000000 in
set_option maxRecDepth 100000 in
theorem k_X12_joins_271 (l : Launch) (D : Dx) (hT : Nat) (aT : Nat → Nat) (yT : Nat → ClassId) (n : Nat) : S_X12_joins_271 l D hT aT yT (b_X12_joins_271 n) := by
  intro p e s m args below meth c H locs A ls gT v10 q C X hl hF
  obtain ⟨hx, hb, hr, hml, hown, hts, hlk⟩ := id C
  unfold b_X12_joins_271 at hF
  refine lv_aload_n hx hb dX12_joins_271 rfl (lv_at hl 0 rfl) ?_
  refine va_get (D := D.1) (ci := 12) (v := .ref (aT 92)) (C := RX12) (T := TX12) (N := 114) hx hb hts wi_X12 hown X.1 X.2.1 0 rfl rfl 92 (by decide) (hts _ q7_46) (fun _ h9 => h9) (fl_get (by decide)) dX12_joins_272 ?_
  refine lv_aload_n hx hb dX12_joins_275 rfl (lv_at hl 0 rfl) ?_
  refine va_get (D := D.1) (ci := 12) (v := .int (gI gT 93)) (C := RX12) (T := TX12) (N := 114) hx hb hts wi_X12 hown X.1 X.2.1 0 rfl rfl 93 (by decide) (hts _ q7_47) (fun _ h9 => h9) (fl_get (by decide)) dX12_joins_276 ?_
  refine lv_iconst (v := (1 : Int32)) hx hb dX12_joins_279 (by decide) ?_
  refine lv_isub hx hb dX12_joins_280 ?_
  refine lv_lload hx hb dX12_joins_281 (lv_at hl 1 rfl) ?_
  obtain ⟨h_14, hF⟩ := grd_some hF
  refine va_last (D := D.1) (f := gLA gT 92) hx hb X.1 X.2.1 X.2.2.1 X.2.2.2.1 63 62 rfl rfl (inB_ok h_14) dX12_joins_283 (fun H locs hP hD hS => ?_)
  have X : Hx D (tX12 yT) A s H locs (wX12 hT aT yT (sLA gT 92 (vp_updL (gLA gT 92) ((gI gT 93) - (1 : Int32)).toNatClampNeg v10))) := Hx_set X (wG_sLA (i := 62) (k := 92) ndX12 rfl rfl) hP hD hS
  refine lv_iconst (v := (1 : Int32)) hx hb dX12_joins_284 (by decide) ?_
  have hq := Option.some.inj hF
  subst hq
  exact rt_z (v := (1 : Int32)) C X (by decide) dX12_joins_285
set_option maxHeartbeats 4000000 in
set_option maxRecDepth 100000 in
theorem k_X12_joins_191 (l : Launch) (D : Dx) (hT : Nat) (aT : Nat → Nat) (yT : Nat → ClassId) (n : Nat) : S_X12_joins_191 l D hT aT yT (b_X12_joins_191 n) := by
  intro p e s m args below meth c H locs A ls gT v2 v5 v7 v9 q C X hl hF
  obtain ⟨hx, hb, hr, hml, hown, hts, hlk⟩ := id C
  unfold b_X12_joins_191 at hF
  refine lv_aload_n hx hb dX12_joins_191 rfl (lv_at hl 0 rfl) ?_
  refine lv_iload_n hx hb dX12_joins_192 rfl (lv_at hl 1 rfl) ?_
  refine lv_lload hx hb dX12_joins_193 (lv_at hl 3 rfl) ?_
  refine lv_lload hx hb dX12_joins_195 (lv_at hl 2 rfl) ?_
  refine lv_iload hx hb dX12_joins_197 (lv_at hl 4 rfl) ?_
  obtain ⟨q_12, hc_13, hF⟩ := bnd_some hF
  refine cV_l (As := [.int v2, .long v7, .long v5, .int v9]) (rest := []) C X (c_X12_ofTwo l D hT aT yT n gT v2 v7 v5 v9 q_12 hc_13 _) (cwV 4 hts (good_V q9_96 q9_98 q0_115 q1_9 q9_99) rfl rfl rfl (by decide +kernel) ⟨Nat.le_of_ble_eq_true rfl, Nat.le_of_ble_eq_true rfl⟩) (va_recv X.1 X.2.1 (ci := 12) (q0 := 0) rfl rfl) X.1 X.2.1 X.2.2.1 (free_all X) hl.1 rfl rfl (Nat.le_of_ble_eq_true rfl) dX12_joins_199 ⟨Nat.le_of_ble_eq_true rfl, Nat.le_of_ble_eq_true rfl⟩ (fun t H1 locs1 ht hB hk hS => ?_)
  have X : Hx D (tX12 yT) A s H1 locs1 (wX12 hT aT yT q_12.2) := Hx_after_all X ht hB hS
  clear hk hS ht hB
  generalize H1 = H at X ⊢
  generalize locs1 = locs at X ⊢
  refine lv_lstore (lv' := [(10, .long q_12.1), (0, .ref hT), (2, .int v2), (5, .long v5), (7, .long v7), (9, .int v9)]) hx hb dX12_joins_202 hl (by decide) rfl (fun ls hl => ?_)
  refine lv_goto (tgt := 271) hx hb dX12_joins_204 (by decide) ?_
  exact (k_X12_joins_271 l D hT aT yT n) C X (lv_sub hl [1, 0] rfl) hF
set_option maxHeartbeats 4000000 in
set_option maxRecDepth 100000 in
theorem k_X12_joins_237 (l : Launch) (D : Dx) (hT : Nat) (aT : Nat → Nat) (yT : Nat → ClassId) (n : Nat) : S_X12_joins_237 l D hT aT yT (b_X12_joins_237 n) := by
  intro p e s m args below meth c H locs A ls gT v1 v2 v5 v7 v9 q C X hl hF
  obtain ⟨hx, hb, hr, hml, hown, hts, hlk⟩ := id C
  unfold b_X12_joins_237 at hF
  refine lv_aload_n hx hb dX12_joins_237 rfl (lv_at hl 0 rfl) ?_
  refine lv_iload_n hx hb dX12_joins_238 rfl (lv_at hl 1 rfl) ?_
  refine lv_iload_n hx hb dX12_joins_239 rfl (lv_at hl 2 rfl) ?_
  refine lv_lload hx hb dX12_joins_240 (lv_at hl 4 rfl) ?_
  refine lv_lload hx hb dX12_joins_242 (lv_at hl 3 rfl) ?_
  refine lv_iload hx hb dX12_joins_244 (lv_at hl 5 rfl) ?_
  obtain ⟨q_15, hc_16, hF⟩ := bnd_some hF
  refine cV_i (As := [.int v1, .int v2, .long v7, .long v5, .int v9]) (rest := []) C X (c_X12_counts l D hT aT yT n gT v1 v2 v7 v5 v9 q_15 hc_16 _) (cwV 5 hts (good_V q9_103 q9_105 q0_116 q1_9 q9_106) rfl rfl rfl (by decide +kernel) ⟨Nat.le_of_ble_eq_true rfl, Nat.le_of_ble_eq_true rfl⟩) (va_recv X.1 X.2.1 (ci := 12) (q0 := 0) rfl rfl) X.1 X.2.1 X.2.2.1 (free_all X) hl.1 rfl rfl (Nat.le_of_ble_eq_true rfl) dX12_joins_246 ⟨Nat.le_of_ble_eq_true rfl, Nat.le_of_ble_eq_true rfl⟩ (fun t H1 locs1 ht hB hk hS => ?_)
  have X : Hx D (tX12 yT) A s H1 locs1 (wX12 hT aT yT q_15.2) := Hx_after_all X ht hB hS
  clear hk hS ht hB
  generalize H1 = H at X ⊢
  generalize locs1 = locs at X ⊢
  obtain ⟨h_17, hF⟩ := grd_some hF
  have hq := Option.some.inj hF
  subst hq
  exact rt_z (v := q_15.1) C X (zB_n h_17) dX12_joins_249
set_option maxHeartbeats 4000000 in
set_option maxRecDepth 100000 in
theorem k_X12_joins_269 (l : Launch) (D : Dx) (hT : Nat) (aT : Nat → Nat) (yT : Nat → ClassId) (n : Nat) : S_X12_joins_269 l D hT aT yT (b_X12_joins_269 n) := by
  intro p e s m args below meth c H locs A ls gT s0 q C X hl hF
  obtain ⟨hx, hb, hr, hml, hown, hts, hlk⟩ := id C
  unfold b_X12_joins_269 at hF
  refine lv_lstore (lv' := [(10, .long s0), (0, .ref hT)]) hx hb dX12_joins_269 hl (by decide) rfl (fun ls hl => ?_)
  exact (k_X12_joins_271 l D hT aT yT n) C X (lv_sub hl [1, 0] rfl) hF
set_option maxHeartbeats 4000000 in
set_option maxRecDepth 100000 in
theorem k_X12_joins_129 (l : Launch) (D : Dx) (hT : Nat) (aT : Nat → Nat) (yT : Nat → ClassId) (n : Nat) : S_X12_joins_129 l D hT aT yT (b_X12_joins_129 n) := by
  intro p e s m args below meth c H locs A ls gT v1 v2 v3 v4 v5 v7 s0 q C X hl hF
  obtain ⟨hx, hb, hr, hml, hown, hts, hlk⟩ := id C
  unfold b_X12_joins_129 at hF
  refine lv_istore (lv' := [(9, .int s0), (0, .ref hT), (1, .int v1), (2, .int v2), (3, .int v3), (4, .int v4), (5, .long v5), (7, .long v7)]) hx hb dX12_joins_129 hl (by decide) rfl (fun ls hl => ?_)
  refine lv_aload_n hx hb dX12_joins_131 rfl (lv_at hl 1 rfl) ?_
  refine lv_lload hx hb dX12_joins_132 (lv_at hl 7 rfl) ?_
  refine lv_iload_n hx hb dX12_joins_134 rfl (lv_at hl 4 rfl) ?_
  refine lv_iload hx hb dX12_joins_135 (lv_at hl 0 rfl) ?_
  obtain ⟨q_8, hc_9, hF⟩ := bnd_some hF
  refine cV_l (As := [.long v7, .int v3, .int s0]) (rest := []) C X (c_X12_become l D hT aT yT n gT v7 v3 s0 q_8 hc_9 _) (cwV 3 hts (good_V q8_136 q8_138 q0_73 q1_9 q8_139) rfl rfl rfl (by decide +kernel) ⟨Nat.le_of_ble_eq_true rfl, Nat.le_of_ble_eq_true rfl⟩) (va_recv X.1 X.2.1 (ci := 12) (q0 := 0) rfl rfl) X.1 X.2.1 X.2.2.1 (free_all X) hl.1 rfl rfl (Nat.le_of_ble_eq_true rfl) dX12_joins_137 ⟨Nat.le_of_ble_eq_true rfl, Nat.le_of_ble_eq_true rfl⟩ (fun t H1 locs1 ht hB hk hS => ?_)
  have X : Hx D (tX12 yT) A s H1 locs1 (wX12 hT aT yT q_8.2) := Hx_after_all X ht hB hS
  clear hk hS ht hB
  generalize H1 = H at X ⊢
  generalize locs1 = locs at X ⊢
  refine lv_lstore (lv' := [(7, .long q_8.1), (9, .int s0), (0, .ref hT), (1, .int v1), (2, .int v2), (3, .int v3), (4, .int v4), (5, .long v5)]) hx hb dX12_joins_140 hl (by decide) rfl (fun ls hl => ?_)
  refine lv_aload_n hx hb dX12_joins_142 rfl (lv_at hl 2 rfl) ?_
  refine lv_lload hx hb dX12_joins_143 (lv_at hl 7 rfl) ?_
  refine lv_iload hx hb dX12_joins_145 (lv_at hl 6 rfl) ?_
  refine lv_iload hx hb dX12_joins_147 (lv_at hl 1 rfl) ?_
  obtain ⟨q_10, hc_11, hF⟩ := bnd_some hF
  refine cV_l (As := [.long v5, .int v4, .int s0]) (rest := []) C X (c_X12_become l D hT aT yT n q_8.2 v5 v4 s0 q_10 hc_11 _) (cwV 3 hts (good_V q8_136 q8_138 q0_73 q1_9 q8_139) rfl rfl rfl (by decide +kernel) ⟨Nat.le_of_ble_eq_true rfl, Nat.le_of_ble_eq_true rfl⟩) (va_recv X.1 X.2.1 (ci := 12) (q0 := 0) rfl rfl) X.1 X.2.1 X.2.2.1 (free_all X) hl.1 rfl rfl (Nat.le_of_ble_eq_true rfl) dX12_joins_149 ⟨Nat.le_of_ble_eq_true rfl, Nat.le_of_ble_eq_true rfl⟩ (fun t H1 locs1 ht hB hk hS => ?_)
  have X : Hx D (tX12 yT) A s H1 locs1 (wX12 hT aT yT q_10.2) := Hx_after_all X ht hB hS
  clear hk hS ht hB
  generalize H1 = H at X ⊢
  generalize locs1 = locs at X ⊢
  refine lv_lstore (lv' := [(5, .long q_10.1), (7, .long q_8.1), (9, .int s0), (0, .ref hT), (1, .int v1), (2, .int v2), (3, .int v3), (4, .int v4)]) hx hb dX12_joins_152 hl (by decide) rfl (fun ls hl => ?_)
  refine lv_lconst (v := (0 : Int64)) hx hb dX12_joins_154 (by decide) ?_
  refine lv_lstore (lv' := [(10, .long (0 : Int64)), (5, .long q_10.1), (7, .long q_8.1), (9, .int s0), (0, .ref hT), (1, .int v1), (2, .int v2), (3, .int v3), (4, .int v4)]) hx hb dX12_joins_155 hl (by decide) rfl (fun ls hl => ?_)
  refine lv_iload_n hx hb dX12_joins_157 rfl (lv_at hl 6 rfl) ?_
  refine lv_sipush (v := (215 : Int32)) hx hb dX12_joins_158 (by decide) ?_
  refine lv_icmp_ne (tgt := 177) hx hb dX12_joins_161 (by decide) (fun c => ?_) (fun c => ?_)
  · replace hF := iF c hF
    refine lv_iload_n hx hb dX12_joins_177 rfl (lv_at hl 6 rfl) ?_
    refine lv_sipush (v := (213 : Int32)) hx hb dX12_joins_178 (by decide) ?_
    refine lv_icmp_eq (tgt := 191) hx hb dX12_joins_181 (by decide) (fun c => ?_) (fun c => ?_)
    · replace hF := iT c hF
      exact (k_X12_joins_191 l D hT aT yT n) C X (lv_sub hl [4, 6, 1, 2, 3] rfl) hF
    · replace hF := iF c hF
      refine lv_iload_n hx hb dX12_joins_184 rfl (lv_at hl 6 rfl) ?_
      refine lv_sipush (v := (214 : Int32)) hx hb dX12_joins_185 (by decide) ?_
      refine lv_icmp_ne (tgt := 207) hx hb dX12_joins_188 (by decide) (fun c => ?_) (fun c => ?_)
      · replace hF := iF c hF
        refine lv_iload_n hx hb dX12_joins_207 rfl (lv_at hl 6 rfl) ?_
        refine lv_bipush (v := (43 : Int32)) hx hb dX12_joins_208 (by decide) ?_
        refine lv_icmp_eq (tgt := 237) hx hb dX12_joins_210 (by decide) (fun c => ?_) (fun c => ?_)
        · replace hF := iT c hF
          exact (k_X12_joins_237 l D hT aT yT n) C X (lv_sub hl [4, 5, 6, 1, 2, 3] rfl) hF
        · replace hF := iF c hF
          refine lv_iload_n hx hb dX12_joins_213 rfl (lv_at hl 6 rfl) ?_
          refine lv_bipush (v := (45 : Int32)) hx hb dX12_joins_214 (by decide) ?_
          refine lv_icmp_eq (tgt := 237) hx hb dX12_joins_216 (by decide) (fun c => ?_) (fun c => ?_)
          · replace hF := iT c hF
            exact (k_X12_joins_237 l D hT aT yT n) C X (lv_sub hl [4, 5, 6, 1, 2, 3] rfl) hF
          · replace hF := iF c hF
            refine lv_iload_n hx hb dX12_joins_219 rfl (lv_at hl 6 rfl) ?_
            refine lv_bipush (v := (42 : Int32)) hx hb dX12_joins_220 (by decide) ?_
            refine lv_icmp_eq (tgt := 237) hx hb dX12_joins_222 (by decide) (fun c => ?_) (fun c => ?_)
            · replace hF := iT c hF
              exact (k_X12_joins_237 l D hT aT yT n) C X (lv_sub hl [4, 5, 6, 1, 2, 3] rfl) hF
            · replace hF := iF c hF
              refine lv_iload_n hx hb dX12_joins_225 rfl (lv_at hl 6 rfl) ?_
              refine lv_bipush (v := (47 : Int32)) hx hb dX12_joins_226 (by decide) ?_
              refine lv_icmp_eq (tgt := 237) hx hb dX12_joins_228 (by decide) (fun c => ?_) (fun c => ?_)
              · replace hF := iT c hF
                exact (k_X12_joins_237 l D hT aT yT n) C X (lv_sub hl [4, 5, 6, 1, 2, 3] rfl) hF
              · replace hF := iF c hF
                refine lv_iload_n hx hb dX12_joins_231 rfl (lv_at hl 6 rfl) ?_
                refine lv_bipush (v := (37 : Int32)) hx hb dX12_joins_232 (by decide) ?_
                refine lv_icmp_ne (tgt := 250) hx hb dX12_joins_234 (by decide) (fun c => ?_) (fun c => ?_)
                · replace hF := iF c hF
                  refine lv_aload_n hx hb dX12_joins_250 rfl (lv_at hl 4 rfl) ?_
                  refine lv_iload_n hx hb dX12_joins_251 rfl (lv_at hl 6 rfl) ?_
                  refine lv_lload hx hb dX12_joins_252 (lv_at hl 2 rfl) ?_
                  refine lv_lload hx hb dX12_joins_254 (lv_at hl 1 rfl) ?_
                  refine lv_iload hx hb dX12_joins_256 (lv_at hl 3 rfl) ?_
                  obtain ⟨q_18, hc_19, hF⟩ := bnd_some hF
                  refine cV_i (As := [.int v2, .long q_8.1, .long q_10.1, .int s0]) (rest := []) C X (c_X12_holds l D hT aT yT n q_10.2 v2 q_8.1 q_10.1 s0 q_18 hc_19 _) (cwV 4 hts (good_V q9_126 q9_128 q0_119 q1_9 q9_129) rfl rfl rfl (by decide +kernel) ⟨Nat.le_of_ble_eq_true rfl, Nat.le_of_ble_eq_true rfl⟩) (va_recv X.1 X.2.1 (ci := 12) (q0 := 0) rfl rfl) X.1 X.2.1 X.2.2.1 (free_all X) hl.1 rfl rfl (Nat.le_of_ble_eq_true rfl) dX12_joins_258 ⟨Nat.le_of_ble_eq_true rfl, Nat.le_of_ble_eq_true rfl⟩ (fun t H1 locs1 ht hB hk hS => ?_)
                  have X : Hx D (tX12 yT) A s H1 locs1 (wX12 hT aT yT q_18.2) := Hx_after_all X ht hB hS
                  clear hk hS ht hB
                  generalize H1 = H at X ⊢
                  generalize locs1 = locs at X ⊢
                  refine lv_if_eq (tgt := 268) hx hb dX12_joins_261 (by decide) (fun c => ?_) (fun c => ?_)
                  · replace hF := iT c hF
                    refine lv_lconst (v := (0 : Int64)) hx hb dX12_joins_268 (by decide) ?_
                    exact (k_X12_joins_269 l D hT aT yT n) C X (lv_sub hl [4] rfl) hF
                  · replace hF := iF c hF
                    refine lv_lconst (v := (1 : Int64)) hx hb dX12_joins_264 (by decide) ?_
                    refine lv_goto (tgt := 269) hx hb dX12_joins_265 (by decide) ?_
                    exact (k_X12_joins_269 l D hT aT yT n) C X (lv_sub hl [4] rfl) hF
                · replace hF := iT c hF
                  exact (k_X12_joins_237 l D hT aT yT n) C X (lv_sub hl [4, 5, 6, 1, 2, 3] rfl) hF
      · replace hF := iT c hF
        exact (k_X12_joins_191 l D hT aT yT n) C X (lv_sub hl [4, 6, 1, 2, 3] rfl) hF
  · replace hF := iT c hF
    refine lv_aload_n hx hb dX12_joins_164 rfl (lv_at hl 4 rfl) ?_
    refine lv_lload hx hb dX12_joins_165 (lv_at hl 2 rfl) ?_
    refine lv_lload hx hb dX12_joins_167 (lv_at hl 1 rfl) ?_
    obtain ⟨q_20, hc_21, hF⟩ := bnd_some hF
    refine cV_l (As := [.long q_8.1, .long q_10.1]) (rest := []) C X (c_X12_common l D hT aT yT n q_10.2 q_8.1 q_10.1 q_20 hc_21 _) (cwV 2 hts (good_V q9_85 q9_87 q0_113 q1_9 q9_88) rfl rfl rfl (by decide +kernel) ⟨Nat.le_of_ble_eq_true rfl, Nat.le_of_ble_eq_true rfl⟩) (va_recv X.1 X.2.1 (ci := 12) (q0 := 0) rfl rfl) X.1 X.2.1 X.2.2.1 (free_all X) hl.1 rfl rfl (Nat.le_of_ble_eq_true rfl) dX12_joins_169 ⟨Nat.le_of_ble_eq_true rfl, Nat.le_of_ble_eq_true rfl⟩ (fun t H1 locs1 ht hB hk hS => ?_)
    have X : Hx D (tX12 yT) A s H1 locs1 (wX12 hT aT yT q_20.2) := Hx_after_all X ht hB hS
    clear hk hS ht hB
    generalize H1 = H at X ⊢
    generalize locs1 = locs at X ⊢
    refine lv_lstore (lv' := [(10, .long q_20.1), (5, .long q_10.1), (7, .long q_8.1), (9, .int s0), (0, .ref hT), (1, .int v1), (2, .int v2), (3, .int v3), (4, .int v4)]) hx hb dX12_joins_172 hl (by decide) rfl (fun ls hl => ?_)
    refine lv_goto (tgt := 271) hx hb dX12_joins_174 (by decide) ?_
    exact (k_X12_joins_271 l D hT aT yT n) C X (lv_sub hl [4, 0] rfl) hF
set_option maxHeartbeats 4000000 in
set_option maxRecDepth 100000 in
theorem k_X12_joins_108 (l : Launch) (D : Dx) (hT : Nat) (aT : Nat → Nat) (yT : Nat → ClassId) (n : Nat) : S_X12_joins_108 l D hT aT yT (b_X12_joins_108 n) := by
  intro p e s m args below meth c H locs A ls gT s0 s1 q C X hl hF
  obtain ⟨hx, hb, hr, hml, hown, hts, hlk⟩ := id C
  unfold b_X12_joins_108 at hF
  obtain ⟨h_22, hF⟩ := grd_some hF
  refine va_last (D := D.1) (f := gLA gT 92) hx hb X.1 X.2.1 X.2.2.1 X.2.2.2.1 63 62 rfl rfl (inB_ok h_22) dX12_joins_108 (fun H locs hP hD hS => ?_)
  have X : Hx D (tX12 yT) A s H locs (wX12 hT aT yT (sLA gT 92 (vp_updL (gLA gT 92) s1.toNatClampNeg s0))) := Hx_set X (wG_sLA (i := 62) (k := 92) ndX12 rfl rfl) hP hD hS
  refine lv_iconst (v := (1 : Int32)) hx hb dX12_joins_109 (by decide) ?_
  have hq := Option.some.inj hF
  subst hq
  exact rt_z (v := (1 : Int32)) C X (by decide) dX12_joins_110
set_option maxHeartbeats 4000000 in
set_option maxRecDepth 100000 in
theorem k_X12_joins_100 (l : Launch) (D : Dx) (hT : Nat) (aT : Nat → Nat) (yT : Nat → ClassId) (n : Nat) : S_X12_joins_100 l D hT aT yT (b_X12_joins_100 n) := by
  intro p e s m args below meth c H locs A ls gT s0 s1 s2 q C X hl hF
  obtain ⟨hx, hb, hr, hml, hown, hts, hlk⟩ := id C
  unfold b_X12_joins_100 at hF
  refine lv_icmp_ne (tgt := 107) hx hb dX12_joins_100 (by decide) (fun c => ?_) (fun c => ?_)
  · replace hF := iF c hF
    refine lv_lconst (v := (0 : Int64)) hx hb dX12_joins_107 (by decide) ?_
    exact (k_X12_joins_108 l D hT aT yT n) C X (lv_sub hl [] rfl) hF
  · replace hF := iT c hF
    refine lv_lconst (v := (1 : Int64)) hx hb dX12_joins_103 (by decide) ?_
    refine lv_goto (tgt := 108) hx hb dX12_joins_104 (by decide) ?_
    exact (k_X12_joins_108 l D hT aT yT n) C X (lv_sub hl [] rfl) hF
set_option maxHeartbeats 4000000 in
set_option maxRecDepth 100000 in
theorem k_X12_joins_88 (l : Launch) (D : Dx) (hT : Nat) (aT : Nat → Nat) (yT : Nat → ClassId) (n : Nat) : S_X12_joins_88 l D hT aT yT (b_X12_joins_88 n) := by
  intro p e s m args below meth c H locs A ls gT v2 s0 s1 q C X hl hF
  obtain ⟨hx, hb, hr, hml, hown, hts, hlk⟩ := id C
  unfold b_X12_joins_88 at hF
  refine lv_iload_n hx hb dX12_joins_88 rfl (lv_at hl 0 rfl) ?_
  refine lv_sipush (v := (189 : Int32)) hx hb dX12_joins_89 (by decide) ?_
  refine lv_icmp_ne (tgt := 99) hx hb dX12_joins_92 (by decide) (fun c => ?_) (fun c => ?_)
  · replace hF := iF c hF
    refine lv_iconst (v := (0 : Int32)) hx hb dX12_joins_99 (by decide) ?_
    exact (k_X12_joins_100 l D hT aT yT n) C X (lv_sub hl [] rfl) hF
  · replace hF := iT c hF
    refine lv_iconst (v := (1 : Int32)) hx hb dX12_joins_95 (by decide) ?_
    refine lv_goto (tgt := 100) hx hb dX12_joins_96 (by decide) ?_
    exact (k_X12_joins_100 l D hT aT yT n) C X (lv_sub hl [] rfl) hF
set_option maxHeartbeats 4000000 in
set_option maxRecDepth 100000 in
theorem c_X12_joins (l : Launch) (D : Dx) (hT : Nat) (aT : Nat → Nat) (yT : Nat → ClassId) (n : Nat) (gT : Gs) (x0 : Int32) (q : Int32 × Gs) (hF : f_X12_joins n gT x0 = some q) (sz : Nat) : Met l yX12_joins (ws_ yX12_joins cX12_joins 12 (some .boolean)) R_X12_joins (PC D (tX12 yT) [.ref hT, .int x0] (wX12 hT aT yT gT) sz) (QI D (va_A (wX12 hT aT yT gT) sz) (wX12 hT aT yT q.2) q.1) 0 0 (va_A (wX12 hT aT yT gT) sz) := by
  refine Met.ofW (cc := cX12_joins) (maxL := 12) (ret := (some .boolean)) (by decide) rfl ?_
  intro p e s m args below meth c s₁ B hml hv
  obtain ⟨rfl, hsz, hP, hK, hD, hN⟩ := hv
  subst hsz
  have C : Cx p s m _ meth c cX12_joins (some .boolean) 12 RX12 lw_all := Cx_of B hml
  have X := Hx_start hP hK hD hN
  obtain ⟨hx, hb, hr, -, hown, hts, hlk⟩ := id C
  generalize va_A (wX12 hT aT yT gT) s.heap.size = A at X ⊢
  have hl := lv_entry ([.ref hT, .int x0]) (n := 12) (Nat.le_of_ble_eq_true rfl)
  rw [lg_entry_eq]
  generalize (lg_sl ([.ref hT, .int x0]) ++ List.replicate (12 - (lg_sl ([.ref hT, .int x0])).length) Slot.unset).toArray = ls at hl ⊢
  have hl : lv_has ls 12 [(0, .ref hT), (1, .int x0)] := hl
  unfold f_X12_joins at hF
  refine lv_aload_n hx hb dX12_joins_0 rfl (lv_at hl 0 rfl) ?_
  refine va_get (D := D.1) (ci := 12) (v := .ref (aT 15)) (C := RX12) (T := TX12) (N := 114) hx hb hts wi_X12 hown X.1 X.2.1 0 rfl rfl 15 (by decide) (hts _ q6_209) (fun _ h9 => h9) (fl_get (by decide)) dX12_joins_1 ?_
  refine lv_iload_n hx hb dX12_joins_4 rfl (lv_at hl 1 rfl) ?_
  obtain ⟨h_1, hF⟩ := grd_some hF
  refine va_iald (D := D.1) (f := gIA gT 15) hx hb X.1 X.2.1 10 9 rfl rfl (inB_ok h_1) dX12_joins_5 ?_
  refine lv_istore_n (lv' := [(2, .int (gIA gT 15 x0.toNatClampNeg)), (0, .ref hT), (1, .int x0)]) hx hb dX12_joins_6 rfl hl (by decide) rfl (fun ls hl => ?_)
  refine lv_aload_n hx hb dX12_joins_7 rfl (lv_at hl 1 rfl) ?_
  refine va_get (D := D.1) (ci := 12) (v := .ref (aT 16)) (C := RX12) (T := TX12) (N := 114) hx hb hts wi_X12 hown X.1 X.2.1 0 rfl rfl 16 (by decide) (hts _ q6_210) (fun _ h9 => h9) (fl_get (by decide)) dX12_joins_8 ?_
  refine lv_iload_n hx hb dX12_joins_11 rfl (lv_at hl 2 rfl) ?_
  obtain ⟨h_2, hF⟩ := grd_some hF
  refine va_iald (D := D.1) (f := gIA gT 16) hx hb X.1 X.2.1 11 10 rfl rfl (inB_ok h_2) dX12_joins_12 ?_
  refine lv_iconst (v := (3 : Int32)) hx hb dX12_joins_13 (by decide) ?_
  refine lv_ishr hx hb dX12_joins_14 ?_
  refine lv_istore_n (lv' := [(3, .int ((gIA gT 16 x0.toNatClampNeg) >>> ((3 : Int32) &&& 31))), (2, .int (gIA gT 15 x0.toNatClampNeg)), (0, .ref hT), (1, .int x0)]) hx hb dX12_joins_15 rfl hl (by decide) rfl (fun ls hl => ?_)
  refine lv_aload_n hx hb dX12_joins_16 rfl (lv_at hl 2 rfl) ?_
  refine va_get (D := D.1) (ci := 12) (v := .ref (aT 16)) (C := RX12) (T := TX12) (N := 114) hx hb hts wi_X12 hown X.1 X.2.1 0 rfl rfl 16 (by decide) (hts _ q6_210) (fun _ h9 => h9) (fl_get (by decide)) dX12_joins_17 ?_
  refine lv_iload_n hx hb dX12_joins_20 rfl (lv_at hl 3 rfl) ?_
  obtain ⟨h_3, hF⟩ := grd_some hF
  refine va_iald (D := D.1) (f := gIA gT 16) hx hb X.1 X.2.1 11 10 rfl rfl (inB_ok h_3) dX12_joins_21 ?_
  refine lv_bipush (v := (7 : Int32)) hx hb dX12_joins_22 (by decide) ?_
  refine lv_iand hx hb dX12_joins_24 ?_
  refine lv_istore (lv' := [(4, .int ((gIA gT 16 x0.toNatClampNeg) &&& (7 : Int32))), (3, .int ((gIA gT 16 x0.toNatClampNeg) >>> ((3 : Int32) &&& 31))), (2, .int (gIA gT 15 x0.toNatClampNeg)), (0, .ref hT), (1, .int x0)]) hx hb dX12_joins_25 hl (by decide) rfl (fun ls hl => ?_)
  refine lv_aload_n hx hb dX12_joins_27 rfl (lv_at hl 3 rfl) ?_
  refine lv_dup hx hb dX12_joins_28 rfl ?_
  refine va_get (D := D.1) (ci := 12) (v := .int (gI gT 93)) (C := RX12) (T := TX12) (N := 114) hx hb hts wi_X12 hown X.1 X.2.1 0 rfl rfl 93 (by decide) (hts _ q7_47) (fun _ h9 => h9) (fl_get (by decide)) dX12_joins_29 ?_
  refine lv_iconst (v := (1 : Int32)) hx hb dX12_joins_32 (by decide) ?_
  refine lv_isub hx hb dX12_joins_33 ?_
  refine va_put (D := D.1) (ci := 12) (v := .int ((gI gT 93) - (1 : Int32))) (ty := .int) (C := RX12) (T := TX12) (N := 114) hx hb hts wi_X12 tyX12 tyX12_ok nmX12 hown X.1 X.2.1 X.2.2.1 X.2.2.2.1 0 rfl rfl 93 (by decide) (hts _ q7_47) (fun _ h9 => h9) rfl (by decide +kernel) rfl rfl (by rw [List.length_map, List.length_range]; decide) dX12_joins_34 (fun H locs hP hD hS => ?_)
  have X : Hx D (tX12 yT) A s H locs (wX12 hT aT yT (sI gT 93 ((gI gT 93) - (1 : Int32)))) := Hx_set X (wG_sI (k := 93) rfl) hP hD hS
  refine lv_aload_n hx hb dX12_joins_37 rfl (lv_at hl 3 rfl) ?_
  refine va_get (D := D.1) (ci := 12) (v := .ref (aT 92)) (C := RX12) (T := TX12) (N := 114) hx hb hts wi_X12 hown X.1 X.2.1 0 rfl rfl 92 (by decide) (hts _ q7_46) (fun _ h9 => h9) (fl_get (by decide)) dX12_joins_38 ?_
  refine lv_aload_n hx hb dX12_joins_41 rfl (lv_at hl 3 rfl) ?_
  refine va_get (D := D.1) (ci := 12) (v := .int ((gI gT 93) - (1 : Int32))) (C := RX12) (T := TX12) (N := 114) hx hb hts wi_X12 hown X.1 X.2.1 0 rfl rfl 93 (by decide) (hts _ q7_47) (fun _ h9 => h9) (fl_get (by decide)) dX12_joins_42 ?_
  obtain ⟨h_4, hF⟩ := grd_some hF
  refine va_lald (D := D.1) (f := gLA gT 92) hx hb X.1 X.2.1 63 62 rfl rfl (inB_ok h_4) dX12_joins_45 ?_
  refine lv_lstore (lv' := [(5, .long (gLA gT 92 ((gI gT 93) - (1 : Int32)).toNatClampNeg)), (4, .int ((gIA gT 16 x0.toNatClampNeg) &&& (7 : Int32))), (3, .int ((gIA gT 16 x0.toNatClampNeg) >>> ((3 : Int32) &&& 31))), (2, .int (gIA gT 15 x0.toNatClampNeg)), (0, .ref hT), (1, .int x0)]) hx hb dX12_joins_46 hl (by decide) rfl (fun ls hl => ?_)
  refine lv_aload_n hx hb dX12_joins_48 rfl (lv_at hl 4 rfl) ?_
  refine va_get (D := D.1) (ci := 12) (v := .ref (aT 92)) (C := RX12) (T := TX12) (N := 114) hx hb hts wi_X12 hown X.1 X.2.1 0 rfl rfl 92 (by decide) (hts _ q7_46) (fun _ h9 => h9) (fl_get (by decide)) dX12_joins_49 ?_
  refine lv_aload_n hx hb dX12_joins_52 rfl (lv_at hl 4 rfl) ?_
  refine va_get (D := D.1) (ci := 12) (v := .int ((gI gT 93) - (1 : Int32))) (C := RX12) (T := TX12) (N := 114) hx hb hts wi_X12 hown X.1 X.2.1 0 rfl rfl 93 (by decide) (hts _ q7_47) (fun _ h9 => h9) (fl_get (by decide)) dX12_joins_53 ?_
  refine lv_iconst (v := (1 : Int32)) hx hb dX12_joins_56 (by decide) ?_
  refine lv_isub hx hb dX12_joins_57 ?_
  obtain ⟨h_5, hF⟩ := grd_some hF
  refine va_lald (D := D.1) (f := gLA gT 92) hx hb X.1 X.2.1 63 62 rfl rfl (inB_ok h_5) dX12_joins_58 ?_
  refine lv_lstore (lv' := [(7, .long (gLA gT 92 (((gI gT 93) - (1 : Int32)) - (1 : Int32)).toNatClampNeg)), (5, .long (gLA gT 92 ((gI gT 93) - (1 : Int32)).toNatClampNeg)), (4, .int ((gIA gT 16 x0.toNatClampNeg) &&& (7 : Int32))), (3, .int ((gIA gT 16 x0.toNatClampNeg) >>> ((3 : Int32) &&& 31))), (2, .int (gIA gT 15 x0.toNatClampNeg)), (0, .ref hT), (1, .int x0)]) hx hb dX12_joins_59 hl (by decide) rfl (fun ls hl => ?_)
  refine lv_iload_n hx hb dX12_joins_61 rfl (lv_at hl 3 rfl) ?_
  refine lv_if_ne (tgt := 111) hx hb dX12_joins_62 (by decide) (fun c => ?_) (fun c => ?_)
  · replace hF := iF c hF
    refine lv_iload_n hx hb dX12_joins_111 rfl (lv_at hl 4 rfl) ?_
    refine lv_sipush (v := (215 : Int32)) hx hb dX12_joins_112 (by decide) ?_
    refine lv_icmp_ne (tgt := 123) hx hb dX12_joins_115 (by decide) (fun c => ?_) (fun c => ?_)
    · replace hF := iF c hF
      refine lv_iload_n hx hb dX12_joins_123 rfl (lv_at hl 3 rfl) ?_
      refine lv_iload hx hb dX12_joins_124 (lv_at hl 2 rfl) ?_
      obtain ⟨q_6, hc_7, hF⟩ := bnd_some hF
      refine cS_i (As := [.int ((gIA gT 16 x0.toNatClampNeg) >>> ((3 : Int32) &&& 31)), .int ((gIA gT 16 x0.toNatClampNeg) &&& (7 : Int32))]) (rest := []) C X (c_X12_joined l D  ((gIA gT 16 x0.toNatClampNeg) >>> ((3 : Int32) &&& 31)) ((gIA gT 16 x0.toNatClampNeg) &&& (7 : Int32)) q_6 hc_7 _) (va_cwS 2 hts (good_S q9_55 q9_56 q1_9 q9_57) rfl rfl rfl (by decide +kernel) ⟨Nat.le_of_ble_eq_true rfl, Nat.le_of_ble_eq_true rfl⟩) (eK X) eP (eD (A := A)) (eF X) hl.1 rfl rfl (Nat.le_of_ble_eq_true rfl) dX12_joins_126 ⟨Nat.le_of_ble_eq_true rfl, Nat.le_of_ble_eq_true rfl⟩ (fun t H1 locs1 ht hB hk hS => ?_)
      have X := Hx_after_none X hk hS
      clear hk hS ht hB
      generalize H1 = H at X ⊢
      generalize locs1 = locs at X ⊢
      exact (k_X12_joins_129 l D hT aT yT n) C X (lv_sub hl [5, 6, 4, 3, 2, 1, 0] rfl) hF
    · replace hF := iT c hF
      refine lv_bipush (v := (7 : Int32)) hx hb dX12_joins_118 (by decide) ?_
      refine lv_goto (tgt := 129) hx hb dX12_joins_120 (by decide) ?_
      exact (k_X12_joins_129 l D hT aT yT n) C X (lv_sub hl [5, 6, 4, 3, 2, 1, 0] rfl) hF
  · replace hF := iT c hF
    refine lv_aload_n hx hb dX12_joins_65 rfl (lv_at hl 5 rfl) ?_
    refine va_get (D := D.1) (ci := 12) (v := .ref (aT 92)) (C := RX12) (T := TX12) (N := 114) hx hb hts wi_X12 hown X.1 X.2.1 0 rfl rfl 92 (by decide) (hts _ q7_46) (fun _ h9 => h9) (fl_get (by decide)) dX12_joins_66 ?_
    refine lv_aload_n hx hb dX12_joins_69 rfl (lv_at hl 5 rfl) ?_
    refine va_get (D := D.1) (ci := 12) (v := .int ((gI gT 93) - (1 : Int32))) (C := RX12) (T := TX12) (N := 114) hx hb hts wi_X12 hown X.1 X.2.1 0 rfl rfl 93 (by decide) (hts _ q7_47) (fun _ h9 => h9) (fl_get (by decide)) dX12_joins_70 ?_
    refine lv_iconst (v := (1 : Int32)) hx hb dX12_joins_73 (by decide) ?_
    refine lv_isub hx hb dX12_joins_74 ?_
    refine lv_lload hx hb dX12_joins_75 (lv_at hl 0 rfl) ?_
    refine lv_lload hx hb dX12_joins_77 (lv_at hl 1 rfl) ?_
    refine W.lcmp hx hb dX12_joins_79 ?_
    refine lv_if_ne (tgt := 87) hx hb dX12_joins_80 (by decide) (fun c => ?_) (fun c => ?_)
    · have c := fun h => c ((lg_cmp_eq _ _).mpr h)
      replace hF := iF c hF
      refine lv_iconst (v := (0 : Int32)) hx hb dX12_joins_87 (by decide) ?_
      exact (k_X12_joins_88 l D hT aT yT n) C X (lv_sub hl [4] rfl) hF
    · have c := (lg_cmp_eq _ _).mp c
      replace hF := iT c hF
      refine lv_iconst (v := (1 : Int32)) hx hb dX12_joins_83 (by decide) ?_
      refine lv_goto (tgt := 88) hx hb dX12_joins_84 (by decide) ?_
      exact (k_X12_joins_88 l D hT aT yT n) C X (lv_sub hl [4] rfl) hF

/-! ### X12_done -/
theorem dX12_done_0 : decode cX12_done 0 = .ok (.aload_n 0, 1) := by decide +kernel
theorem dX12_done_1 : decode cX12_done 1 = .ok (.getfield 101, 3) := by decide +kernel
theorem dX12_done_4 : decode cX12_done 4 = .ok (.iload_n 1, 1) := by decide +kernel
theorem dX12_done_5 : decode cX12_done 5 = .ok (.iaload, 1) := by decide +kernel
theorem dX12_done_6 : decode cX12_done 6 = .ok (.istore_n 2, 1) := by decide +kernel
theorem dX12_done_7 : decode cX12_done 7 = .ok (.aload_n 0, 1) := by decide +kernel
theorem dX12_done_8 : decode cX12_done 8 = .ok (.getfield 98, 3) := by decide +kernel
theorem dX12_done_11 : decode cX12_done 11 = .ok (.iload_n 1, 1) := by decide +kernel
theorem dX12_done_12 : decode cX12_done 12 = .ok (.iaload, 1) := by decide +kernel
theorem dX12_done_13 : decode cX12_done 13 = .ok (.tableswitch 125 1 12 #[63, 75, 85, 95, 107, 125, 125, 125, 125, 125, 119, 119], 63) := by decide +kernel
theorem dX12_done_76 : decode cX12_done 76 = .ok (.aload_n 0, 1) := by decide +kernel
theorem dX12_done_77 : decode cX12_done 77 = .ok (.aload_n 0, 1) := by decide +kernel
theorem dX12_done_78 : decode cX12_done 78 = .ok (.getfield 110, 3) := by decide +kernel
theorem dX12_done_81 : decode cX12_done 81 = .ok (.iload_n 1, 1) := by decide +kernel
theorem dX12_done_82 : decode cX12_done 82 = .ok (.laload, 1) := by decide +kernel
theorem dX12_done_83 : decode cX12_done 83 = .ok (.invokevirtual 656, 3) := by decide +kernel
theorem dX12_done_86 : decode cX12_done 86 = .ok (.iconst 1, 1) := by decide +kernel
theorem dX12_done_87 : decode cX12_done 87 = .ok (.ireturn, 1) := by decide +kernel
theorem dX12_done_88 : decode cX12_done 88 = .ok (.aload_n 0, 1) := by decide +kernel
theorem dX12_done_89 : decode cX12_done 89 = .ok (.aload_n 0, 1) := by decide +kernel
theorem dX12_done_90 : decode cX12_done 90 = .ok (.getfield 319, 3) := by decide +kernel
theorem dX12_done_93 : decode cX12_done 93 = .ok (.invokevirtual 656, 3) := by decide +kernel
theorem dX12_done_96 : decode cX12_done 96 = .ok (.iconst 1, 1) := by decide +kernel
theorem dX12_done_97 : decode cX12_done 97 = .ok (.ireturn, 1) := by decide +kernel
theorem dX12_done_98 : decode cX12_done 98 = .ok (.aload_n 0, 1) := by decide +kernel
theorem dX12_done_99 : decode cX12_done 99 = .ok (.aload_n 0, 1) := by decide +kernel
theorem dX12_done_100 : decode cX12_done 100 = .ok (.getfield 334, 3) := by decide +kernel
theorem dX12_done_103 : decode cX12_done 103 = .ok (.invokevirtual 656, 3) := by decide +kernel
theorem dX12_done_106 : decode cX12_done 106 = .ok (.iconst 1, 1) := by decide +kernel
theorem dX12_done_107 : decode cX12_done 107 = .ok (.ireturn, 1) := by decide +kernel
theorem dX12_done_108 : decode cX12_done 108 = .ok (.aload_n 0, 1) := by decide +kernel
theorem dX12_done_109 : decode cX12_done 109 = .ok (.aload_n 0, 1) := by decide +kernel
theorem dX12_done_110 : decode cX12_done 110 = .ok (.getfield 298, 3) := by decide +kernel
theorem dX12_done_113 : decode cX12_done 113 = .ok (.iload_n 2, 1) := by decide +kernel
theorem dX12_done_114 : decode cX12_done 114 = .ok (.laload, 1) := by decide +kernel
theorem dX12_done_115 : decode cX12_done 115 = .ok (.invokevirtual 656, 3) := by decide +kernel
theorem dX12_done_118 : decode cX12_done 118 = .ok (.iconst 1, 1) := by decide +kernel
theorem dX12_done_119 : decode cX12_done 119 = .ok (.ireturn, 1) := by decide +kernel
theorem dX12_done_120 : decode cX12_done 120 = .ok (.aload_n 0, 1) := by decide +kernel
theorem dX12_done_121 : decode cX12_done 121 = .ok (.aload_n 0, 1) := by decide +kernel
theorem dX12_done_122 : decode cX12_done 122 = .ok (.getfield 301, 3) := by decide +kernel
theorem dX12_done_125 : decode cX12_done 125 = .ok (.iload_n 2, 1) := by decide +kernel
theorem dX12_done_126 : decode cX12_done 126 = .ok (.laload, 1) := by decide +kernel
theorem dX12_done_127 : decode cX12_done 127 = .ok (.invokevirtual 656, 3) := by decide +kernel
theorem dX12_done_130 : decode cX12_done 130 = .ok (.iconst 1, 1) := by decide +kernel
theorem dX12_done_131 : decode cX12_done 131 = .ok (.ireturn, 1) := by decide +kernel
theorem dX12_done_132 : decode cX12_done 132 = .ok (.aload_n 0, 1) := by decide +kernel
theorem dX12_done_133 : decode cX12_done 133 = .ok (.iload_n 1, 1) := by decide +kernel
theorem dX12_done_134 : decode cX12_done 134 = .ok (.invokevirtual 660, 3) := by decide +kernel
theorem dX12_done_137 : decode cX12_done 137 = .ok (.ireturn, 1) := by decide +kernel
theorem dX12_done_138 : decode cX12_done 138 = .ok (.aload_n 0, 1) := by decide +kernel
theorem dX12_done_139 : decode cX12_done 139 = .ok (.getfield 337, 3) := by decide +kernel
theorem dX12_done_142 : decode cX12_done 142 = .ok (.aload_n 0, 1) := by decide +kernel
theorem dX12_done_143 : decode cX12_done 143 = .ok (.getfield 340, 3) := by decide +kernel
theorem dX12_done_146 : decode cX12_done 146 = .ok (.iconst 1, 1) := by decide +kernel
theorem dX12_done_147 : decode cX12_done 147 = .ok (.isub, 1) := by decide +kernel
theorem dX12_done_148 : decode cX12_done 148 = .ok (.laload, 1) := by decide +kernel
theorem dX12_done_149 : decode cX12_done 149 = .ok (.lstore_n 3, 1) := by decide +kernel
theorem dX12_done_150 : decode cX12_done 150 = .ok (.aload_n 0, 1) := by decide +kernel
theorem dX12_done_151 : decode cX12_done 151 = .ok (.getfield 104, 3) := by decide +kernel
theorem dX12_done_154 : decode cX12_done 154 = .ok (.iload_n 1, 1) := by decide +kernel
theorem dX12_done_155 : decode cX12_done 155 = .ok (.iaload, 1) := by decide +kernel
theorem dX12_done_156 : decode cX12_done 156 = .ok (.istore 5, 2) := by decide +kernel
theorem dX12_done_158 : decode cX12_done 158 = .ok (.aload_n 0, 1) := by decide +kernel
theorem dX12_done_159 : decode cX12_done 159 = .ok (.getfield 98, 3) := by decide +kernel
theorem dX12_done_162 : decode cX12_done 162 = .ok (.iload_n 1, 1) := by decide +kernel
theorem dX12_done_163 : decode cX12_done 163 = .ok (.iaload, 1) := by decide +kernel
theorem dX12_done_164 : decode cX12_done 164 = .ok (.tableswitch 224 6 10 #[36, 82, 137, 144, 186], 36) := by decide +kernel
theorem dX12_done_200 : decode cX12_done 200 = .ok (.lload_n 3, 1) := by decide +kernel
theorem dX12_done_201 : decode cX12_done 201 = .ok (.lconst 0, 1) := by decide +kernel
theorem dX12_done_202 : decode cX12_done 202 = .ok (.lcmp, 1) := by decide +kernel
theorem dX12_done_203 : decode cX12_done 203 = .ok (.ifCond .lt 15, 3) := by decide +kernel
theorem dX12_done_206 : decode cX12_done 206 = .ok (.lload_n 3, 1) := by decide +kernel
theorem dX12_done_207 : decode cX12_done 207 = .ok (.aload_n 0, 1) := by decide +kernel
theorem dX12_done_208 : decode cX12_done 208 = .ok (.getfield 292, 3) := by decide +kernel
theorem dX12_done_211 : decode cX12_done 211 = .ok (.iload_n 2, 1) := by decide +kernel
theorem dX12_done_212 : decode cX12_done 212 = .ok (.iaload, 1) := by decide +kernel
theorem dX12_done_213 : decode cX12_done 213 = .ok (.i2l, 1) := by decide +kernel
theorem dX12_done_214 : decode cX12_done 214 = .ok (.lcmp, 1) := by decide +kernel
theorem dX12_done_215 : decode cX12_done 215 = .ok (.ifCond .lt 15, 3) := by decide +kernel
theorem dX12_done_218 : decode cX12_done 218 = .ok (.aload_n 0, 1) := by decide +kernel
theorem dX12_done_219 : decode cX12_done 219 = .ok (.iconst 4, 1) := by decide +kernel
theorem dX12_done_220 : decode cX12_done 220 = .ok (.aload_n 0, 1) := by decide +kernel
theorem dX12_done_221 : decode cX12_done 221 = .ok (.getfield 107, 3) := by decide +kernel
theorem dX12_done_224 : decode cX12_done 224 = .ok (.iload_n 1, 1) := by decide +kernel
theorem dX12_done_225 : decode cX12_done 225 = .ok (.iaload, 1) := by decide +kernel
theorem dX12_done_226 : decode cX12_done 226 = .ok (.invokevirtual 663, 3) := by decide +kernel
theorem dX12_done_229 : decode cX12_done 229 = .ok (.ireturn, 1) := by decide +kernel
theorem dX12_done_230 : decode cX12_done 230 = .ok (.aload_n 0, 1) := by decide +kernel
theorem dX12_done_231 : decode cX12_done 231 = .ok (.getfield 295, 3) := by decide +kernel
theorem dX12_done_234 : decode cX12_done 234 = .ok (.bipush 24, 2) := by decide +kernel
theorem dX12_done_236 : decode cX12_done 236 = .ok (.iload_n 2, 1) := by decide +kernel
theorem dX12_done_237 : decode cX12_done 237 = .ok (.imul, 1) := by decide +kernel
theorem dX12_done_238 : decode cX12_done 238 = .ok (.lload_n 3, 1) := by decide +kernel
theorem dX12_done_239 : decode cX12_done 239 = .ok (.l2i, 1) := by decide +kernel
theorem dX12_done_240 : decode cX12_done 240 = .ok (.iadd, 1) := by decide +kernel
theorem dX12_done_241 : decode cX12_done 241 = .ok (.laload, 1) := by decide +kernel
theorem dX12_done_242 : decode cX12_done 242 = .ok (.lstore_n 3, 1) := by decide +kernel
theorem dX12_done_243 : decode cX12_done 243 = .ok (.goto 160, 3) := by decide +kernel
theorem dX12_done_246 : decode cX12_done 246 = .ok (.iload 5, 2) := by decide +kernel
theorem dX12_done_248 : decode cX12_done 248 = .ok (.bipush 7, 2) := by decide +kernel
theorem dX12_done_250 : decode cX12_done 250 = .ok (.if_icmp .ne 12, 3) := by decide +kernel
theorem dX12_done_253 : decode cX12_done 253 = .ok (.lload_n 3, 1) := by decide +kernel
theorem dX12_done_254 : decode cX12_done 254 = .ok (.ldc2_w 428, 3) := by decide +kernel
theorem dX12_done_257 : decode cX12_done 257 = .ok (.lxor, 1) := by decide +kernel
theorem dX12_done_258 : decode cX12_done 258 = .ok (.lstore_n 3, 1) := by decide +kernel
theorem dX12_done_259 : decode cX12_done 259 = .ok (.goto 144, 3) := by decide +kernel
theorem dX12_done_262 : decode cX12_done 262 = .ok (.iload 5, 2) := by decide +kernel
theorem dX12_done_264 : decode cX12_done 264 = .ok (.bipush 6, 2) := by decide +kernel
theorem dX12_done_266 : decode cX12_done 266 = .ok (.if_icmp .ne 14, 3) := by decide +kernel
theorem dX12_done_269 : decode cX12_done 269 = .ok (.lload_n 3, 1) := by decide +kernel
theorem dX12_done_270 : decode cX12_done 270 = .ok (.l2i, 1) := by decide +kernel
theorem dX12_done_271 : decode cX12_done 271 = .ok (.ldc_w 665, 3) := by decide +kernel
theorem dX12_done_274 : decode cX12_done 274 = .ok (.ixor, 1) := by decide +kernel
theorem dX12_done_275 : decode cX12_done 275 = .ok (.i2l, 1) := by decide +kernel
theorem dX12_done_276 : decode cX12_done 276 = .ok (.lstore_n 3, 1) := by decide +kernel
theorem dX12_done_277 : decode cX12_done 277 = .ok (.goto 126, 3) := by decide +kernel
theorem dX12_done_280 : decode cX12_done 280 = .ok (.lload_n 3, 1) := by decide +kernel
theorem dX12_done_281 : decode cX12_done 281 = .ok (.lneg, 1) := by decide +kernel
theorem dX12_done_282 : decode cX12_done 282 = .ok (.iload 5, 2) := by decide +kernel
theorem dX12_done_284 : decode cX12_done 284 = .ok (.iconst 4, 1) := by decide +kernel
theorem dX12_done_285 : decode cX12_done 285 = .ok (.if_icmp .ge 7, 3) := by decide +kernel
theorem dX12_done_288 : decode cX12_done 288 = .ok (.iconst 4, 1) := by decide +kernel
theorem dX12_done_289 : decode cX12_done 289 = .ok (.goto 5, 3) := by decide +kernel
theorem dX12_done_292 : decode cX12_done 292 = .ok (.iload 5, 2) := by decide +kernel
theorem dX12_done_294 : decode cX12_done 294 = .ok (.invokestatic 470, 3) := by decide +kernel
theorem dX12_done_297 : decode cX12_done 297 = .ok (.lstore_n 3, 1) := by decide +kernel
theorem dX12_done_298 : decode cX12_done 298 = .ok (.goto 105, 3) := by decide +kernel
theorem dX12_done_301 : decode cX12_done 301 = .ok (.lconst 1, 1) := by decide +kernel
theorem dX12_done_302 : decode cX12_done 302 = .ok (.lload_n 3, 1) := by decide +kernel
theorem dX12_done_303 : decode cX12_done 303 = .ok (.lsub, 1) := by decide +kernel
theorem dX12_done_304 : decode cX12_done 304 = .ok (.lstore_n 3, 1) := by decide +kernel
theorem dX12_done_305 : decode cX12_done 305 = .ok (.goto 98, 3) := by decide +kernel
theorem dX12_done_308 : decode cX12_done 308 = .ok (.aload_n 0, 1) := by decide +kernel
theorem dX12_done_309 : decode cX12_done 309 = .ok (.lload_n 3, 1) := by decide +kernel
theorem dX12_done_310 : decode cX12_done 310 = .ok (.iload 5, 2) := by decide +kernel
theorem dX12_done_312 : decode cX12_done 312 = .ok (.iload_n 2, 1) := by decide +kernel
theorem dX12_done_313 : decode cX12_done 313 = .ok (.invokevirtual 488, 3) := by decide +kernel
theorem dX12_done_316 : decode cX12_done 316 = .ok (.lstore_n 3, 1) := by decide +kernel
theorem dX12_done_317 : decode cX12_done 317 = .ok (.iload_n 2, 1) := by decide +kernel
theorem dX12_done_318 : decode cX12_done 318 = .ok (.bipush 6, 2) := by decide +kernel
theorem dX12_done_320 : decode cX12_done 320 = .ok (.if_icmp .ne 83, 3) := by decide +kernel
theorem dX12_done_323 : decode cX12_done 323 = .ok (.iload 5, 2) := by decide +kernel
theorem dX12_done_325 : decode cX12_done 325 = .ok (.bipush 7, 2) := by decide +kernel
theorem dX12_done_327 : decode cX12_done 327 = .ok (.if_icmp .ne 76, 3) := by decide +kernel
theorem dX12_done_330 : decode cX12_done 330 = .ok (.lload_n 3, 1) := by decide +kernel
theorem dX12_done_331 : decode cX12_done 331 = .ok (.ldc2_w 424, 3) := by decide +kernel
theorem dX12_done_334 : decode cX12_done 334 = .ok (.lcmp, 1) := by decide +kernel
theorem dX12_done_335 : decode cX12_done 335 = .ok (.ifCond .ne 68, 3) := by decide +kernel
theorem dX12_done_338 : decode cX12_done 338 = .ok (.aload_n 0, 1) := by decide +kernel
theorem dX12_done_339 : decode cX12_done 339 = .ok (.iconst 3, 1) := by decide +kernel
theorem dX12_done_340 : decode cX12_done 340 = .ok (.aload_n 0, 1) := by decide +kernel
theorem dX12_done_341 : decode cX12_done 341 = .ok (.getfield 107, 3) := by decide +kernel
theorem dX12_done_344 : decode cX12_done 344 = .ok (.iload_n 1, 1) := by decide +kernel
theorem dX12_done_345 : decode cX12_done 345 = .ok (.iaload, 1) := by decide +kernel
theorem dX12_done_346 : decode cX12_done 346 = .ok (.invokevirtual 663, 3) := by decide +kernel
theorem dX12_done_349 : decode cX12_done 349 = .ok (.ireturn, 1) := by decide +kernel
theorem dX12_done_350 : decode cX12_done 350 = .ok (.aload_n 0, 1) := by decide +kernel
theorem dX12_done_351 : decode cX12_done 351 = .ok (.lload_n 3, 1) := by decide +kernel
theorem dX12_done_352 : decode cX12_done 352 = .ok (.iload 5, 2) := by decide +kernel
theorem dX12_done_354 : decode cX12_done 354 = .ok (.bipush 7, 2) := by decide +kernel
theorem dX12_done_356 : decode cX12_done 356 = .ok (.invokevirtual 488, 3) := by decide +kernel
theorem dX12_done_359 : decode cX12_done 359 = .ok (.lstore_n 3, 1) := by decide +kernel
theorem dX12_done_360 : decode cX12_done 360 = .ok (.iload_n 2, 1) := by decide +kernel
theorem dX12_done_361 : decode cX12_done 361 = .ok (.sipush 212, 3) := by decide +kernel
theorem dX12_done_364 : decode cX12_done 364 = .ok (.if_icmp .ne 10, 3) := by decide +kernel
theorem dX12_done_367 : decode cX12_done 367 = .ok (.lload_n 3, 1) := by decide +kernel
theorem dX12_done_368 : decode cX12_done 368 = .ok (.invokestatic 477, 3) := by decide +kernel
theorem dX12_done_371 : decode cX12_done 371 = .ok (.goto 13, 3) := by decide +kernel
theorem dX12_done_374 : decode cX12_done 374 = .ok (.aload_n 0, 1) := by decide +kernel
theorem dX12_done_375 : decode cX12_done 375 = .ok (.lload_n 3, 1) := by decide +kernel
theorem dX12_done_376 : decode cX12_done 376 = .ok (.iload_n 2, 1) := by decide +kernel
theorem dX12_done_377 : decode cX12_done 377 = .ok (.sipush 209, 3) := by decide +kernel
theorem dX12_done_380 : decode cX12_done 380 = .ok (.isub, 1) := by decide +kernel
theorem dX12_done_381 : decode cX12_done 381 = .ok (.invokevirtual 666, 3) := by decide +kernel
theorem dX12_done_384 : decode cX12_done 384 = .ok (.lstore_n 3, 1) := by decide +kernel
theorem dX12_done_385 : decode cX12_done 385 = .ok (.goto 18, 3) := by decide +kernel
theorem dX12_done_388 : decode cX12_done 388 = .ok (.aload_n 0, 1) := by decide +kernel
theorem dX12_done_389 : decode cX12_done 389 = .ok (.lload_n 3, 1) := by decide +kernel
theorem dX12_done_390 : decode cX12_done 390 = .ok (.iload 5, 2) := by decide +kernel
theorem dX12_done_392 : decode cX12_done 392 = .ok (.iconst 3, 1) := by decide +kernel
theorem dX12_done_393 : decode cX12_done 393 = .ok (.ishr, 1) := by decide +kernel
theorem dX12_done_394 : decode cX12_done 394 = .ok (.iload 5, 2) := by decide +kernel
theorem dX12_done_396 : decode cX12_done 396 = .ok (.bipush 7, 2) := by decide +kernel
theorem dX12_done_398 : decode cX12_done 398 = .ok (.iand, 1) := by decide +kernel
theorem dX12_done_399 : decode cX12_done 399 = .ok (.invokevirtual 488, 3) := by decide +kernel
theorem dX12_done_402 : decode cX12_done 402 = .ok (.lstore_n 3, 1) := by decide +kernel
theorem dX12_done_403 : decode cX12_done 403 = .ok (.aload_n 0, 1) := by decide +kernel
theorem dX12_done_404 : decode cX12_done 404 = .ok (.getfield 337, 3) := by decide +kernel
theorem dX12_done_407 : decode cX12_done 407 = .ok (.aload_n 0, 1) := by decide +kernel
theorem dX12_done_408 : decode cX12_done 408 = .ok (.getfield 340, 3) := by decide +kernel
theorem dX12_done_411 : decode cX12_done 411 = .ok (.iconst 1, 1) := by decide +kernel
theorem dX12_done_412 : decode cX12_done 412 = .ok (.isub, 1) := by decide +kernel
theorem dX12_done_413 : decode cX12_done 413 = .ok (.lload_n 3, 1) := by decide +kernel
theorem dX12_done_414 : decode cX12_done 414 = .ok (.lastore, 1) := by decide +kernel
theorem dX12_done_415 : decode cX12_done 415 = .ok (.iconst 1, 1) := by decide +kernel
theorem dX12_done_416 : decode cX12_done 416 = .ok (.ireturn, 1) := by decide +kernel
abbrev R_X12_done : Room := ({ frames := 7, cells := 0, slots := 0, locals := 199 } : Room)
def b_X12_done_218 (n : Nat) (gT : Gs) (v1 : Int32) : Option (Int32 × Gs) :=
  grd (inB v1 8000) (bnd (f_X12_jams gT (4 : Int32) (gIA gT 17 v1.toNatClampNeg)) (fun q_20 => grd (zB q_20.1) (some (q_20.1, q_20.2))))
def b_X12_done_403 (n : Nat) (gT : Gs) (v3 : Int64) : Option (Int32 × Gs) :=
  grd (inB ((gI gT 93) - (1 : Int32)) 400) (some ((1 : Int32), (sLA gT 92 (vp_updL (gLA gT 92) ((gI gT 93) - (1 : Int32)).toNatClampNeg v3))))
def b_X12_done_294 (n : Nat) (gT : Gs) (s0 : Int32) (s1 : Int64) : Option (Int32 × Gs) :=
  bnd (f_X12_narrowed s1 s0) (fun q_26 => b_X12_done_403 n gT q_26)
def b_X12_done_384 (n : Nat) (gT : Gs) (s0 : Int64) : Option (Int32 × Gs) :=
  b_X12_done_403 n gT s0
def f_X12_done (n : Nat) (gT : Gs) (x0 : Int32) : Option (Int32 × Gs) :=
  grd (inB x0 8000) (grd (inB x0 8000) (if (gIA gT 14 x0.toNatClampNeg) = (1 : Int32) then (grd (inB x0 8000) (bnd (f_X12_hold gT (gLA gT 18 x0.toNatClampNeg)) (fun q_4 => some ((1 : Int32), q_4)))) else (if (gIA gT 14 x0.toNatClampNeg) = (2 : Int32) then (bnd (f_X12_hold gT (gL gT 87)) (fun q_6 => some ((1 : Int32), q_6))) else (if (gIA gT 14 x0.toNatClampNeg) = (3 : Int32) then (bnd (f_X12_hold gT (gL gT 91)) (fun q_8 => some ((1 : Int32), q_8))) else (if (gIA gT 14 x0.toNatClampNeg) = (4 : Int32) then (grd (inB (gIA gT 15 x0.toNatClampNeg) 40) (bnd (f_X12_hold gT (gLA gT 80 (gIA gT 15 x0.toNatClampNeg).toNatClampNeg)) (fun q_11 => some ((1 : Int32), q_11)))) else (if (gIA gT 14 x0.toNatClampNeg) = (5 : Int32) then (grd (inB (gIA gT 15 x0.toNatClampNeg) 40) (bnd (f_X12_hold gT (gLA gT 81 (gIA gT 15 x0.toNatClampNeg).toNatClampNeg)) (fun q_14 => some ((1 : Int32), q_14)))) else (if (gIA gT 14 x0.toNatClampNeg) = (6 : Int32) then (grd (inB ((gI gT 93) - (1 : Int32)) 400) (grd (inB x0 8000) (grd (inB x0 8000) (if (gIA gT 14 x0.toNatClampNeg) = (6 : Int32) then (if (gLA gT 92 ((gI gT 93) - (1 : Int32)).toNatClampNeg) < (0 : Int64) then (b_X12_done_218 n gT x0) else (grd (inB (gIA gT 15 x0.toNatClampNeg) 8) (if (gLA gT 92 ((gI gT 93) - (1 : Int32)).toNatClampNeg) < ((gIA gT 78 (gIA gT 15 x0.toNatClampNeg).toNatClampNeg).toInt64) then (grd (inB (((24 : Int32) * (gIA gT 15 x0.toNatClampNeg)) + ((gLA gT 92 ((gI gT 93) - (1 : Int32)).toNatClampNeg).toInt32)) 192) (b_X12_done_403 n gT (gLA gT 79 (((24 : Int32) * (gIA gT 15 x0.toNatClampNeg)) + ((gLA gT 92 ((gI gT 93) - (1 : Int32)).toNatClampNeg).toInt32)).toNatClampNeg))) else (b_X12_done_218 n gT x0)))) else (if (gIA gT 14 x0.toNatClampNeg) = (7 : Int32) then (if (gIA gT 16 x0.toNatClampNeg) = (7 : Int32) then (b_X12_done_403 n gT ((gLA gT 92 ((gI gT 93) - (1 : Int32)).toNatClampNeg) ^^^ (-9223372036854775808 : Int64))) else (if (gIA gT 16 x0.toNatClampNeg) = (6 : Int32) then (b_X12_done_403 n gT ((((gLA gT 92 ((gI gT 93) - (1 : Int32)).toNatClampNeg).toInt32) ^^^ (-2147483648 : Int32)).toInt64)) else (if (4 : Int32) ≤ (gIA gT 16 x0.toNatClampNeg) then (b_X12_done_294 n gT (gIA gT 16 x0.toNatClampNeg) (-(gLA gT 92 ((gI gT 93) - (1 : Int32)).toNatClampNeg))) else (b_X12_done_294 n gT (4 : Int32) (-(gLA gT 92 ((gI gT 93) - (1 : Int32)).toNatClampNeg)))))) else (if (gIA gT 14 x0.toNatClampNeg) = (8 : Int32) then (b_X12_done_403 n gT ((1 : Int64) - (gLA gT 92 ((gI gT 93) - (1 : Int32)).toNatClampNeg))) else (if (gIA gT 14 x0.toNatClampNeg) = (9 : Int32) then (bnd (f_X12_become n gT (gLA gT 92 ((gI gT 93) - (1 : Int32)).toNatClampNeg) (gIA gT 16 x0.toNatClampNeg) (gIA gT 15 x0.toNatClampNeg)) (fun q_28 => if (gIA gT 15 x0.toNatClampNeg) = (6 : Int32) then (if (gIA gT 16 x0.toNatClampNeg) = (7 : Int32) then (if q_28.1 = (9223372036854775807 : Int64) then (grd (inB x0 8000) (bnd (f_X12_jams q_28.2 (3 : Int32) (gIA q_28.2 17 x0.toNatClampNeg)) (fun q_31 => grd (zB q_31.1) (some (q_31.1, q_31.2))))) else (b_X12_done_403 n q_28.2 q_28.1)) else (b_X12_done_403 n q_28.2 q_28.1)) else (b_X12_done_403 n q_28.2 q_28.1))) else (if (gIA gT 14 x0.toNatClampNeg) = (10 : Int32) then (bnd (f_X12_become n gT (gLA gT 92 ((gI gT 93) - (1 : Int32)).toNatClampNeg) (gIA gT 16 x0.toNatClampNeg) (7 : Int32)) (fun q_34 => if (gIA gT 15 x0.toNatClampNeg) = (212 : Int32) then (bnd (f_X12_withoutSign q_34.1) (fun q_38 => b_X12_done_384 n q_34.2 q_38)) else (bnd (f_X12_evened n q_34.2 q_34.1 ((gIA gT 15 x0.toNatClampNeg) - (209 : Int32))) (fun q_36 => b_X12_done_384 n q_36.2 q_36.1)))) else (bnd (f_X12_become n gT (gLA gT 92 ((gI gT 93) - (1 : Int32)).toNatClampNeg) ((gIA gT 16 x0.toNatClampNeg) >>> ((3 : Int32) &&& 31)) ((gIA gT 16 x0.toNatClampNeg) &&& (7 : Int32))) (fun q_40 => b_X12_done_403 n q_40.2 q_40.1)))))))))) else (if (gIA gT 14 x0.toNatClampNeg) = (7 : Int32) then (grd (inB ((gI gT 93) - (1 : Int32)) 400) (grd (inB x0 8000) (grd (inB x0 8000) (if (gIA gT 14 x0.toNatClampNeg) = (6 : Int32) then (if (gLA gT 92 ((gI gT 93) - (1 : Int32)).toNatClampNeg) < (0 : Int64) then (b_X12_done_218 n gT x0) else (grd (inB (gIA gT 15 x0.toNatClampNeg) 8) (if (gLA gT 92 ((gI gT 93) - (1 : Int32)).toNatClampNeg) < ((gIA gT 78 (gIA gT 15 x0.toNatClampNeg).toNatClampNeg).toInt64) then (grd (inB (((24 : Int32) * (gIA gT 15 x0.toNatClampNeg)) + ((gLA gT 92 ((gI gT 93) - (1 : Int32)).toNatClampNeg).toInt32)) 192) (b_X12_done_403 n gT (gLA gT 79 (((24 : Int32) * (gIA gT 15 x0.toNatClampNeg)) + ((gLA gT 92 ((gI gT 93) - (1 : Int32)).toNatClampNeg).toInt32)).toNatClampNeg))) else (b_X12_done_218 n gT x0)))) else (if (gIA gT 14 x0.toNatClampNeg) = (7 : Int32) then (if (gIA gT 16 x0.toNatClampNeg) = (7 : Int32) then (b_X12_done_403 n gT ((gLA gT 92 ((gI gT 93) - (1 : Int32)).toNatClampNeg) ^^^ (-9223372036854775808 : Int64))) else (if (gIA gT 16 x0.toNatClampNeg) = (6 : Int32) then (b_X12_done_403 n gT ((((gLA gT 92 ((gI gT 93) - (1 : Int32)).toNatClampNeg).toInt32) ^^^ (-2147483648 : Int32)).toInt64)) else (if (4 : Int32) ≤ (gIA gT 16 x0.toNatClampNeg) then (b_X12_done_294 n gT (gIA gT 16 x0.toNatClampNeg) (-(gLA gT 92 ((gI gT 93) - (1 : Int32)).toNatClampNeg))) else (b_X12_done_294 n gT (4 : Int32) (-(gLA gT 92 ((gI gT 93) - (1 : Int32)).toNatClampNeg)))))) else (if (gIA gT 14 x0.toNatClampNeg) = (8 : Int32) then (b_X12_done_403 n gT ((1 : Int64) - (gLA gT 92 ((gI gT 93) - (1 : Int32)).toNatClampNeg))) else (if (gIA gT 14 x0.toNatClampNeg) = (9 : Int32) then (bnd (f_X12_become n gT (gLA gT 92 ((gI gT 93) - (1 : Int32)).toNatClampNeg) (gIA gT 16 x0.toNatClampNeg) (gIA gT 15 x0.toNatClampNeg)) (fun q_47 => if (gIA gT 15 x0.toNatClampNeg) = (6 : Int32) then (if (gIA gT 16 x0.toNatClampNeg) = (7 : Int32) then (if q_47.1 = (9223372036854775807 : Int64) then (grd (inB x0 8000) (bnd (f_X12_jams q_47.2 (3 : Int32) (gIA q_47.2 17 x0.toNatClampNeg)) (fun q_50 => grd (zB q_50.1) (some (q_50.1, q_50.2))))) else (b_X12_done_403 n q_47.2 q_47.1)) else (b_X12_done_403 n q_47.2 q_47.1)) else (b_X12_done_403 n q_47.2 q_47.1))) else (if (gIA gT 14 x0.toNatClampNeg) = (10 : Int32) then (bnd (f_X12_become n gT (gLA gT 92 ((gI gT 93) - (1 : Int32)).toNatClampNeg) (gIA gT 16 x0.toNatClampNeg) (7 : Int32)) (fun q_53 => if (gIA gT 15 x0.toNatClampNeg) = (212 : Int32) then (bnd (f_X12_withoutSign q_53.1) (fun q_57 => b_X12_done_384 n q_53.2 q_57)) else (bnd (f_X12_evened n q_53.2 q_53.1 ((gIA gT 15 x0.toNatClampNeg) - (209 : Int32))) (fun q_55 => b_X12_done_384 n q_55.2 q_55.1)))) else (bnd (f_X12_become n gT (gLA gT 92 ((gI gT 93) - (1 : Int32)).toNatClampNeg) ((gIA gT 16 x0.toNatClampNeg) >>> ((3 : Int32) &&& 31)) ((gIA gT 16 x0.toNatClampNeg) &&& (7 : Int32))) (fun q_59 => b_X12_done_403 n q_59.2 q_59.1)))))))))) else (if (gIA gT 14 x0.toNatClampNeg) = (8 : Int32) then (grd (inB ((gI gT 93) - (1 : Int32)) 400) (grd (inB x0 8000) (grd (inB x0 8000) (if (gIA gT 14 x0.toNatClampNeg) = (6 : Int32) then (if (gLA gT 92 ((gI gT 93) - (1 : Int32)).toNatClampNeg) < (0 : Int64) then (b_X12_done_218 n gT x0) else (grd (inB (gIA gT 15 x0.toNatClampNeg) 8) (if (gLA gT 92 ((gI gT 93) - (1 : Int32)).toNatClampNeg) < ((gIA gT 78 (gIA gT 15 x0.toNatClampNeg).toNatClampNeg).toInt64) then (grd (inB (((24 : Int32) * (gIA gT 15 x0.toNatClampNeg)) + ((gLA gT 92 ((gI gT 93) - (1 : Int32)).toNatClampNeg).toInt32)) 192) (b_X12_done_403 n gT (gLA gT 79 (((24 : Int32) * (gIA gT 15 x0.toNatClampNeg)) + ((gLA gT 92 ((gI gT 93) - (1 : Int32)).toNatClampNeg).toInt32)).toNatClampNeg))) else (b_X12_done_218 n gT x0)))) else (if (gIA gT 14 x0.toNatClampNeg) = (7 : Int32) then (if (gIA gT 16 x0.toNatClampNeg) = (7 : Int32) then (b_X12_done_403 n gT ((gLA gT 92 ((gI gT 93) - (1 : Int32)).toNatClampNeg) ^^^ (-9223372036854775808 : Int64))) else (if (gIA gT 16 x0.toNatClampNeg) = (6 : Int32) then (b_X12_done_403 n gT ((((gLA gT 92 ((gI gT 93) - (1 : Int32)).toNatClampNeg).toInt32) ^^^ (-2147483648 : Int32)).toInt64)) else (if (4 : Int32) ≤ (gIA gT 16 x0.toNatClampNeg) then (b_X12_done_294 n gT (gIA gT 16 x0.toNatClampNeg) (-(gLA gT 92 ((gI gT 93) - (1 : Int32)).toNatClampNeg))) else (b_X12_done_294 n gT (4 : Int32) (-(gLA gT 92 ((gI gT 93) - (1 : Int32)).toNatClampNeg)))))) else (if (gIA gT 14 x0.toNatClampNeg) = (8 : Int32) then (b_X12_done_403 n gT ((1 : Int64) - (gLA gT 92 ((gI gT 93) - (1 : Int32)).toNatClampNeg))) else (if (gIA gT 14 x0.toNatClampNeg) = (9 : Int32) then (bnd (f_X12_become n gT (gLA gT 92 ((gI gT 93) - (1 : Int32)).toNatClampNeg) (gIA gT 16 x0.toNatClampNeg) (gIA gT 15 x0.toNatClampNeg)) (fun q_66 => if (gIA gT 15 x0.toNatClampNeg) = (6 : Int32) then (if (gIA gT 16 x0.toNatClampNeg) = (7 : Int32) then (if q_66.1 = (9223372036854775807 : Int64) then (grd (inB x0 8000) (bnd (f_X12_jams q_66.2 (3 : Int32) (gIA q_66.2 17 x0.toNatClampNeg)) (fun q_69 => grd (zB q_69.1) (some (q_69.1, q_69.2))))) else (b_X12_done_403 n q_66.2 q_66.1)) else (b_X12_done_403 n q_66.2 q_66.1)) else (b_X12_done_403 n q_66.2 q_66.1))) else (if (gIA gT 14 x0.toNatClampNeg) = (10 : Int32) then (bnd (f_X12_become n gT (gLA gT 92 ((gI gT 93) - (1 : Int32)).toNatClampNeg) (gIA gT 16 x0.toNatClampNeg) (7 : Int32)) (fun q_72 => if (gIA gT 15 x0.toNatClampNeg) = (212 : Int32) then (bnd (f_X12_withoutSign q_72.1) (fun q_76 => b_X12_done_384 n q_72.2 q_76)) else (bnd (f_X12_evened n q_72.2 q_72.1 ((gIA gT 15 x0.toNatClampNeg) - (209 : Int32))) (fun q_74 => b_X12_done_384 n q_74.2 q_74.1)))) else (bnd (f_X12_become n gT (gLA gT 92 ((gI gT 93) - (1 : Int32)).toNatClampNeg) ((gIA gT 16 x0.toNatClampNeg) >>> ((3 : Int32) &&& 31)) ((gIA gT 16 x0.toNatClampNeg) &&& (7 : Int32))) (fun q_78 => b_X12_done_403 n q_78.2 q_78.1)))))))))) else (if (gIA gT 14 x0.toNatClampNeg) = (9 : Int32) then (grd (inB ((gI gT 93) - (1 : Int32)) 400) (grd (inB x0 8000) (grd (inB x0 8000) (if (gIA gT 14 x0.toNatClampNeg) = (6 : Int32) then (if (gLA gT 92 ((gI gT 93) - (1 : Int32)).toNatClampNeg) < (0 : Int64) then (b_X12_done_218 n gT x0) else (grd (inB (gIA gT 15 x0.toNatClampNeg) 8) (if (gLA gT 92 ((gI gT 93) - (1 : Int32)).toNatClampNeg) < ((gIA gT 78 (gIA gT 15 x0.toNatClampNeg).toNatClampNeg).toInt64) then (grd (inB (((24 : Int32) * (gIA gT 15 x0.toNatClampNeg)) + ((gLA gT 92 ((gI gT 93) - (1 : Int32)).toNatClampNeg).toInt32)) 192) (b_X12_done_403 n gT (gLA gT 79 (((24 : Int32) * (gIA gT 15 x0.toNatClampNeg)) + ((gLA gT 92 ((gI gT 93) - (1 : Int32)).toNatClampNeg).toInt32)).toNatClampNeg))) else (b_X12_done_218 n gT x0)))) else (if (gIA gT 14 x0.toNatClampNeg) = (7 : Int32) then (if (gIA gT 16 x0.toNatClampNeg) = (7 : Int32) then (b_X12_done_403 n gT ((gLA gT 92 ((gI gT 93) - (1 : Int32)).toNatClampNeg) ^^^ (-9223372036854775808 : Int64))) else (if (gIA gT 16 x0.toNatClampNeg) = (6 : Int32) then (b_X12_done_403 n gT ((((gLA gT 92 ((gI gT 93) - (1 : Int32)).toNatClampNeg).toInt32) ^^^ (-2147483648 : Int32)).toInt64)) else (if (4 : Int32) ≤ (gIA gT 16 x0.toNatClampNeg) then (b_X12_done_294 n gT (gIA gT 16 x0.toNatClampNeg) (-(gLA gT 92 ((gI gT 93) - (1 : Int32)).toNatClampNeg))) else (b_X12_done_294 n gT (4 : Int32) (-(gLA gT 92 ((gI gT 93) - (1 : Int32)).toNatClampNeg)))))) else (if (gIA gT 14 x0.toNatClampNeg) = (8 : Int32) then (b_X12_done_403 n gT ((1 : Int64) - (gLA gT 92 ((gI gT 93) - (1 : Int32)).toNatClampNeg))) else (if (gIA gT 14 x0.toNatClampNeg) = (9 : Int32) then (bnd (f_X12_become n gT (gLA gT 92 ((gI gT 93) - (1 : Int32)).toNatClampNeg) (gIA gT 16 x0.toNatClampNeg) (gIA gT 15 x0.toNatClampNeg)) (fun q_85 => if (gIA gT 15 x0.toNatClampNeg) = (6 : Int32) then (if (gIA gT 16 x0.toNatClampNeg) = (7 : Int32) then (if q_85.1 = (9223372036854775807 : Int64) then (grd (inB x0 8000) (bnd (f_X12_jams q_85.2 (3 : Int32) (gIA q_85.2 17 x0.toNatClampNeg)) (fun q_88 => grd (zB q_88.1) (some (q_88.1, q_88.2))))) else (b_X12_done_403 n q_85.2 q_85.1)) else (b_X12_done_403 n q_85.2 q_85.1)) else (b_X12_done_403 n q_85.2 q_85.1))) else (if (gIA gT 14 x0.toNatClampNeg) = (10 : Int32) then (bnd (f_X12_become n gT (gLA gT 92 ((gI gT 93) - (1 : Int32)).toNatClampNeg) (gIA gT 16 x0.toNatClampNeg) (7 : Int32)) (fun q_91 => if (gIA gT 15 x0.toNatClampNeg) = (212 : Int32) then (bnd (f_X12_withoutSign q_91.1) (fun q_95 => b_X12_done_384 n q_91.2 q_95)) else (bnd (f_X12_evened n q_91.2 q_91.1 ((gIA gT 15 x0.toNatClampNeg) - (209 : Int32))) (fun q_93 => b_X12_done_384 n q_93.2 q_93.1)))) else (bnd (f_X12_become n gT (gLA gT 92 ((gI gT 93) - (1 : Int32)).toNatClampNeg) ((gIA gT 16 x0.toNatClampNeg) >>> ((3 : Int32) &&& 31)) ((gIA gT 16 x0.toNatClampNeg) &&& (7 : Int32))) (fun q_97 => b_X12_done_403 n q_97.2 q_97.1)))))))))) else (if (gIA gT 14 x0.toNatClampNeg) = (10 : Int32) then (grd (inB ((gI gT 93) - (1 : Int32)) 400) (grd (inB x0 8000) (grd (inB x0 8000) (if (gIA gT 14 x0.toNatClampNeg) = (6 : Int32) then (if (gLA gT 92 ((gI gT 93) - (1 : Int32)).toNatClampNeg) < (0 : Int64) then (b_X12_done_218 n gT x0) else (grd (inB (gIA gT 15 x0.toNatClampNeg) 8) (if (gLA gT 92 ((gI gT 93) - (1 : Int32)).toNatClampNeg) < ((gIA gT 78 (gIA gT 15 x0.toNatClampNeg).toNatClampNeg).toInt64) then (grd (inB (((24 : Int32) * (gIA gT 15 x0.toNatClampNeg)) + ((gLA gT 92 ((gI gT 93) - (1 : Int32)).toNatClampNeg).toInt32)) 192) (b_X12_done_403 n gT (gLA gT 79 (((24 : Int32) * (gIA gT 15 x0.toNatClampNeg)) + ((gLA gT 92 ((gI gT 93) - (1 : Int32)).toNatClampNeg).toInt32)).toNatClampNeg))) else (b_X12_done_218 n gT x0)))) else (if (gIA gT 14 x0.toNatClampNeg) = (7 : Int32) then (if (gIA gT 16 x0.toNatClampNeg) = (7 : Int32) then (b_X12_done_403 n gT ((gLA gT 92 ((gI gT 93) - (1 : Int32)).toNatClampNeg) ^^^ (-9223372036854775808 : Int64))) else (if (gIA gT 16 x0.toNatClampNeg) = (6 : Int32) then (b_X12_done_403 n gT ((((gLA gT 92 ((gI gT 93) - (1 : Int32)).toNatClampNeg).toInt32) ^^^ (-2147483648 : Int32)).toInt64)) else (if (4 : Int32) ≤ (gIA gT 16 x0.toNatClampNeg) then (b_X12_done_294 n gT (gIA gT 16 x0.toNatClampNeg) (-(gLA gT 92 ((gI gT 93) - (1 : Int32)).toNatClampNeg))) else (b_X12_done_294 n gT (4 : Int32) (-(gLA gT 92 ((gI gT 93) - (1 : Int32)).toNatClampNeg)))))) else (if (gIA gT 14 x0.toNatClampNeg) = (8 : Int32) then (b_X12_done_403 n gT ((1 : Int64) - (gLA gT 92 ((gI gT 93) - (1 : Int32)).toNatClampNeg))) else (if (gIA gT 14 x0.toNatClampNeg) = (9 : Int32) then (bnd (f_X12_become n gT (gLA gT 92 ((gI gT 93) - (1 : Int32)).toNatClampNeg) (gIA gT 16 x0.toNatClampNeg) (gIA gT 15 x0.toNatClampNeg)) (fun q_104 => if (gIA gT 15 x0.toNatClampNeg) = (6 : Int32) then (if (gIA gT 16 x0.toNatClampNeg) = (7 : Int32) then (if q_104.1 = (9223372036854775807 : Int64) then (grd (inB x0 8000) (bnd (f_X12_jams q_104.2 (3 : Int32) (gIA q_104.2 17 x0.toNatClampNeg)) (fun q_107 => grd (zB q_107.1) (some (q_107.1, q_107.2))))) else (b_X12_done_403 n q_104.2 q_104.1)) else (b_X12_done_403 n q_104.2 q_104.1)) else (b_X12_done_403 n q_104.2 q_104.1))) else (if (gIA gT 14 x0.toNatClampNeg) = (10 : Int32) then (bnd (f_X12_become n gT (gLA gT 92 ((gI gT 93) - (1 : Int32)).toNatClampNeg) (gIA gT 16 x0.toNatClampNeg) (7 : Int32)) (fun q_110 => if (gIA gT 15 x0.toNatClampNeg) = (212 : Int32) then (bnd (f_X12_withoutSign q_110.1) (fun q_114 => b_X12_done_384 n q_110.2 q_114)) else (bnd (f_X12_evened n q_110.2 q_110.1 ((gIA gT 15 x0.toNatClampNeg) - (209 : Int32))) (fun q_112 => b_X12_done_384 n q_112.2 q_112.1)))) else (bnd (f_X12_become n gT (gLA gT 92 ((gI gT 93) - (1 : Int32)).toNatClampNeg) ((gIA gT 16 x0.toNatClampNeg) >>> ((3 : Int32) &&& 31)) ((gIA gT 16 x0.toNatClampNeg) &&& (7 : Int32))) (fun q_116 => b_X12_done_403 n q_116.2 q_116.1)))))))))) else (if (gIA gT 14 x0.toNatClampNeg) = (11 : Int32) then (bnd (f_X12_joins n gT x0) (fun q_118 => grd (zB q_118.1) (some (q_118.1, q_118.2)))) else (if (gIA gT 14 x0.toNatClampNeg) = (12 : Int32) then (bnd (f_X12_joins n gT x0) (fun q_121 => grd (zB q_121.1) (some (q_121.1, q_121.2)))) else (grd (inB ((gI gT 93) - (1 : Int32)) 400) (grd (inB x0 8000) (grd (inB x0 8000) (if (gIA gT 14 x0.toNatClampNeg) = (6 : Int32) then (if (gLA gT 92 ((gI gT 93) - (1 : Int32)).toNatClampNeg) < (0 : Int64) then (b_X12_done_218 n gT x0) else (grd (inB (gIA gT 15 x0.toNatClampNeg) 8) (if (gLA gT 92 ((gI gT 93) - (1 : Int32)).toNatClampNeg) < ((gIA gT 78 (gIA gT 15 x0.toNatClampNeg).toNatClampNeg).toInt64) then (grd (inB (((24 : Int32) * (gIA gT 15 x0.toNatClampNeg)) + ((gLA gT 92 ((gI gT 93) - (1 : Int32)).toNatClampNeg).toInt32)) 192) (b_X12_done_403 n gT (gLA gT 79 (((24 : Int32) * (gIA gT 15 x0.toNatClampNeg)) + ((gLA gT 92 ((gI gT 93) - (1 : Int32)).toNatClampNeg).toInt32)).toNatClampNeg))) else (b_X12_done_218 n gT x0)))) else (if (gIA gT 14 x0.toNatClampNeg) = (7 : Int32) then (if (gIA gT 16 x0.toNatClampNeg) = (7 : Int32) then (b_X12_done_403 n gT ((gLA gT 92 ((gI gT 93) - (1 : Int32)).toNatClampNeg) ^^^ (-9223372036854775808 : Int64))) else (if (gIA gT 16 x0.toNatClampNeg) = (6 : Int32) then (b_X12_done_403 n gT ((((gLA gT 92 ((gI gT 93) - (1 : Int32)).toNatClampNeg).toInt32) ^^^ (-2147483648 : Int32)).toInt64)) else (if (4 : Int32) ≤ (gIA gT 16 x0.toNatClampNeg) then (b_X12_done_294 n gT (gIA gT 16 x0.toNatClampNeg) (-(gLA gT 92 ((gI gT 93) - (1 : Int32)).toNatClampNeg))) else (b_X12_done_294 n gT (4 : Int32) (-(gLA gT 92 ((gI gT 93) - (1 : Int32)).toNatClampNeg)))))) else (if (gIA gT 14 x0.toNatClampNeg) = (8 : Int32) then (b_X12_done_403 n gT ((1 : Int64) - (gLA gT 92 ((gI gT 93) - (1 : Int32)).toNatClampNeg))) else (if (gIA gT 14 x0.toNatClampNeg) = (9 : Int32) then (bnd (f_X12_become n gT (gLA gT 92 ((gI gT 93) - (1 : Int32)).toNatClampNeg) (gIA gT 16 x0.toNatClampNeg) (gIA gT 15 x0.toNatClampNeg)) (fun q_129 => if (gIA gT 15 x0.toNatClampNeg) = (6 : Int32) then (if (gIA gT 16 x0.toNatClampNeg) = (7 : Int32) then (if q_129.1 = (9223372036854775807 : Int64) then (grd (inB x0 8000) (bnd (f_X12_jams q_129.2 (3 : Int32) (gIA q_129.2 17 x0.toNatClampNeg)) (fun q_132 => grd (zB q_132.1) (some (q_132.1, q_132.2))))) else (b_X12_done_403 n q_129.2 q_129.1)) else (b_X12_done_403 n q_129.2 q_129.1)) else (b_X12_done_403 n q_129.2 q_129.1))) else (if (gIA gT 14 x0.toNatClampNeg) = (10 : Int32) then (bnd (f_X12_become n gT (gLA gT 92 ((gI gT 93) - (1 : Int32)).toNatClampNeg) (gIA gT 16 x0.toNatClampNeg) (7 : Int32)) (fun q_135 => if (gIA gT 15 x0.toNatClampNeg) = (212 : Int32) then (bnd (f_X12_withoutSign q_135.1) (fun q_139 => b_X12_done_384 n q_135.2 q_139)) else (bnd (f_X12_evened n q_135.2 q_135.1 ((gIA gT 15 x0.toNatClampNeg) - (209 : Int32))) (fun q_137 => b_X12_done_384 n q_137.2 q_137.1)))) else (bnd (f_X12_become n gT (gLA gT 92 ((gI gT 93) - (1 : Int32)).toNatClampNeg) ((gIA gT 16 x0.toNatClampNeg) >>> ((3 : Int32) &&& 31)) ((gIA gT 16 x0.toNatClampNeg) &&& (7 : Int32))) (fun q_141 => b_X12_done_403 n q_141.2 q_141.1)))))))))))))))))))))))
def S_X12_done_218 (l : Launch) (D : Dx) (hT : Nat) (aT : Nat → Nat) (yT : Nat → ClassId) (fn : Gs → Int32 → Option (Int32 × Gs)) : Prop :=
  ∀ {p : Program} {e : Env} {s : State} {m : MethodId} {args : Array Value} {below : List Frame} {meth : Method} {c : Code} {H : Heap} {locs : List Loc} {A : Nat → Prop} {ls : Array Slot} {gT : Gs} {v1 : Int32} {q : Int32 × Gs}, Cx p s m args meth c cX12_done (some .boolean) 6 RX12 lw_all → Hx D (tX12 yT) A s H locs (wX12 hT aT yT gT) → lv_has ls 6 [(0, .ref hT), (1, .int v1)] → fn gT v1 = some q → W p l e R_X12_done s m args below meth c H locs 0 0 (MQ below (QI D A (wX12 hT aT yT q.2) q.1) args s 0 0 A) (F0 m 218 ls [])
def S_X12_done_403 (l : Launch) (D : Dx) (hT : Nat) (aT : Nat → Nat) (yT : Nat → ClassId) (fn : Gs → Int64 → Option (Int32 × Gs)) : Prop :=
  ∀ {p : Program} {e : Env} {s : State} {m : MethodId} {args : Array Value} {below : List Frame} {meth : Method} {c : Code} {H : Heap} {locs : List Loc} {A : Nat → Prop} {ls : Array Slot} {gT : Gs} {v3 : Int64} {q : Int32 × Gs}, Cx p s m args meth c cX12_done (some .boolean) 6 RX12 lw_all → Hx D (tX12 yT) A s H locs (wX12 hT aT yT gT) → lv_has ls 6 [(0, .ref hT), (3, .long v3)] → fn gT v3 = some q → W p l e R_X12_done s m args below meth c H locs 0 0 (MQ below (QI D A (wX12 hT aT yT q.2) q.1) args s 0 0 A) (F0 m 403 ls [])
def S_X12_done_294 (l : Launch) (D : Dx) (hT : Nat) (aT : Nat → Nat) (yT : Nat → ClassId) (fn : Gs → Int32 → Int64 → Option (Int32 × Gs)) : Prop :=
  ∀ {p : Program} {e : Env} {s : State} {m : MethodId} {args : Array Value} {below : List Frame} {meth : Method} {c : Code} {H : Heap} {locs : List Loc} {A : Nat → Prop} {ls : Array Slot} {gT : Gs} {s0 : Int32} {s1 : Int64} {q : Int32 × Gs}, Cx p s m args meth c cX12_done (some .boolean) 6 RX12 lw_all → Hx D (tX12 yT) A s H locs (wX12 hT aT yT gT) → lv_has ls 6 [(0, .ref hT)] → fn gT s0 s1 = some q → W p l e R_X12_done s m args below meth c H locs 0 0 (MQ below (QI D A (wX12 hT aT yT q.2) q.1) args s 0 0 A) (F0 m 294 ls [.int s0, .long s1])
def S_X12_done_384 (l : Launch) (D : Dx) (hT : Nat) (aT : Nat → Nat) (yT : Nat → ClassId) (fn : Gs → Int64 → Option (Int32 × Gs)) : Prop :=
  ∀ {p : Program} {e : Env} {s : State} {m : MethodId} {args : Array Value} {below : List Frame} {meth : Method} {c : Code} {H : Heap} {locs : List Loc} {A : Nat → Prop} {ls : Array Slot} {gT : Gs} {s0 : Int64} {q : Int32 × Gs}, Cx p s m args meth c cX12_done (some .boolean) 6 RX12 lw_all → Hx D (tX12 yT) A s H locs (wX12 hT aT yT gT) → lv_has ls 6 [(0, .ref hT)] → fn gT s0 = some q → W p l e R_X12_done s m args below meth c H locs 0 0 (MQ below (QI D A (wX12 hT aT yT q.2) q.1) args s 0 0 A) (F0 m 384 ls [.long s0])
set_option maxHeartbeats 4000000 in
set_option maxRecDepth 100000 in
theorem k_X12_done_218 (l : Launch) (D : Dx) (hT : Nat) (aT : Nat → Nat) (yT : Nat → ClassId) (n : Nat) : S_X12_done_218 l D hT aT yT (b_X12_done_218 n) := by
  intro p e s m args below meth c H locs A ls gT v1 q C X hl hF
  obtain ⟨hx, hb, hr, hml, hown, hts, hlk⟩ := id C
  unfold b_X12_done_218 at hF
  refine lv_aload_n hx hb dX12_done_218 rfl (lv_at hl 0 rfl) ?_
  refine lv_iconst (v := (4 : Int32)) hx hb dX12_done_219 (by decide) ?_
  refine lv_aload_n hx hb dX12_done_220 rfl (lv_at hl 0 rfl) ?_
  refine va_get (D := D.1) (ci := 12) (v := .ref (aT 17)) (C := RX12) (T := TX12) (N := 114) hx hb hts wi_X12 hown X.1 X.2.1 0 rfl rfl 17 (by decide) (hts _ q6_211) (fun _ h9 => h9) (fl_get (by decide)) dX12_done_221 ?_
  refine lv_iload_n hx hb dX12_done_224 rfl (lv_at hl 1 rfl) ?_
  obtain ⟨h_19, hF⟩ := grd_some hF
  refine va_iald (D := D.1) (f := gIA gT 17) hx hb X.1 X.2.1 12 11 rfl rfl (inB_ok h_19) dX12_done_225 ?_
  obtain ⟨q_20, hc_21, hF⟩ := bnd_some hF
  refine cV_i (As := [.int (4 : Int32), .int (gIA gT 17 v1.toNatClampNeg)]) (rest := []) C X (c_X12_jams l D hT aT yT gT (4 : Int32) (gIA gT 17 v1.toNatClampNeg) q_20 hc_21 _) (cwV 2 hts (good_V q9_110 q9_112 q0_117 q1_9 q9_113) rfl rfl rfl (by decide +kernel) ⟨Nat.le_of_ble_eq_true rfl, Nat.le_of_ble_eq_true rfl⟩) (va_recv X.1 X.2.1 (ci := 12) (q0 := 0) rfl rfl) X.1 X.2.1 X.2.2.1 (free_all X) hl.1 rfl rfl (Nat.le_of_ble_eq_true rfl) dX12_done_226 ⟨Nat.le_of_ble_eq_true rfl, Nat.le_of_ble_eq_true rfl⟩ (fun t H1 locs1 ht hB hk hS => ?_)
  have X : Hx D (tX12 yT) A s H1 locs1 (wX12 hT aT yT q_20.2) := Hx_after_all X ht hB hS
  clear hk hS ht hB
  generalize H1 = H at X ⊢
  generalize locs1 = locs at X ⊢
  obtain ⟨h_22, hF⟩ := grd_some hF
  have hq := Option.some.inj hF
  subst hq
  exact rt_z (v := q_20.1) C X (zB_n h_22) dX12_done_229
set_option maxHeartbeats 4000000 in
set_option maxRecDepth 100000 in
theorem k_X12_done_403 (l : Launch) (D : Dx) (hT : Nat) (aT : Nat → Nat) (yT : Nat → ClassId) (n : Nat) : S_X12_done_403 l D hT aT yT (b_X12_done_403 n) := by
  intro p e s m args below meth c H locs A ls gT v3 q C X hl hF
  obtain ⟨hx, hb, hr, hml, hown, hts, hlk⟩ := id C
  unfold b_X12_done_403 at hF
  refine lv_aload_n hx hb dX12_done_403 rfl (lv_at hl 0 rfl) ?_
  refine va_get (D := D.1) (ci := 12) (v := .ref (aT 92)) (C := RX12) (T := TX12) (N := 114) hx hb hts wi_X12 hown X.1 X.2.1 0 rfl rfl 92 (by decide) (hts _ q7_46) (fun _ h9 => h9) (fl_get (by decide)) dX12_done_404 ?_
  refine lv_aload_n hx hb dX12_done_407 rfl (lv_at hl 0 rfl) ?_
  refine va_get (D := D.1) (ci := 12) (v := .int (gI gT 93)) (C := RX12) (T := TX12) (N := 114) hx hb hts wi_X12 hown X.1 X.2.1 0 rfl rfl 93 (by decide) (hts _ q7_47) (fun _ h9 => h9) (fl_get (by decide)) dX12_done_408 ?_
  refine lv_iconst (v := (1 : Int32)) hx hb dX12_done_411 (by decide) ?_
  refine lv_isub hx hb dX12_done_412 ?_
  refine lv_lload_n hx hb dX12_done_413 rfl (lv_at hl 1 rfl) ?_
  obtain ⟨h_25, hF⟩ := grd_some hF
  refine va_last (D := D.1) (f := gLA gT 92) hx hb X.1 X.2.1 X.2.2.1 X.2.2.2.1 63 62 rfl rfl (inB_ok h_25) dX12_done_414 (fun H locs hP hD hS => ?_)
  have X : Hx D (tX12 yT) A s H locs (wX12 hT aT yT (sLA gT 92 (vp_updL (gLA gT 92) ((gI gT 93) - (1 : Int32)).toNatClampNeg v3))) := Hx_set X (wG_sLA (i := 62) (k := 92) ndX12 rfl rfl) hP hD hS
  refine lv_iconst (v := (1 : Int32)) hx hb dX12_done_415 (by decide) ?_
  have hq := Option.some.inj hF
  subst hq
  exact rt_z (v := (1 : Int32)) C X (by decide) dX12_done_416
set_option maxHeartbeats 4000000 in
set_option maxRecDepth 100000 in
theorem k_X12_done_294 (l : Launch) (D : Dx) (hT : Nat) (aT : Nat → Nat) (yT : Nat → ClassId) (n : Nat) : S_X12_done_294 l D hT aT yT (b_X12_done_294 n) := by
  intro p e s m args below meth c H locs A ls gT s0 s1 q C X hl hF
  obtain ⟨hx, hb, hr, hml, hown, hts, hlk⟩ := id C
  unfold b_X12_done_294 at hF
  obtain ⟨q_26, hc_27, hF⟩ := bnd_some hF
  refine cS_l (As := [.long s1, .int s0]) (rest := []) C X (c_X12_narrowed l D  s1 s0 q_26 hc_27 _) (va_cwS 2 hts (good_S q8_143 q8_144 q1_9 q8_145) rfl rfl rfl (by decide +kernel) ⟨Nat.le_of_ble_eq_true rfl, Nat.le_of_ble_eq_true rfl⟩) (eK X) eP (eD (A := A)) (eF X) hl.1 rfl rfl (Nat.le_of_ble_eq_true rfl) dX12_done_294 ⟨Nat.le_of_ble_eq_true rfl, Nat.le_of_ble_eq_true rfl⟩ (fun t H1 locs1 ht hB hk hS => ?_)
  have X := Hx_after_none X hk hS
  clear hk hS ht hB
  generalize H1 = H at X ⊢
  generalize locs1 = locs at X ⊢
  refine lv_lstore_n (lv' := [(3, .long q_26), (0, .ref hT)]) hx hb dX12_done_297 rfl hl (by decide) rfl (fun ls hl => ?_)
  refine lv_goto (tgt := 403) hx hb dX12_done_298 (by decide) ?_
  exact (k_X12_done_403 l D hT aT yT n) C X (lv_sub hl [1, 0] rfl) hF
set_option maxHeartbeats 4000000 in
set_option maxRecDepth 100000 in
theorem k_X12_done_384 (l : Launch) (D : Dx) (hT : Nat) (aT : Nat → Nat) (yT : Nat → ClassId) (n : Nat) : S_X12_done_384 l D hT aT yT (b_X12_done_384 n) := by
  intro p e s m args below meth c H locs A ls gT s0 q C X hl hF
  obtain ⟨hx, hb, hr, hml, hown, hts, hlk⟩ := id C
  unfold b_X12_done_384 at hF
  refine lv_lstore_n (lv' := [(3, .long s0), (0, .ref hT)]) hx hb dX12_done_384 rfl hl (by decide) rfl (fun ls hl => ?_)
  refine lv_goto (tgt := 403) hx hb dX12_done_385 (by decide) ?_
  exact (k_X12_done_403 l D hT aT yT n) C X (lv_sub hl [1, 0] rfl) hF
set_option maxHeartbeats 4000000 in
set_option maxRecDepth 100000 in
theorem c_X12_done (l : Launch) (D : Dx) (hT : Nat) (aT : Nat → Nat) (yT : Nat → ClassId) (n : Nat) (gT : Gs) (x0 : Int32) (q : Int32 × Gs) (hF : f_X12_done n gT x0 = some q) (sz : Nat) : Met l yX12_done (ws_ yX12_done cX12_done 6 (some .boolean)) R_X12_done (PC D (tX12 yT) [.ref hT, .int x0] (wX12 hT aT yT gT) sz) (QI D (va_A (wX12 hT aT yT gT) sz) (wX12 hT aT yT q.2) q.1) 0 0 (va_A (wX12 hT aT yT gT) sz) := by
  refine Met.ofW (cc := cX12_done) (maxL := 6) (ret := (some .boolean)) (by decide) rfl ?_
  intro p e s m args below meth c s₁ B hml hv
  obtain ⟨rfl, hsz, hP, hK, hD, hN⟩ := hv
  subst hsz
  have C : Cx p s m _ meth c cX12_done (some .boolean) 6 RX12 lw_all := Cx_of B hml
  have X := Hx_start hP hK hD hN
  obtain ⟨hx, hb, hr, -, hown, hts, hlk⟩ := id C
  generalize va_A (wX12 hT aT yT gT) s.heap.size = A at X ⊢
  have hl := lv_entry ([.ref hT, .int x0]) (n := 6) (Nat.le_of_ble_eq_true rfl)
  rw [lg_entry_eq]
  generalize (lg_sl ([.ref hT, .int x0]) ++ List.replicate (6 - (lg_sl ([.ref hT, .int x0])).length) Slot.unset).toArray = ls at hl ⊢
  have hl : lv_has ls 6 [(0, .ref hT), (1, .int x0)] := hl
  unfold f_X12_done at hF
  refine lv_aload_n hx hb dX12_done_0 rfl (lv_at hl 0 rfl) ?_
  refine va_get (D := D.1) (ci := 12) (v := .ref (aT 15)) (C := RX12) (T := TX12) (N := 114) hx hb hts wi_X12 hown X.1 X.2.1 0 rfl rfl 15 (by decide) (hts _ q6_209) (fun _ h9 => h9) (fl_get (by decide)) dX12_done_1 ?_
  refine lv_iload_n hx hb dX12_done_4 rfl (lv_at hl 1 rfl) ?_
  obtain ⟨h_1, hF⟩ := grd_some hF
  refine va_iald (D := D.1) (f := gIA gT 15) hx hb X.1 X.2.1 10 9 rfl rfl (inB_ok h_1) dX12_done_5 ?_
  refine lv_istore_n (lv' := [(2, .int (gIA gT 15 x0.toNatClampNeg)), (0, .ref hT), (1, .int x0)]) hx hb dX12_done_6 rfl hl (by decide) rfl (fun ls hl => ?_)
  refine lv_aload_n hx hb dX12_done_7 rfl (lv_at hl 1 rfl) ?_
  refine va_get (D := D.1) (ci := 12) (v := .ref (aT 14)) (C := RX12) (T := TX12) (N := 114) hx hb hts wi_X12 hown X.1 X.2.1 0 rfl rfl 14 (by decide) (hts _ q6_208) (fun _ h9 => h9) (fl_get (by decide)) dX12_done_8 ?_
  refine lv_iload_n hx hb dX12_done_11 rfl (lv_at hl 2 rfl) ?_
  obtain ⟨h_2, hF⟩ := grd_some hF
  refine va_iald (D := D.1) (f := gIA gT 14) hx hb X.1 X.2.1 9 8 rfl rfl (inB_ok h_2) dX12_done_12 ?_
  by_cases c1 : (gIA gT 14 x0.toNatClampNeg) = (1 : Int32)
  · replace hF := iT c1 hF
    refine lv_tableIn (tgt := 76) (off := 63) hx hb dX12_done_13 (by rw [c1]; decide) (by rw [c1]; decide) (by rw [c1]; rfl) (by decide) ?_
    refine lv_aload_n hx hb dX12_done_76 rfl (lv_at hl 1 rfl) ?_
    refine lv_aload_n hx hb dX12_done_77 rfl (lv_at hl 1 rfl) ?_
    refine va_get (D := D.1) (ci := 12) (v := .ref (aT 18)) (C := RX12) (T := TX12) (N := 114) hx hb hts wi_X12 hown X.1 X.2.1 0 rfl rfl 18 (by decide) (hts _ q6_212) (fun _ h9 => h9) (fl_get (by decide)) dX12_done_78 ?_
    refine lv_iload_n hx hb dX12_done_81 rfl (lv_at hl 2 rfl) ?_
    obtain ⟨h_3, hF⟩ := grd_some hF
    refine va_lald (D := D.1) (f := gLA gT 18) hx hb X.1 X.2.1 13 12 rfl rfl (inB_ok h_3) dX12_done_82 ?_
    obtain ⟨q_4, hc_5, hF⟩ := bnd_some hF
    refine cV_v (As := [.long (gLA gT 18 x0.toNatClampNeg)]) (rest := []) C X (c_X12_hold l D hT aT yT gT (gLA gT 18 x0.toNatClampNeg) q_4 hc_5 _) (cwV 1 hts (good_V q9_77 q9_79 q0_111 q1_9 q9_80) rfl rfl rfl (by decide +kernel) ⟨Nat.le_of_ble_eq_true rfl, Nat.le_of_ble_eq_true rfl⟩) (va_recv X.1 X.2.1 (ci := 12) (q0 := 0) rfl rfl) X.1 X.2.1 X.2.2.1 (free_all X) hl.1 rfl rfl (Nat.le_of_ble_eq_true rfl) dX12_done_83 ⟨Nat.le_of_ble_eq_true rfl, Nat.le_of_ble_eq_true rfl⟩ (fun t H1 locs1 ht hB hk hS => ?_)
    have X : Hx D (tX12 yT) A s H1 locs1 (wX12 hT aT yT q_4) := Hx_after_all X ht hB hS
    clear hk hS ht hB
    generalize H1 = H at X ⊢
    generalize locs1 = locs at X ⊢
    refine lv_iconst (v := (1 : Int32)) hx hb dX12_done_86 (by decide) ?_
    have hq := Option.some.inj hF
    subst hq
    exact rt_z (v := (1 : Int32)) C X (by decide) dX12_done_87
  · replace hF := iF c1 hF
    by_cases c2 : (gIA gT 14 x0.toNatClampNeg) = (2 : Int32)
    · replace hF := iT c2 hF
      refine lv_tableIn (tgt := 88) (off := 75) hx hb dX12_done_13 (by rw [c2]; decide) (by rw [c2]; decide) (by rw [c2]; rfl) (by decide) ?_
      refine lv_aload_n hx hb dX12_done_88 rfl (lv_at hl 1 rfl) ?_
      refine lv_aload_n hx hb dX12_done_89 rfl (lv_at hl 1 rfl) ?_
      refine va_get (D := D.1) (ci := 12) (v := .long (gL gT 87)) (C := RX12) (T := TX12) (N := 114) hx hb hts wi_X12 hown X.1 X.2.1 0 rfl rfl 87 (by decide) (hts _ q7_41) (fun _ h9 => h9) (fl_get (by decide)) dX12_done_90 ?_
      obtain ⟨q_6, hc_7, hF⟩ := bnd_some hF
      refine cV_v (As := [.long (gL gT 87)]) (rest := []) C X (c_X12_hold l D hT aT yT gT (gL gT 87) q_6 hc_7 _) (cwV 1 hts (good_V q9_77 q9_79 q0_111 q1_9 q9_80) rfl rfl rfl (by decide +kernel) ⟨Nat.le_of_ble_eq_true rfl, Nat.le_of_ble_eq_true rfl⟩) (va_recv X.1 X.2.1 (ci := 12) (q0 := 0) rfl rfl) X.1 X.2.1 X.2.2.1 (free_all X) hl.1 rfl rfl (Nat.le_of_ble_eq_true rfl) dX12_done_93 ⟨Nat.le_of_ble_eq_true rfl, Nat.le_of_ble_eq_true rfl⟩ (fun t H1 locs1 ht hB hk hS => ?_)
      have X : Hx D (tX12 yT) A s H1 locs1 (wX12 hT aT yT q_6) := Hx_after_all X ht hB hS
      clear hk hS ht hB
      generalize H1 = H at X ⊢
      generalize locs1 = locs at X ⊢
      refine lv_iconst (v := (1 : Int32)) hx hb dX12_done_96 (by decide) ?_
      have hq := Option.some.inj hF
      subst hq
      exact rt_z (v := (1 : Int32)) C X (by decide) dX12_done_97
    · replace hF := iF c2 hF
      by_cases c3 : (gIA gT 14 x0.toNatClampNeg) = (3 : Int32)
      · replace hF := iT c3 hF
        refine lv_tableIn (tgt := 98) (off := 85) hx hb dX12_done_13 (by rw [c3]; decide) (by rw [c3]; decide) (by rw [c3]; rfl) (by decide) ?_
        refine lv_aload_n hx hb dX12_done_98 rfl (lv_at hl 1 rfl) ?_
        refine lv_aload_n hx hb dX12_done_99 rfl (lv_at hl 1 rfl) ?_
        refine va_get (D := D.1) (ci := 12) (v := .long (gL gT 91)) (C := RX12) (T := TX12) (N := 114) hx hb hts wi_X12 hown X.1 X.2.1 0 rfl rfl 91 (by decide) (hts _ q7_45) (fun _ h9 => h9) (fl_get (by decide)) dX12_done_100 ?_
        obtain ⟨q_8, hc_9, hF⟩ := bnd_some hF
        refine cV_v (As := [.long (gL gT 91)]) (rest := []) C X (c_X12_hold l D hT aT yT gT (gL gT 91) q_8 hc_9 _) (cwV 1 hts (good_V q9_77 q9_79 q0_111 q1_9 q9_80) rfl rfl rfl (by decide +kernel) ⟨Nat.le_of_ble_eq_true rfl, Nat.le_of_ble_eq_true rfl⟩) (va_recv X.1 X.2.1 (ci := 12) (q0 := 0) rfl rfl) X.1 X.2.1 X.2.2.1 (free_all X) hl.1 rfl rfl (Nat.le_of_ble_eq_true rfl) dX12_done_103 ⟨Nat.le_of_ble_eq_true rfl, Nat.le_of_ble_eq_true rfl⟩ (fun t H1 locs1 ht hB hk hS => ?_)
        have X : Hx D (tX12 yT) A s H1 locs1 (wX12 hT aT yT q_8) := Hx_after_all X ht hB hS
        clear hk hS ht hB
        generalize H1 = H at X ⊢
        generalize locs1 = locs at X ⊢
        refine lv_iconst (v := (1 : Int32)) hx hb dX12_done_106 (by decide) ?_
        have hq := Option.some.inj hF
        subst hq
        exact rt_z (v := (1 : Int32)) C X (by decide) dX12_done_107
      · replace hF := iF c3 hF
        by_cases c4 : (gIA gT 14 x0.toNatClampNeg) = (4 : Int32)
        · replace hF := iT c4 hF
          refine lv_tableIn (tgt := 108) (off := 95) hx hb dX12_done_13 (by rw [c4]; decide) (by rw [c4]; decide) (by rw [c4]; rfl) (by decide) ?_
          refine lv_aload_n hx hb dX12_done_108 rfl (lv_at hl 1 rfl) ?_
          refine lv_aload_n hx hb dX12_done_109 rfl (lv_at hl 1 rfl) ?_
          refine va_get (D := D.1) (ci := 12) (v := .ref (aT 80)) (C := RX12) (T := TX12) (N := 114) hx hb hts wi_X12 hown X.1 X.2.1 0 rfl rfl 80 (by decide) (hts _ q7_34) (fun _ h9 => h9) (fl_get (by decide)) dX12_done_110 ?_
          refine lv_iload_n hx hb dX12_done_113 rfl (lv_at hl 0 rfl) ?_
          obtain ⟨h_10, hF⟩ := grd_some hF
          refine va_lald (D := D.1) (f := gLA gT 80) hx hb X.1 X.2.1 54 53 rfl rfl (inB_ok h_10) dX12_done_114 ?_
          obtain ⟨q_11, hc_12, hF⟩ := bnd_some hF
          refine cV_v (As := [.long (gLA gT 80 (gIA gT 15 x0.toNatClampNeg).toNatClampNeg)]) (rest := []) C X (c_X12_hold l D hT aT yT gT (gLA gT 80 (gIA gT 15 x0.toNatClampNeg).toNatClampNeg) q_11 hc_12 _) (cwV 1 hts (good_V q9_77 q9_79 q0_111 q1_9 q9_80) rfl rfl rfl (by decide +kernel) ⟨Nat.le_of_ble_eq_true rfl, Nat.le_of_ble_eq_true rfl⟩) (va_recv X.1 X.2.1 (ci := 12) (q0 := 0) rfl rfl) X.1 X.2.1 X.2.2.1 (free_all X) hl.1 rfl rfl (Nat.le_of_ble_eq_true rfl) dX12_done_115 ⟨Nat.le_of_ble_eq_true rfl, Nat.le_of_ble_eq_true rfl⟩ (fun t H1 locs1 ht hB hk hS => ?_)
          have X : Hx D (tX12 yT) A s H1 locs1 (wX12 hT aT yT q_11) := Hx_after_all X ht hB hS
          clear hk hS ht hB
          generalize H1 = H at X ⊢
          generalize locs1 = locs at X ⊢
          refine lv_iconst (v := (1 : Int32)) hx hb dX12_done_118 (by decide) ?_
          have hq := Option.some.inj hF
          subst hq
          exact rt_z (v := (1 : Int32)) C X (by decide) dX12_done_119
        · replace hF := iF c4 hF
          by_cases c5 : (gIA gT 14 x0.toNatClampNeg) = (5 : Int32)
          · replace hF := iT c5 hF
            refine lv_tableIn (tgt := 120) (off := 107) hx hb dX12_done_13 (by rw [c5]; decide) (by rw [c5]; decide) (by rw [c5]; rfl) (by decide) ?_
            refine lv_aload_n hx hb dX12_done_120 rfl (lv_at hl 1 rfl) ?_
            refine lv_aload_n hx hb dX12_done_121 rfl (lv_at hl 1 rfl) ?_
            refine va_get (D := D.1) (ci := 12) (v := .ref (aT 81)) (C := RX12) (T := TX12) (N := 114) hx hb hts wi_X12 hown X.1 X.2.1 0 rfl rfl 81 (by decide) (hts _ q7_35) (fun _ h9 => h9) (fl_get (by decide)) dX12_done_122 ?_
            refine lv_iload_n hx hb dX12_done_125 rfl (lv_at hl 0 rfl) ?_
            obtain ⟨h_13, hF⟩ := grd_some hF
            refine va_lald (D := D.1) (f := gLA gT 81) hx hb X.1 X.2.1 55 54 rfl rfl (inB_ok h_13) dX12_done_126 ?_
            obtain ⟨q_14, hc_15, hF⟩ := bnd_some hF
            refine cV_v (As := [.long (gLA gT 81 (gIA gT 15 x0.toNatClampNeg).toNatClampNeg)]) (rest := []) C X (c_X12_hold l D hT aT yT gT (gLA gT 81 (gIA gT 15 x0.toNatClampNeg).toNatClampNeg) q_14 hc_15 _) (cwV 1 hts (good_V q9_77 q9_79 q0_111 q1_9 q9_80) rfl rfl rfl (by decide +kernel) ⟨Nat.le_of_ble_eq_true rfl, Nat.le_of_ble_eq_true rfl⟩) (va_recv X.1 X.2.1 (ci := 12) (q0 := 0) rfl rfl) X.1 X.2.1 X.2.2.1 (free_all X) hl.1 rfl rfl (Nat.le_of_ble_eq_true rfl) dX12_done_127 ⟨Nat.le_of_ble_eq_true rfl, Nat.le_of_ble_eq_true rfl⟩ (fun t H1 locs1 ht hB hk hS => ?_)
            have X : Hx D (tX12 yT) A s H1 locs1 (wX12 hT aT yT q_14) := Hx_after_all X ht hB hS
            clear hk hS ht hB
            generalize H1 = H at X ⊢
            generalize locs1 = locs at X ⊢
            refine lv_iconst (v := (1 : Int32)) hx hb dX12_done_130 (by decide) ?_
            have hq := Option.some.inj hF
            subst hq
            exact rt_z (v := (1 : Int32)) C X (by decide) dX12_done_131
          · replace hF := iF c5 hF
            by_cases c6 : (gIA gT 14 x0.toNatClampNeg) = (6 : Int32)
            · replace hF := iT c6 hF
              refine lv_tableIn (tgt := 138) (off := 125) hx hb dX12_done_13 (by rw [c6]; decide) (by rw [c6]; decide) (by rw [c6]; rfl) (by decide) ?_
              refine lv_aload_n hx hb dX12_done_138 rfl (lv_at hl 1 rfl) ?_
              refine va_get (D := D.1) (ci := 12) (v := .ref (aT 92)) (C := RX12) (T := TX12) (N := 114) hx hb hts wi_X12 hown X.1 X.2.1 0 rfl rfl 92 (by decide) (hts _ q7_46) (fun _ h9 => h9) (fl_get (by decide)) dX12_done_139 ?_
              refine lv_aload_n hx hb dX12_done_142 rfl (lv_at hl 1 rfl) ?_
              refine va_get (D := D.1) (ci := 12) (v := .int (gI gT 93)) (C := RX12) (T := TX12) (N := 114) hx hb hts wi_X12 hown X.1 X.2.1 0 rfl rfl 93 (by decide) (hts _ q7_47) (fun _ h9 => h9) (fl_get (by decide)) dX12_done_143 ?_
              refine lv_iconst (v := (1 : Int32)) hx hb dX12_done_146 (by decide) ?_
              refine lv_isub hx hb dX12_done_147 ?_
              obtain ⟨h_16, hF⟩ := grd_some hF
              refine va_lald (D := D.1) (f := gLA gT 92) hx hb X.1 X.2.1 63 62 rfl rfl (inB_ok h_16) dX12_done_148 ?_
              refine lv_lstore_n (lv' := [(3, .long (gLA gT 92 ((gI gT 93) - (1 : Int32)).toNatClampNeg)), (2, .int (gIA gT 15 x0.toNatClampNeg)), (0, .ref hT), (1, .int x0)]) hx hb dX12_done_149 rfl hl (by decide) rfl (fun ls hl => ?_)
              refine lv_aload_n hx hb dX12_done_150 rfl (lv_at hl 2 rfl) ?_
              refine va_get (D := D.1) (ci := 12) (v := .ref (aT 16)) (C := RX12) (T := TX12) (N := 114) hx hb hts wi_X12 hown X.1 X.2.1 0 rfl rfl 16 (by decide) (hts _ q6_210) (fun _ h9 => h9) (fl_get (by decide)) dX12_done_151 ?_
              refine lv_iload_n hx hb dX12_done_154 rfl (lv_at hl 3 rfl) ?_
              obtain ⟨h_17, hF⟩ := grd_some hF
              refine va_iald (D := D.1) (f := gIA gT 16) hx hb X.1 X.2.1 11 10 rfl rfl (inB_ok h_17) dX12_done_155 ?_
              refine lv_istore (lv' := [(5, .int (gIA gT 16 x0.toNatClampNeg)), (3, .long (gLA gT 92 ((gI gT 93) - (1 : Int32)).toNatClampNeg)), (2, .int (gIA gT 15 x0.toNatClampNeg)), (0, .ref hT), (1, .int x0)]) hx hb dX12_done_156 hl (by decide) rfl (fun ls hl => ?_)
              refine lv_aload_n hx hb dX12_done_158 rfl (lv_at hl 3 rfl) ?_
              refine va_get (D := D.1) (ci := 12) (v := .ref (aT 14)) (C := RX12) (T := TX12) (N := 114) hx hb hts wi_X12 hown X.1 X.2.1 0 rfl rfl 14 (by decide) (hts _ q6_208) (fun _ h9 => h9) (fl_get (by decide)) dX12_done_159 ?_
              refine lv_iload_n hx hb dX12_done_162 rfl (lv_at hl 4 rfl) ?_
              obtain ⟨h_18, hF⟩ := grd_some hF
              refine va_iald (D := D.1) (f := gIA gT 14) hx hb X.1 X.2.1 9 8 rfl rfl (inB_ok h_18) dX12_done_163 ?_
              by_cases c6 : (gIA gT 14 x0.toNatClampNeg) = (6 : Int32)
              · replace hF := iT c6 hF
                refine lv_tableIn (tgt := 200) (off := 36) hx hb dX12_done_164 (by rw [c6]; decide) (by rw [c6]; decide) (by rw [c6]; rfl) (by decide) ?_
                refine lv_lload_n hx hb dX12_done_200 rfl (lv_at hl 1 rfl) ?_
                refine lv_lconst (v := (0 : Int64)) hx hb dX12_done_201 (by decide) ?_
                refine W.lcmp hx hb dX12_done_202 ?_
                refine lv_if_lt (tgt := 218) hx hb dX12_done_203 (by decide) (fun c => ?_) (fun c => ?_)
                · have c := (lg_cmp_lt _ _).mp c
                  replace hF := iT c hF
                  exact (k_X12_done_218 l D hT aT yT n) C X (lv_sub hl [3, 4] rfl) hF
                · have c := fun h => c ((lg_cmp_lt _ _).mpr h)
                  replace hF := iF c hF
                  refine lv_lload_n hx hb dX12_done_206 rfl (lv_at hl 1 rfl) ?_
                  refine lv_aload_n hx hb dX12_done_207 rfl (lv_at hl 3 rfl) ?_
                  refine va_get (D := D.1) (ci := 12) (v := .ref (aT 78)) (C := RX12) (T := TX12) (N := 114) hx hb hts wi_X12 hown X.1 X.2.1 0 rfl rfl 78 (by decide) (hts _ q7_32) (fun _ h9 => h9) (fl_get (by decide)) dX12_done_208 ?_
                  refine lv_iload_n hx hb dX12_done_211 rfl (lv_at hl 2 rfl) ?_
                  obtain ⟨h_23, hF⟩ := grd_some hF
                  refine va_iald (D := D.1) (f := gIA gT 78) hx hb X.1 X.2.1 52 51 rfl rfl (inB_ok h_23) dX12_done_212 ?_
                  refine lv_i2l hx hb dX12_done_213 rfl ?_
                  refine W.lcmp hx hb dX12_done_214 ?_
                  refine lv_if_lt (tgt := 230) hx hb dX12_done_215 (by decide) (fun c => ?_) (fun c => ?_)
                  · have c := (lg_cmp_lt _ _).mp c
                    replace hF := iT c hF
                    refine lv_aload_n hx hb dX12_done_230 rfl (lv_at hl 3 rfl) ?_
                    refine va_get (D := D.1) (ci := 12) (v := .ref (aT 79)) (C := RX12) (T := TX12) (N := 114) hx hb hts wi_X12 hown X.1 X.2.1 0 rfl rfl 79 (by decide) (hts _ q7_33) (fun _ h9 => h9) (fl_get (by decide)) dX12_done_231 ?_
                    refine lv_bipush (v := (24 : Int32)) hx hb dX12_done_234 (by decide) ?_
                    refine lv_iload_n hx hb dX12_done_236 rfl (lv_at hl 2 rfl) ?_
                    refine lv_imul hx hb dX12_done_237 ?_
                    refine lv_lload_n hx hb dX12_done_238 rfl (lv_at hl 1 rfl) ?_
                    refine lv_l2i hx hb dX12_done_239 rfl ?_
                    refine lv_iadd hx hb dX12_done_240 ?_
                    obtain ⟨h_24, hF⟩ := grd_some hF
                    refine va_lald (D := D.1) (f := gLA gT 79) hx hb X.1 X.2.1 53 52 rfl rfl (inB_ok h_24) dX12_done_241 ?_
                    refine lv_lstore_n (lv' := [(3, .long (gLA gT 79 (((24 : Int32) * (gIA gT 15 x0.toNatClampNeg)) + ((gLA gT 92 ((gI gT 93) - (1 : Int32)).toNatClampNeg).toInt32)).toNatClampNeg)), (5, .int (gIA gT 16 x0.toNatClampNeg)), (2, .int (gIA gT 15 x0.toNatClampNeg)), (0, .ref hT), (1, .int x0)]) hx hb dX12_done_242 rfl hl (by decide) rfl (fun ls hl => ?_)
                    refine lv_goto (tgt := 403) hx hb dX12_done_243 (by decide) ?_
                    exact (k_X12_done_403 l D hT aT yT n) C X (lv_sub hl [3, 0] rfl) hF
                  · have c := fun h => c ((lg_cmp_lt _ _).mpr h)
                    replace hF := iF c hF
                    exact (k_X12_done_218 l D hT aT yT n) C X (lv_sub hl [3, 4] rfl) hF
              · replace hF := iF c6 hF
                by_cases c7 : (gIA gT 14 x0.toNatClampNeg) = (7 : Int32)
                · replace hF := iT c7 hF
                  refine lv_tableIn (tgt := 246) (off := 82) hx hb dX12_done_164 (by rw [c7]; decide) (by rw [c7]; decide) (by rw [c7]; rfl) (by decide) ?_
                  refine lv_iload hx hb dX12_done_246 (lv_at hl 0 rfl) ?_
                  refine lv_bipush (v := (7 : Int32)) hx hb dX12_done_248 (by decide) ?_
                  refine lv_icmp_ne (tgt := 262) hx hb dX12_done_250 (by decide) (fun c => ?_) (fun c => ?_)
                  · replace hF := iF c hF
                    refine lv_iload hx hb dX12_done_262 (lv_at hl 0 rfl) ?_
                    refine lv_bipush (v := (6 : Int32)) hx hb dX12_done_264 (by decide) ?_
                    refine lv_icmp_ne (tgt := 280) hx hb dX12_done_266 (by decide) (fun c => ?_) (fun c => ?_)
                    · replace hF := iF c hF
                      refine lv_lload_n hx hb dX12_done_280 rfl (lv_at hl 1 rfl) ?_
                      refine lv_lneg hx hb dX12_done_281 ?_
                      refine lv_iload hx hb dX12_done_282 (lv_at hl 0 rfl) ?_
                      refine lv_iconst (v := (4 : Int32)) hx hb dX12_done_284 (by decide) ?_
                      refine lv_icmp_ge (tgt := 292) hx hb dX12_done_285 (by decide) (fun c => ?_) (fun c => ?_)
                      · replace hF := iT c hF
                        refine lv_iload hx hb dX12_done_292 (lv_at hl 0 rfl) ?_
                        exact (k_X12_done_294 l D hT aT yT n) C X (lv_sub hl [3] rfl) hF
                      · replace hF := iF c hF
                        refine lv_iconst (v := (4 : Int32)) hx hb dX12_done_288 (by decide) ?_
                        refine lv_goto (tgt := 294) hx hb dX12_done_289 (by decide) ?_
                        exact (k_X12_done_294 l D hT aT yT n) C X (lv_sub hl [3] rfl) hF
                    · replace hF := iT c hF
                      refine lv_lload_n hx hb dX12_done_269 rfl (lv_at hl 1 rfl) ?_
                      refine lv_l2i hx hb dX12_done_270 rfl ?_
                      refine lv_ldcw hx hb hown (hts _ q9_133) dX12_done_271 ?_
                      refine lv_ixor hx hb dX12_done_274 ?_
                      refine lv_i2l hx hb dX12_done_275 rfl ?_
                      refine lv_lstore_n (lv' := [(3, .long ((((gLA gT 92 ((gI gT 93) - (1 : Int32)).toNatClampNeg).toInt32) ^^^ (-2147483648 : Int32)).toInt64)), (5, .int (gIA gT 16 x0.toNatClampNeg)), (2, .int (gIA gT 15 x0.toNatClampNeg)), (0, .ref hT), (1, .int x0)]) hx hb dX12_done_276 rfl hl (by decide) rfl (fun ls hl => ?_)
                      refine lv_goto (tgt := 403) hx hb dX12_done_277 (by decide) ?_
                      exact (k_X12_done_403 l D hT aT yT n) C X (lv_sub hl [3, 0] rfl) hF
                  · replace hF := iT c hF
                    refine lv_lload_n hx hb dX12_done_253 rfl (lv_at hl 1 rfl) ?_
                    refine lv_ldc2 hx hb hown (hts _ q8_135) dX12_done_254 ?_
                    refine lv_lxor hx hb dX12_done_257 ?_
                    refine lv_lstore_n (lv' := [(3, .long ((gLA gT 92 ((gI gT 93) - (1 : Int32)).toNatClampNeg) ^^^ (-9223372036854775808 : Int64))), (5, .int (gIA gT 16 x0.toNatClampNeg)), (2, .int (gIA gT 15 x0.toNatClampNeg)), (0, .ref hT), (1, .int x0)]) hx hb dX12_done_258 rfl hl (by decide) rfl (fun ls hl => ?_)
                    refine lv_goto (tgt := 403) hx hb dX12_done_259 (by decide) ?_
                    exact (k_X12_done_403 l D hT aT yT n) C X (lv_sub hl [3, 0] rfl) hF
                · replace hF := iF c7 hF
                  by_cases c8 : (gIA gT 14 x0.toNatClampNeg) = (8 : Int32)
                  · replace hF := iT c8 hF
                    refine lv_tableIn (tgt := 301) (off := 137) hx hb dX12_done_164 (by rw [c8]; decide) (by rw [c8]; decide) (by rw [c8]; rfl) (by decide) ?_
                    refine lv_lconst (v := (1 : Int64)) hx hb dX12_done_301 (by decide) ?_
                    refine lv_lload_n hx hb dX12_done_302 rfl (lv_at hl 1 rfl) ?_
                    refine lv_lsub hx hb dX12_done_303 ?_
                    refine lv_lstore_n (lv' := [(3, .long ((1 : Int64) - (gLA gT 92 ((gI gT 93) - (1 : Int32)).toNatClampNeg))), (5, .int (gIA gT 16 x0.toNatClampNeg)), (2, .int (gIA gT 15 x0.toNatClampNeg)), (0, .ref hT), (1, .int x0)]) hx hb dX12_done_304 rfl hl (by decide) rfl (fun ls hl => ?_)
                    refine lv_goto (tgt := 403) hx hb dX12_done_305 (by decide) ?_
                    exact (k_X12_done_403 l D hT aT yT n) C X (lv_sub hl [3, 0] rfl) hF
                  · replace hF := iF c8 hF
                    by_cases c9 : (gIA gT 14 x0.toNatClampNeg) = (9 : Int32)
                    · replace hF := iT c9 hF
                      refine lv_tableIn (tgt := 308) (off := 144) hx hb dX12_done_164 (by rw [c9]; decide) (by rw [c9]; decide) (by rw [c9]; rfl) (by decide) ?_
                      refine lv_aload_n hx hb dX12_done_308 rfl (lv_at hl 3 rfl) ?_
                      refine lv_lload_n hx hb dX12_done_309 rfl (lv_at hl 1 rfl) ?_
                      refine lv_iload hx hb dX12_done_310 (lv_at hl 0 rfl) ?_
                      refine lv_iload_n hx hb dX12_done_312 rfl (lv_at hl 2 rfl) ?_
                      obtain ⟨q_28, hc_29, hF⟩ := bnd_some hF
                      refine cV_l (As := [.long (gLA gT 92 ((gI gT 93) - (1 : Int32)).toNatClampNeg), .int (gIA gT 16 x0.toNatClampNeg), .int (gIA gT 15 x0.toNatClampNeg)]) (rest := []) C X (c_X12_become l D hT aT yT n gT (gLA gT 92 ((gI gT 93) - (1 : Int32)).toNatClampNeg) (gIA gT 16 x0.toNatClampNeg) (gIA gT 15 x0.toNatClampNeg) q_28 hc_29 _) (cwV 3 hts (good_V q8_136 q8_138 q0_73 q1_9 q8_139) rfl rfl rfl (by decide +kernel) ⟨Nat.le_of_ble_eq_true rfl, Nat.le_of_ble_eq_true rfl⟩) (va_recv X.1 X.2.1 (ci := 12) (q0 := 0) rfl rfl) X.1 X.2.1 X.2.2.1 (free_all X) hl.1 rfl rfl (Nat.le_of_ble_eq_true rfl) dX12_done_313 ⟨Nat.le_of_ble_eq_true rfl, Nat.le_of_ble_eq_true rfl⟩ (fun t H1 locs1 ht hB hk hS => ?_)
                      have X : Hx D (tX12 yT) A s H1 locs1 (wX12 hT aT yT q_28.2) := Hx_after_all X ht hB hS
                      clear hk hS ht hB
                      generalize H1 = H at X ⊢
                      generalize locs1 = locs at X ⊢
                      refine lv_lstore_n (lv' := [(3, .long q_28.1), (5, .int (gIA gT 16 x0.toNatClampNeg)), (2, .int (gIA gT 15 x0.toNatClampNeg)), (0, .ref hT), (1, .int x0)]) hx hb dX12_done_316 rfl hl (by decide) rfl (fun ls hl => ?_)
                      refine lv_iload_n hx hb dX12_done_317 rfl (lv_at hl 2 rfl) ?_
                      refine lv_bipush (v := (6 : Int32)) hx hb dX12_done_318 (by decide) ?_
                      refine lv_icmp_ne (tgt := 403) hx hb dX12_done_320 (by decide) (fun c => ?_) (fun c => ?_)
                      · replace hF := iF c hF
                        exact (k_X12_done_403 l D hT aT yT n) C X (lv_sub hl [3, 0] rfl) hF
                      · replace hF := iT c hF
                        refine lv_iload hx hb dX12_done_323 (lv_at hl 1 rfl) ?_
                        refine lv_bipush (v := (7 : Int32)) hx hb dX12_done_325 (by decide) ?_
                        refine lv_icmp_ne (tgt := 403) hx hb dX12_done_327 (by decide) (fun c => ?_) (fun c => ?_)
                        · replace hF := iF c hF
                          exact (k_X12_done_403 l D hT aT yT n) C X (lv_sub hl [3, 0] rfl) hF
                        · replace hF := iT c hF
                          refine lv_lload_n hx hb dX12_done_330 rfl (lv_at hl 0 rfl) ?_
                          refine lv_ldc2 hx hb hown (hts _ q8_99) dX12_done_331 ?_
                          refine W.lcmp hx hb dX12_done_334 ?_
                          refine lv_if_ne (tgt := 403) hx hb dX12_done_335 (by decide) (fun c => ?_) (fun c => ?_)
                          · have c := fun h => c ((lg_cmp_eq _ _).mpr h)
                            replace hF := iF c hF
                            exact (k_X12_done_403 l D hT aT yT n) C X (lv_sub hl [3, 0] rfl) hF
                          · have c := (lg_cmp_eq _ _).mp c
                            replace hF := iT c hF
                            refine lv_aload_n hx hb dX12_done_338 rfl (lv_at hl 3 rfl) ?_
                            refine lv_iconst (v := (3 : Int32)) hx hb dX12_done_339 (by decide) ?_
                            refine lv_aload_n hx hb dX12_done_340 rfl (lv_at hl 3 rfl) ?_
                            refine va_get (D := D.1) (ci := 12) (v := .ref (aT 17)) (C := RX12) (T := TX12) (N := 114) hx hb hts wi_X12 hown X.1 X.2.1 0 rfl rfl 17 (by decide) (hts _ q6_211) (fun _ h9 => h9) (fl_get (by decide)) dX12_done_341 ?_
                            refine lv_iload_n hx hb dX12_done_344 rfl (lv_at hl 4 rfl) ?_
                            obtain ⟨h_30, hF⟩ := grd_some hF
                            refine va_iald (D := D.1) (f := gIA q_28.2 17) hx hb X.1 X.2.1 12 11 rfl rfl (inB_ok h_30) dX12_done_345 ?_
                            obtain ⟨q_31, hc_32, hF⟩ := bnd_some hF
                            refine cV_i (As := [.int (3 : Int32), .int (gIA q_28.2 17 x0.toNatClampNeg)]) (rest := []) C X (c_X12_jams l D hT aT yT q_28.2 (3 : Int32) (gIA q_28.2 17 x0.toNatClampNeg) q_31 hc_32 _) (cwV 2 hts (good_V q9_110 q9_112 q0_117 q1_9 q9_113) rfl rfl rfl (by decide +kernel) ⟨Nat.le_of_ble_eq_true rfl, Nat.le_of_ble_eq_true rfl⟩) (va_recv X.1 X.2.1 (ci := 12) (q0 := 0) rfl rfl) X.1 X.2.1 X.2.2.1 (free_all X) hl.1 rfl rfl (Nat.le_of_ble_eq_true rfl) dX12_done_346 ⟨Nat.le_of_ble_eq_true rfl, Nat.le_of_ble_eq_true rfl⟩ (fun t H1 locs1 ht hB hk hS => ?_)
                            have X : Hx D (tX12 yT) A s H1 locs1 (wX12 hT aT yT q_31.2) := Hx_after_all X ht hB hS
                            clear hk hS ht hB
                            generalize H1 = H at X ⊢
                            generalize locs1 = locs at X ⊢
                            obtain ⟨h_33, hF⟩ := grd_some hF
                            have hq := Option.some.inj hF
                            subst hq
                            exact rt_z (v := q_31.1) C X (zB_n h_33) dX12_done_349
                    · replace hF := iF c9 hF
                      by_cases c10 : (gIA gT 14 x0.toNatClampNeg) = (10 : Int32)
                      · replace hF := iT c10 hF
                        refine lv_tableIn (tgt := 350) (off := 186) hx hb dX12_done_164 (by rw [c10]; decide) (by rw [c10]; decide) (by rw [c10]; rfl) (by decide) ?_
                        refine lv_aload_n hx hb dX12_done_350 rfl (lv_at hl 3 rfl) ?_
                        refine lv_lload_n hx hb dX12_done_351 rfl (lv_at hl 1 rfl) ?_
                        refine lv_iload hx hb dX12_done_352 (lv_at hl 0 rfl) ?_
                        refine lv_bipush (v := (7 : Int32)) hx hb dX12_done_354 (by decide) ?_
                        obtain ⟨q_34, hc_35, hF⟩ := bnd_some hF
                        refine cV_l (As := [.long (gLA gT 92 ((gI gT 93) - (1 : Int32)).toNatClampNeg), .int (gIA gT 16 x0.toNatClampNeg), .int (7 : Int32)]) (rest := []) C X (c_X12_become l D hT aT yT n gT (gLA gT 92 ((gI gT 93) - (1 : Int32)).toNatClampNeg) (gIA gT 16 x0.toNatClampNeg) (7 : Int32) q_34 hc_35 _) (cwV 3 hts (good_V q8_136 q8_138 q0_73 q1_9 q8_139) rfl rfl rfl (by decide +kernel) ⟨Nat.le_of_ble_eq_true rfl, Nat.le_of_ble_eq_true rfl⟩) (va_recv X.1 X.2.1 (ci := 12) (q0 := 0) rfl rfl) X.1 X.2.1 X.2.2.1 (free_all X) hl.1 rfl rfl (Nat.le_of_ble_eq_true rfl) dX12_done_356 ⟨Nat.le_of_ble_eq_true rfl, Nat.le_of_ble_eq_true rfl⟩ (fun t H1 locs1 ht hB hk hS => ?_)
                        have X : Hx D (tX12 yT) A s H1 locs1 (wX12 hT aT yT q_34.2) := Hx_after_all X ht hB hS
                        clear hk hS ht hB
                        generalize H1 = H at X ⊢
                        generalize locs1 = locs at X ⊢
                        refine lv_lstore_n (lv' := [(3, .long q_34.1), (5, .int (gIA gT 16 x0.toNatClampNeg)), (2, .int (gIA gT 15 x0.toNatClampNeg)), (0, .ref hT), (1, .int x0)]) hx hb dX12_done_359 rfl hl (by decide) rfl (fun ls hl => ?_)
                        refine lv_iload_n hx hb dX12_done_360 rfl (lv_at hl 2 rfl) ?_
                        refine lv_sipush (v := (212 : Int32)) hx hb dX12_done_361 (by decide) ?_
                        refine lv_icmp_ne (tgt := 374) hx hb dX12_done_364 (by decide) (fun c => ?_) (fun c => ?_)
                        · replace hF := iF c hF
                          refine lv_aload_n hx hb dX12_done_374 rfl (lv_at hl 3 rfl) ?_
                          refine lv_lload_n hx hb dX12_done_375 rfl (lv_at hl 0 rfl) ?_
                          refine lv_iload_n hx hb dX12_done_376 rfl (lv_at hl 2 rfl) ?_
                          refine lv_sipush (v := (209 : Int32)) hx hb dX12_done_377 (by decide) ?_
                          refine lv_isub hx hb dX12_done_380 ?_
                          obtain ⟨q_36, hc_37, hF⟩ := bnd_some hF
                          refine cV_l (As := [.long q_34.1, .int ((gIA gT 15 x0.toNatClampNeg) - (209 : Int32))]) (rest := []) C X (c_X12_evened l D hT aT yT n q_34.2 q_34.1 ((gIA gT 15 x0.toNatClampNeg) - (209 : Int32)) q_36 hc_37 _) (cwV 2 hts (good_V q9_134 q9_136 q0_120 q1_9 q9_137) rfl rfl rfl (by decide +kernel) ⟨Nat.le_of_ble_eq_true rfl, Nat.le_of_ble_eq_true rfl⟩) (va_recv X.1 X.2.1 (ci := 12) (q0 := 0) rfl rfl) X.1 X.2.1 X.2.2.1 (free_all X) hl.1 rfl rfl (Nat.le_of_ble_eq_true rfl) dX12_done_381 ⟨Nat.le_of_ble_eq_true rfl, Nat.le_of_ble_eq_true rfl⟩ (fun t H1 locs1 ht hB hk hS => ?_)
                          have X : Hx D (tX12 yT) A s H1 locs1 (wX12 hT aT yT q_36.2) := Hx_after_all X ht hB hS
                          clear hk hS ht hB
                          generalize H1 = H at X ⊢
                          generalize locs1 = locs at X ⊢
                          exact (k_X12_done_384 l D hT aT yT n) C X (lv_sub hl [3] rfl) hF
                        · replace hF := iT c hF
                          refine lv_lload_n hx hb dX12_done_367 rfl (lv_at hl 0 rfl) ?_
                          obtain ⟨q_38, hc_39, hF⟩ := bnd_some hF
                          refine cS_l (As := [.long q_34.1]) (rest := []) C X (c_X12_withoutSign l D  q_34.1 q_38 hc_39 _) (va_cwS 1 hts (good_S q9_89 q9_90 q1_9 q9_91) rfl rfl rfl (by decide +kernel) ⟨Nat.le_of_ble_eq_true rfl, Nat.le_of_ble_eq_true rfl⟩) (eK X) eP (eD (A := A)) (eF X) hl.1 rfl rfl (Nat.le_of_ble_eq_true rfl) dX12_done_368 ⟨Nat.le_of_ble_eq_true rfl, Nat.le_of_ble_eq_true rfl⟩ (fun t H1 locs1 ht hB hk hS => ?_)
                          have X := Hx_after_none X hk hS
                          clear hk hS ht hB
                          generalize H1 = H at X ⊢
                          generalize locs1 = locs at X ⊢
                          refine lv_goto (tgt := 384) hx hb dX12_done_371 (by decide) ?_
                          exact (k_X12_done_384 l D hT aT yT n) C X (lv_sub hl [3] rfl) hF
                      · replace hF := iF c10 hF
                        refine lv_tableOut (tgt := 388) hx hb dX12_done_164 (tbl_out (6) (10) 5 (by decide) ⟨tne c6 (by decide), ⟨tne c7 (by decide), ⟨tne c8 (by decide), ⟨tne c9 (by decide), ⟨tne c10 (by decide), trivial⟩⟩⟩⟩⟩) (by decide) ?_
                        refine lv_aload_n hx hb dX12_done_388 rfl (lv_at hl 3 rfl) ?_
                        refine lv_lload_n hx hb dX12_done_389 rfl (lv_at hl 1 rfl) ?_
                        refine lv_iload hx hb dX12_done_390 (lv_at hl 0 rfl) ?_
                        refine lv_iconst (v := (3 : Int32)) hx hb dX12_done_392 (by decide) ?_
                        refine lv_ishr hx hb dX12_done_393 ?_
                        refine lv_iload hx hb dX12_done_394 (lv_at hl 0 rfl) ?_
                        refine lv_bipush (v := (7 : Int32)) hx hb dX12_done_396 (by decide) ?_
                        refine lv_iand hx hb dX12_done_398 ?_
                        obtain ⟨q_40, hc_41, hF⟩ := bnd_some hF
                        refine cV_l (As := [.long (gLA gT 92 ((gI gT 93) - (1 : Int32)).toNatClampNeg), .int ((gIA gT 16 x0.toNatClampNeg) >>> ((3 : Int32) &&& 31)), .int ((gIA gT 16 x0.toNatClampNeg) &&& (7 : Int32))]) (rest := []) C X (c_X12_become l D hT aT yT n gT (gLA gT 92 ((gI gT 93) - (1 : Int32)).toNatClampNeg) ((gIA gT 16 x0.toNatClampNeg) >>> ((3 : Int32) &&& 31)) ((gIA gT 16 x0.toNatClampNeg) &&& (7 : Int32)) q_40 hc_41 _) (cwV 3 hts (good_V q8_136 q8_138 q0_73 q1_9 q8_139) rfl rfl rfl (by decide +kernel) ⟨Nat.le_of_ble_eq_true rfl, Nat.le_of_ble_eq_true rfl⟩) (va_recv X.1 X.2.1 (ci := 12) (q0 := 0) rfl rfl) X.1 X.2.1 X.2.2.1 (free_all X) hl.1 rfl rfl (Nat.le_of_ble_eq_true rfl) dX12_done_399 ⟨Nat.le_of_ble_eq_true rfl, Nat.le_of_ble_eq_true rfl⟩ (fun t H1 locs1 ht hB hk hS => ?_)
                        have X : Hx D (tX12 yT) A s H1 locs1 (wX12 hT aT yT q_40.2) := Hx_after_all X ht hB hS
                        clear hk hS ht hB
                        generalize H1 = H at X ⊢
                        generalize locs1 = locs at X ⊢
                        refine lv_lstore_n (lv' := [(3, .long q_40.1), (5, .int (gIA gT 16 x0.toNatClampNeg)), (2, .int (gIA gT 15 x0.toNatClampNeg)), (0, .ref hT), (1, .int x0)]) hx hb dX12_done_402 rfl hl (by decide) rfl (fun ls hl => ?_)
                        exact (k_X12_done_403 l D hT aT yT n) C X (lv_sub hl [3, 0] rfl) hF
            · replace hF := iF c6 hF
              by_cases c7 : (gIA gT 14 x0.toNatClampNeg) = (7 : Int32)
              · replace hF := iT c7 hF
                refine lv_tableIn (tgt := 138) (off := 125) hx hb dX12_done_13 (by rw [c7]; decide) (by rw [c7]; decide) (by rw [c7]; rfl) (by decide) ?_
                refine lv_aload_n hx hb dX12_done_138 rfl (lv_at hl 1 rfl) ?_
                refine va_get (D := D.1) (ci := 12) (v := .ref (aT 92)) (C := RX12) (T := TX12) (N := 114) hx hb hts wi_X12 hown X.1 X.2.1 0 rfl rfl 92 (by decide) (hts _ q7_46) (fun _ h9 => h9) (fl_get (by decide)) dX12_done_139 ?_
                refine lv_aload_n hx hb dX12_done_142 rfl (lv_at hl 1 rfl) ?_
                refine va_get (D := D.1) (ci := 12) (v := .int (gI gT 93)) (C := RX12) (T := TX12) (N := 114) hx hb hts wi_X12 hown X.1 X.2.1 0 rfl rfl 93 (by decide) (hts _ q7_47) (fun _ h9 => h9) (fl_get (by decide)) dX12_done_143 ?_
                refine lv_iconst (v := (1 : Int32)) hx hb dX12_done_146 (by decide) ?_
                refine lv_isub hx hb dX12_done_147 ?_
                obtain ⟨h_42, hF⟩ := grd_some hF
                refine va_lald (D := D.1) (f := gLA gT 92) hx hb X.1 X.2.1 63 62 rfl rfl (inB_ok h_42) dX12_done_148 ?_
                refine lv_lstore_n (lv' := [(3, .long (gLA gT 92 ((gI gT 93) - (1 : Int32)).toNatClampNeg)), (2, .int (gIA gT 15 x0.toNatClampNeg)), (0, .ref hT), (1, .int x0)]) hx hb dX12_done_149 rfl hl (by decide) rfl (fun ls hl => ?_)
                refine lv_aload_n hx hb dX12_done_150 rfl (lv_at hl 2 rfl) ?_
                refine va_get (D := D.1) (ci := 12) (v := .ref (aT 16)) (C := RX12) (T := TX12) (N := 114) hx hb hts wi_X12 hown X.1 X.2.1 0 rfl rfl 16 (by decide) (hts _ q6_210) (fun _ h9 => h9) (fl_get (by decide)) dX12_done_151 ?_
                refine lv_iload_n hx hb dX12_done_154 rfl (lv_at hl 3 rfl) ?_
                obtain ⟨h_43, hF⟩ := grd_some hF
                refine va_iald (D := D.1) (f := gIA gT 16) hx hb X.1 X.2.1 11 10 rfl rfl (inB_ok h_43) dX12_done_155 ?_
                refine lv_istore (lv' := [(5, .int (gIA gT 16 x0.toNatClampNeg)), (3, .long (gLA gT 92 ((gI gT 93) - (1 : Int32)).toNatClampNeg)), (2, .int (gIA gT 15 x0.toNatClampNeg)), (0, .ref hT), (1, .int x0)]) hx hb dX12_done_156 hl (by decide) rfl (fun ls hl => ?_)
                refine lv_aload_n hx hb dX12_done_158 rfl (lv_at hl 3 rfl) ?_
                refine va_get (D := D.1) (ci := 12) (v := .ref (aT 14)) (C := RX12) (T := TX12) (N := 114) hx hb hts wi_X12 hown X.1 X.2.1 0 rfl rfl 14 (by decide) (hts _ q6_208) (fun _ h9 => h9) (fl_get (by decide)) dX12_done_159 ?_
                refine lv_iload_n hx hb dX12_done_162 rfl (lv_at hl 4 rfl) ?_
                obtain ⟨h_44, hF⟩ := grd_some hF
                refine va_iald (D := D.1) (f := gIA gT 14) hx hb X.1 X.2.1 9 8 rfl rfl (inB_ok h_44) dX12_done_163 ?_
                by_cases c6 : (gIA gT 14 x0.toNatClampNeg) = (6 : Int32)
                · replace hF := iT c6 hF
                  refine lv_tableIn (tgt := 200) (off := 36) hx hb dX12_done_164 (by rw [c6]; decide) (by rw [c6]; decide) (by rw [c6]; rfl) (by decide) ?_
                  refine lv_lload_n hx hb dX12_done_200 rfl (lv_at hl 1 rfl) ?_
                  refine lv_lconst (v := (0 : Int64)) hx hb dX12_done_201 (by decide) ?_
                  refine W.lcmp hx hb dX12_done_202 ?_
                  refine lv_if_lt (tgt := 218) hx hb dX12_done_203 (by decide) (fun c => ?_) (fun c => ?_)
                  · have c := (lg_cmp_lt _ _).mp c
                    replace hF := iT c hF
                    exact (k_X12_done_218 l D hT aT yT n) C X (lv_sub hl [3, 4] rfl) hF
                  · have c := fun h => c ((lg_cmp_lt _ _).mpr h)
                    replace hF := iF c hF
                    refine lv_lload_n hx hb dX12_done_206 rfl (lv_at hl 1 rfl) ?_
                    refine lv_aload_n hx hb dX12_done_207 rfl (lv_at hl 3 rfl) ?_
                    refine va_get (D := D.1) (ci := 12) (v := .ref (aT 78)) (C := RX12) (T := TX12) (N := 114) hx hb hts wi_X12 hown X.1 X.2.1 0 rfl rfl 78 (by decide) (hts _ q7_32) (fun _ h9 => h9) (fl_get (by decide)) dX12_done_208 ?_
                    refine lv_iload_n hx hb dX12_done_211 rfl (lv_at hl 2 rfl) ?_
                    obtain ⟨h_45, hF⟩ := grd_some hF
                    refine va_iald (D := D.1) (f := gIA gT 78) hx hb X.1 X.2.1 52 51 rfl rfl (inB_ok h_45) dX12_done_212 ?_
                    refine lv_i2l hx hb dX12_done_213 rfl ?_
                    refine W.lcmp hx hb dX12_done_214 ?_
                    refine lv_if_lt (tgt := 230) hx hb dX12_done_215 (by decide) (fun c => ?_) (fun c => ?_)
                    · have c := (lg_cmp_lt _ _).mp c
                      replace hF := iT c hF
                      refine lv_aload_n hx hb dX12_done_230 rfl (lv_at hl 3 rfl) ?_
                      refine va_get (D := D.1) (ci := 12) (v := .ref (aT 79)) (C := RX12) (T := TX12) (N := 114) hx hb hts wi_X12 hown X.1 X.2.1 0 rfl rfl 79 (by decide) (hts _ q7_33) (fun _ h9 => h9) (fl_get (by decide)) dX12_done_231 ?_
                      refine lv_bipush (v := (24 : Int32)) hx hb dX12_done_234 (by decide) ?_
                      refine lv_iload_n hx hb dX12_done_236 rfl (lv_at hl 2 rfl) ?_
                      refine lv_imul hx hb dX12_done_237 ?_
                      refine lv_lload_n hx hb dX12_done_238 rfl (lv_at hl 1 rfl) ?_
                      refine lv_l2i hx hb dX12_done_239 rfl ?_
                      refine lv_iadd hx hb dX12_done_240 ?_
                      obtain ⟨h_46, hF⟩ := grd_some hF
                      refine va_lald (D := D.1) (f := gLA gT 79) hx hb X.1 X.2.1 53 52 rfl rfl (inB_ok h_46) dX12_done_241 ?_
                      refine lv_lstore_n (lv' := [(3, .long (gLA gT 79 (((24 : Int32) * (gIA gT 15 x0.toNatClampNeg)) + ((gLA gT 92 ((gI gT 93) - (1 : Int32)).toNatClampNeg).toInt32)).toNatClampNeg)), (5, .int (gIA gT 16 x0.toNatClampNeg)), (2, .int (gIA gT 15 x0.toNatClampNeg)), (0, .ref hT), (1, .int x0)]) hx hb dX12_done_242 rfl hl (by decide) rfl (fun ls hl => ?_)
                      refine lv_goto (tgt := 403) hx hb dX12_done_243 (by decide) ?_
                      exact (k_X12_done_403 l D hT aT yT n) C X (lv_sub hl [3, 0] rfl) hF
                    · have c := fun h => c ((lg_cmp_lt _ _).mpr h)
                      replace hF := iF c hF
                      exact (k_X12_done_218 l D hT aT yT n) C X (lv_sub hl [3, 4] rfl) hF
                · replace hF := iF c6 hF
                  by_cases c7 : (gIA gT 14 x0.toNatClampNeg) = (7 : Int32)
                  · replace hF := iT c7 hF
                    refine lv_tableIn (tgt := 246) (off := 82) hx hb dX12_done_164 (by rw [c7]; decide) (by rw [c7]; decide) (by rw [c7]; rfl) (by decide) ?_
                    refine lv_iload hx hb dX12_done_246 (lv_at hl 0 rfl) ?_
                    refine lv_bipush (v := (7 : Int32)) hx hb dX12_done_248 (by decide) ?_
                    refine lv_icmp_ne (tgt := 262) hx hb dX12_done_250 (by decide) (fun c => ?_) (fun c => ?_)
                    · replace hF := iF c hF
                      refine lv_iload hx hb dX12_done_262 (lv_at hl 0 rfl) ?_
                      refine lv_bipush (v := (6 : Int32)) hx hb dX12_done_264 (by decide) ?_
                      refine lv_icmp_ne (tgt := 280) hx hb dX12_done_266 (by decide) (fun c => ?_) (fun c => ?_)
                      · replace hF := iF c hF
                        refine lv_lload_n hx hb dX12_done_280 rfl (lv_at hl 1 rfl) ?_
                        refine lv_lneg hx hb dX12_done_281 ?_
                        refine lv_iload hx hb dX12_done_282 (lv_at hl 0 rfl) ?_
                        refine lv_iconst (v := (4 : Int32)) hx hb dX12_done_284 (by decide) ?_
                        refine lv_icmp_ge (tgt := 292) hx hb dX12_done_285 (by decide) (fun c => ?_) (fun c => ?_)
                        · replace hF := iT c hF
                          refine lv_iload hx hb dX12_done_292 (lv_at hl 0 rfl) ?_
                          exact (k_X12_done_294 l D hT aT yT n) C X (lv_sub hl [3] rfl) hF
                        · replace hF := iF c hF
                          refine lv_iconst (v := (4 : Int32)) hx hb dX12_done_288 (by decide) ?_
                          refine lv_goto (tgt := 294) hx hb dX12_done_289 (by decide) ?_
                          exact (k_X12_done_294 l D hT aT yT n) C X (lv_sub hl [3] rfl) hF
                      · replace hF := iT c hF
                        refine lv_lload_n hx hb dX12_done_269 rfl (lv_at hl 1 rfl) ?_
                        refine lv_l2i hx hb dX12_done_270 rfl ?_
                        refine lv_ldcw hx hb hown (hts _ q9_133) dX12_done_271 ?_
                        refine lv_ixor hx hb dX12_done_274 ?_
                        refine lv_i2l hx hb dX12_done_275 rfl ?_
                        refine lv_lstore_n (lv' := [(3, .long ((((gLA gT 92 ((gI gT 93) - (1 : Int32)).toNatClampNeg).toInt32) ^^^ (-2147483648 : Int32)).toInt64)), (5, .int (gIA gT 16 x0.toNatClampNeg)), (2, .int (gIA gT 15 x0.toNatClampNeg)), (0, .ref hT), (1, .int x0)]) hx hb dX12_done_276 rfl hl (by decide) rfl (fun ls hl => ?_)
                        refine lv_goto (tgt := 403) hx hb dX12_done_277 (by decide) ?_
                        exact (k_X12_done_403 l D hT aT yT n) C X (lv_sub hl [3, 0] rfl) hF
                    · replace hF := iT c hF
                      refine lv_lload_n hx hb dX12_done_253 rfl (lv_at hl 1 rfl) ?_
                      refine lv_ldc2 hx hb hown (hts _ q8_135) dX12_done_254 ?_
                      refine lv_lxor hx hb dX12_done_257 ?_
                      refine lv_lstore_n (lv' := [(3, .long ((gLA gT 92 ((gI gT 93) - (1 : Int32)).toNatClampNeg) ^^^ (-9223372036854775808 : Int64))), (5, .int (gIA gT 16 x0.toNatClampNeg)), (2, .int (gIA gT 15 x0.toNatClampNeg)), (0, .ref hT), (1, .int x0)]) hx hb dX12_done_258 rfl hl (by decide) rfl (fun ls hl => ?_)
                      refine lv_goto (tgt := 403) hx hb dX12_done_259 (by decide) ?_
                      exact (k_X12_done_403 l D hT aT yT n) C X (lv_sub hl [3, 0] rfl) hF
                  · replace hF := iF c7 hF
                    by_cases c8 : (gIA gT 14 x0.toNatClampNeg) = (8 : Int32)
                    · replace hF := iT c8 hF
                      refine lv_tableIn (tgt := 301) (off := 137) hx hb dX12_done_164 (by rw [c8]; decide) (by rw [c8]; decide) (by rw [c8]; rfl) (by decide) ?_
                      refine lv_lconst (v := (1 : Int64)) hx hb dX12_done_301 (by decide) ?_
                      refine lv_lload_n hx hb dX12_done_302 rfl (lv_at hl 1 rfl) ?_
                      refine lv_lsub hx hb dX12_done_303 ?_
                      refine lv_lstore_n (lv' := [(3, .long ((1 : Int64) - (gLA gT 92 ((gI gT 93) - (1 : Int32)).toNatClampNeg))), (5, .int (gIA gT 16 x0.toNatClampNeg)), (2, .int (gIA gT 15 x0.toNatClampNeg)), (0, .ref hT), (1, .int x0)]) hx hb dX12_done_304 rfl hl (by decide) rfl (fun ls hl => ?_)
                      refine lv_goto (tgt := 403) hx hb dX12_done_305 (by decide) ?_
                      exact (k_X12_done_403 l D hT aT yT n) C X (lv_sub hl [3, 0] rfl) hF
                    · replace hF := iF c8 hF
                      by_cases c9 : (gIA gT 14 x0.toNatClampNeg) = (9 : Int32)
                      · replace hF := iT c9 hF
                        refine lv_tableIn (tgt := 308) (off := 144) hx hb dX12_done_164 (by rw [c9]; decide) (by rw [c9]; decide) (by rw [c9]; rfl) (by decide) ?_
                        refine lv_aload_n hx hb dX12_done_308 rfl (lv_at hl 3 rfl) ?_
                        refine lv_lload_n hx hb dX12_done_309 rfl (lv_at hl 1 rfl) ?_
                        refine lv_iload hx hb dX12_done_310 (lv_at hl 0 rfl) ?_
                        refine lv_iload_n hx hb dX12_done_312 rfl (lv_at hl 2 rfl) ?_
                        obtain ⟨q_47, hc_48, hF⟩ := bnd_some hF
                        refine cV_l (As := [.long (gLA gT 92 ((gI gT 93) - (1 : Int32)).toNatClampNeg), .int (gIA gT 16 x0.toNatClampNeg), .int (gIA gT 15 x0.toNatClampNeg)]) (rest := []) C X (c_X12_become l D hT aT yT n gT (gLA gT 92 ((gI gT 93) - (1 : Int32)).toNatClampNeg) (gIA gT 16 x0.toNatClampNeg) (gIA gT 15 x0.toNatClampNeg) q_47 hc_48 _) (cwV 3 hts (good_V q8_136 q8_138 q0_73 q1_9 q8_139) rfl rfl rfl (by decide +kernel) ⟨Nat.le_of_ble_eq_true rfl, Nat.le_of_ble_eq_true rfl⟩) (va_recv X.1 X.2.1 (ci := 12) (q0 := 0) rfl rfl) X.1 X.2.1 X.2.2.1 (free_all X) hl.1 rfl rfl (Nat.le_of_ble_eq_true rfl) dX12_done_313 ⟨Nat.le_of_ble_eq_true rfl, Nat.le_of_ble_eq_true rfl⟩ (fun t H1 locs1 ht hB hk hS => ?_)
                        have X : Hx D (tX12 yT) A s H1 locs1 (wX12 hT aT yT q_47.2) := Hx_after_all X ht hB hS
                        clear hk hS ht hB
                        generalize H1 = H at X ⊢
                        generalize locs1 = locs at X ⊢
                        refine lv_lstore_n (lv' := [(3, .long q_47.1), (5, .int (gIA gT 16 x0.toNatClampNeg)), (2, .int (gIA gT 15 x0.toNatClampNeg)), (0, .ref hT), (1, .int x0)]) hx hb dX12_done_316 rfl hl (by decide) rfl (fun ls hl => ?_)
                        refine lv_iload_n hx hb dX12_done_317 rfl (lv_at hl 2 rfl) ?_
                        refine lv_bipush (v := (6 : Int32)) hx hb dX12_done_318 (by decide) ?_
                        refine lv_icmp_ne (tgt := 403) hx hb dX12_done_320 (by decide) (fun c => ?_) (fun c => ?_)
                        · replace hF := iF c hF
                          exact (k_X12_done_403 l D hT aT yT n) C X (lv_sub hl [3, 0] rfl) hF
                        · replace hF := iT c hF
                          refine lv_iload hx hb dX12_done_323 (lv_at hl 1 rfl) ?_
                          refine lv_bipush (v := (7 : Int32)) hx hb dX12_done_325 (by decide) ?_
                          refine lv_icmp_ne (tgt := 403) hx hb dX12_done_327 (by decide) (fun c => ?_) (fun c => ?_)
                          · replace hF := iF c hF
                            exact (k_X12_done_403 l D hT aT yT n) C X (lv_sub hl [3, 0] rfl) hF
                          · replace hF := iT c hF
                            refine lv_lload_n hx hb dX12_done_330 rfl (lv_at hl 0 rfl) ?_
                            refine lv_ldc2 hx hb hown (hts _ q8_99) dX12_done_331 ?_
                            refine W.lcmp hx hb dX12_done_334 ?_
                            refine lv_if_ne (tgt := 403) hx hb dX12_done_335 (by decide) (fun c => ?_) (fun c => ?_)
                            · have c := fun h => c ((lg_cmp_eq _ _).mpr h)
                              replace hF := iF c hF
                              exact (k_X12_done_403 l D hT aT yT n) C X (lv_sub hl [3, 0] rfl) hF
                            · have c := (lg_cmp_eq _ _).mp c
                              replace hF := iT c hF
                              refine lv_aload_n hx hb dX12_done_338 rfl (lv_at hl 3 rfl) ?_
                              refine lv_iconst (v := (3 : Int32)) hx hb dX12_done_339 (by decide) ?_
                              refine lv_aload_n hx hb dX12_done_340 rfl (lv_at hl 3 rfl) ?_
                              refine va_get (D := D.1) (ci := 12) (v := .ref (aT 17)) (C := RX12) (T := TX12) (N := 114) hx hb hts wi_X12 hown X.1 X.2.1 0 rfl rfl 17 (by decide) (hts _ q6_211) (fun _ h9 => h9) (fl_get (by decide)) dX12_done_341 ?_
                              refine lv_iload_n hx hb dX12_done_344 rfl (lv_at hl 4 rfl) ?_
                              obtain ⟨h_49, hF⟩ := grd_some hF
                              refine va_iald (D := D.1) (f := gIA q_47.2 17) hx hb X.1 X.2.1 12 11 rfl rfl (inB_ok h_49) dX12_done_345 ?_
                              obtain ⟨q_50, hc_51, hF⟩ := bnd_some hF
                              refine cV_i (As := [.int (3 : Int32), .int (gIA q_47.2 17 x0.toNatClampNeg)]) (rest := []) C X (c_X12_jams l D hT aT yT q_47.2 (3 : Int32) (gIA q_47.2 17 x0.toNatClampNeg) q_50 hc_51 _) (cwV 2 hts (good_V q9_110 q9_112 q0_117 q1_9 q9_113) rfl rfl rfl (by decide +kernel) ⟨Nat.le_of_ble_eq_true rfl, Nat.le_of_ble_eq_true rfl⟩) (va_recv X.1 X.2.1 (ci := 12) (q0 := 0) rfl rfl) X.1 X.2.1 X.2.2.1 (free_all X) hl.1 rfl rfl (Nat.le_of_ble_eq_true rfl) dX12_done_346 ⟨Nat.le_of_ble_eq_true rfl, Nat.le_of_ble_eq_true rfl⟩ (fun t H1 locs1 ht hB hk hS => ?_)
                              have X : Hx D (tX12 yT) A s H1 locs1 (wX12 hT aT yT q_50.2) := Hx_after_all X ht hB hS
                              clear hk hS ht hB
                              generalize H1 = H at X ⊢
                              generalize locs1 = locs at X ⊢
                              obtain ⟨h_52, hF⟩ := grd_some hF
                              have hq := Option.some.inj hF
                              subst hq
                              exact rt_z (v := q_50.1) C X (zB_n h_52) dX12_done_349
                      · replace hF := iF c9 hF
                        by_cases c10 : (gIA gT 14 x0.toNatClampNeg) = (10 : Int32)
                        · replace hF := iT c10 hF
                          refine lv_tableIn (tgt := 350) (off := 186) hx hb dX12_done_164 (by rw [c10]; decide) (by rw [c10]; decide) (by rw [c10]; rfl) (by decide) ?_
                          refine lv_aload_n hx hb dX12_done_350 rfl (lv_at hl 3 rfl) ?_
                          refine lv_lload_n hx hb dX12_done_351 rfl (lv_at hl 1 rfl) ?_
                          refine lv_iload hx hb dX12_done_352 (lv_at hl 0 rfl) ?_
                          refine lv_bipush (v := (7 : Int32)) hx hb dX12_done_354 (by decide) ?_
                          obtain ⟨q_53, hc_54, hF⟩ := bnd_some hF
                          refine cV_l (As := [.long (gLA gT 92 ((gI gT 93) - (1 : Int32)).toNatClampNeg), .int (gIA gT 16 x0.toNatClampNeg), .int (7 : Int32)]) (rest := []) C X (c_X12_become l D hT aT yT n gT (gLA gT 92 ((gI gT 93) - (1 : Int32)).toNatClampNeg) (gIA gT 16 x0.toNatClampNeg) (7 : Int32) q_53 hc_54 _) (cwV 3 hts (good_V q8_136 q8_138 q0_73 q1_9 q8_139) rfl rfl rfl (by decide +kernel) ⟨Nat.le_of_ble_eq_true rfl, Nat.le_of_ble_eq_true rfl⟩) (va_recv X.1 X.2.1 (ci := 12) (q0 := 0) rfl rfl) X.1 X.2.1 X.2.2.1 (free_all X) hl.1 rfl rfl (Nat.le_of_ble_eq_true rfl) dX12_done_356 ⟨Nat.le_of_ble_eq_true rfl, Nat.le_of_ble_eq_true rfl⟩ (fun t H1 locs1 ht hB hk hS => ?_)
                          have X : Hx D (tX12 yT) A s H1 locs1 (wX12 hT aT yT q_53.2) := Hx_after_all X ht hB hS
                          clear hk hS ht hB
                          generalize H1 = H at X ⊢
                          generalize locs1 = locs at X ⊢
                          refine lv_lstore_n (lv' := [(3, .long q_53.1), (5, .int (gIA gT 16 x0.toNatClampNeg)), (2, .int (gIA gT 15 x0.toNatClampNeg)), (0, .ref hT), (1, .int x0)]) hx hb dX12_done_359 rfl hl (by decide) rfl (fun ls hl => ?_)
                          refine lv_iload_n hx hb dX12_done_360 rfl (lv_at hl 2 rfl) ?_
                          refine lv_sipush (v := (212 : Int32)) hx hb dX12_done_361 (by decide) ?_
                          refine lv_icmp_ne (tgt := 374) hx hb dX12_done_364 (by decide) (fun c => ?_) (fun c => ?_)
                          · replace hF := iF c hF
                            refine lv_aload_n hx hb dX12_done_374 rfl (lv_at hl 3 rfl) ?_
                            refine lv_lload_n hx hb dX12_done_375 rfl (lv_at hl 0 rfl) ?_
                            refine lv_iload_n hx hb dX12_done_376 rfl (lv_at hl 2 rfl) ?_
                            refine lv_sipush (v := (209 : Int32)) hx hb dX12_done_377 (by decide) ?_
                            refine lv_isub hx hb dX12_done_380 ?_
                            obtain ⟨q_55, hc_56, hF⟩ := bnd_some hF
                            refine cV_l (As := [.long q_53.1, .int ((gIA gT 15 x0.toNatClampNeg) - (209 : Int32))]) (rest := []) C X (c_X12_evened l D hT aT yT n q_53.2 q_53.1 ((gIA gT 15 x0.toNatClampNeg) - (209 : Int32)) q_55 hc_56 _) (cwV 2 hts (good_V q9_134 q9_136 q0_120 q1_9 q9_137) rfl rfl rfl (by decide +kernel) ⟨Nat.le_of_ble_eq_true rfl, Nat.le_of_ble_eq_true rfl⟩) (va_recv X.1 X.2.1 (ci := 12) (q0 := 0) rfl rfl) X.1 X.2.1 X.2.2.1 (free_all X) hl.1 rfl rfl (Nat.le_of_ble_eq_true rfl) dX12_done_381 ⟨Nat.le_of_ble_eq_true rfl, Nat.le_of_ble_eq_true rfl⟩ (fun t H1 locs1 ht hB hk hS => ?_)
                            have X : Hx D (tX12 yT) A s H1 locs1 (wX12 hT aT yT q_55.2) := Hx_after_all X ht hB hS
                            clear hk hS ht hB
                            generalize H1 = H at X ⊢
                            generalize locs1 = locs at X ⊢
                            exact (k_X12_done_384 l D hT aT yT n) C X (lv_sub hl [3] rfl) hF
                          · replace hF := iT c hF
                            refine lv_lload_n hx hb dX12_done_367 rfl (lv_at hl 0 rfl) ?_
                            obtain ⟨q_57, hc_58, hF⟩ := bnd_some hF
                            refine cS_l (As := [.long q_53.1]) (rest := []) C X (c_X12_withoutSign l D  q_53.1 q_57 hc_58 _) (va_cwS 1 hts (good_S q9_89 q9_90 q1_9 q9_91) rfl rfl rfl (by decide +kernel) ⟨Nat.le_of_ble_eq_true rfl, Nat.le_of_ble_eq_true rfl⟩) (eK X) eP (eD (A := A)) (eF X) hl.1 rfl rfl (Nat.le_of_ble_eq_true rfl) dX12_done_368 ⟨Nat.le_of_ble_eq_true rfl, Nat.le_of_ble_eq_true rfl⟩ (fun t H1 locs1 ht hB hk hS => ?_)
                            have X := Hx_after_none X hk hS
                            clear hk hS ht hB
                            generalize H1 = H at X ⊢
                            generalize locs1 = locs at X ⊢
                            refine lv_goto (tgt := 384) hx hb dX12_done_371 (by decide) ?_
                            exact (k_X12_done_384 l D hT aT yT n) C X (lv_sub hl [3] rfl) hF
                        · replace hF := iF c10 hF
                          refine lv_tableOut (tgt := 388) hx hb dX12_done_164 (tbl_out (6) (10) 5 (by decide) ⟨tne c6 (by decide), ⟨tne c7 (by decide), ⟨tne c8 (by decide), ⟨tne c9 (by decide), ⟨tne c10 (by decide), trivial⟩⟩⟩⟩⟩) (by decide) ?_
                          refine lv_aload_n hx hb dX12_done_388 rfl (lv_at hl 3 rfl) ?_
                          refine lv_lload_n hx hb dX12_done_389 rfl (lv_at hl 1 rfl) ?_
                          refine lv_iload hx hb dX12_done_390 (lv_at hl 0 rfl) ?_
                          refine lv_iconst (v := (3 : Int32)) hx hb dX12_done_392 (by decide) ?_
                          refine lv_ishr hx hb dX12_done_393 ?_
                          refine lv_iload hx hb dX12_done_394 (lv_at hl 0 rfl) ?_
                          refine lv_bipush (v := (7 : Int32)) hx hb dX12_done_396 (by decide) ?_
                          refine lv_iand hx hb dX12_done_398 ?_
                          obtain ⟨q_59, hc_60, hF⟩ := bnd_some hF
                          refine cV_l (As := [.long (gLA gT 92 ((gI gT 93) - (1 : Int32)).toNatClampNeg), .int ((gIA gT 16 x0.toNatClampNeg) >>> ((3 : Int32) &&& 31)), .int ((gIA gT 16 x0.toNatClampNeg) &&& (7 : Int32))]) (rest := []) C X (c_X12_become l D hT aT yT n gT (gLA gT 92 ((gI gT 93) - (1 : Int32)).toNatClampNeg) ((gIA gT 16 x0.toNatClampNeg) >>> ((3 : Int32) &&& 31)) ((gIA gT 16 x0.toNatClampNeg) &&& (7 : Int32)) q_59 hc_60 _) (cwV 3 hts (good_V q8_136 q8_138 q0_73 q1_9 q8_139) rfl rfl rfl (by decide +kernel) ⟨Nat.le_of_ble_eq_true rfl, Nat.le_of_ble_eq_true rfl⟩) (va_recv X.1 X.2.1 (ci := 12) (q0 := 0) rfl rfl) X.1 X.2.1 X.2.2.1 (free_all X) hl.1 rfl rfl (Nat.le_of_ble_eq_true rfl) dX12_done_399 ⟨Nat.le_of_ble_eq_true rfl, Nat.le_of_ble_eq_true rfl⟩ (fun t H1 locs1 ht hB hk hS => ?_)
                          have X : Hx D (tX12 yT) A s H1 locs1 (wX12 hT aT yT q_59.2) := Hx_after_all X ht hB hS
                          clear hk hS ht hB
                          generalize H1 = H at X ⊢
                          generalize locs1 = locs at X ⊢
                          refine lv_lstore_n (lv' := [(3, .long q_59.1), (5, .int (gIA gT 16 x0.toNatClampNeg)), (2, .int (gIA gT 15 x0.toNatClampNeg)), (0, .ref hT), (1, .int x0)]) hx hb dX12_done_402 rfl hl (by decide) rfl (fun ls hl => ?_)
                          exact (k_X12_done_403 l D hT aT yT n) C X (lv_sub hl [3, 0] rfl) hF
              · replace hF := iF c7 hF
                by_cases c8 : (gIA gT 14 x0.toNatClampNeg) = (8 : Int32)
                · replace hF := iT c8 hF
                  refine lv_tableIn (tgt := 138) (off := 125) hx hb dX12_done_13 (by rw [c8]; decide) (by rw [c8]; decide) (by rw [c8]; rfl) (by decide) ?_
                  refine lv_aload_n hx hb dX12_done_138 rfl (lv_at hl 1 rfl) ?_
                  refine va_get (D := D.1) (ci := 12) (v := .ref (aT 92)) (C := RX12) (T := TX12) (N := 114) hx hb hts wi_X12 hown X.1 X.2.1 0 rfl rfl 92 (by decide) (hts _ q7_46) (fun _ h9 => h9) (fl_get (by decide)) dX12_done_139 ?_
                  refine lv_aload_n hx hb dX12_done_142 rfl (lv_at hl 1 rfl) ?_
                  refine va_get (D := D.1) (ci := 12) (v := .int (gI gT 93)) (C := RX12) (T := TX12) (N := 114) hx hb hts wi_X12 hown X.1 X.2.1 0 rfl rfl 93 (by decide) (hts _ q7_47) (fun _ h9 => h9) (fl_get (by decide)) dX12_done_143 ?_
                  refine lv_iconst (v := (1 : Int32)) hx hb dX12_done_146 (by decide) ?_
                  refine lv_isub hx hb dX12_done_147 ?_
                  obtain ⟨h_61, hF⟩ := grd_some hF
                  refine va_lald (D := D.1) (f := gLA gT 92) hx hb X.1 X.2.1 63 62 rfl rfl (inB_ok h_61) dX12_done_148 ?_
                  refine lv_lstore_n (lv' := [(3, .long (gLA gT 92 ((gI gT 93) - (1 : Int32)).toNatClampNeg)), (2, .int (gIA gT 15 x0.toNatClampNeg)), (0, .ref hT), (1, .int x0)]) hx hb dX12_done_149 rfl hl (by decide) rfl (fun ls hl => ?_)
                  refine lv_aload_n hx hb dX12_done_150 rfl (lv_at hl 2 rfl) ?_
                  refine va_get (D := D.1) (ci := 12) (v := .ref (aT 16)) (C := RX12) (T := TX12) (N := 114) hx hb hts wi_X12 hown X.1 X.2.1 0 rfl rfl 16 (by decide) (hts _ q6_210) (fun _ h9 => h9) (fl_get (by decide)) dX12_done_151 ?_
                  refine lv_iload_n hx hb dX12_done_154 rfl (lv_at hl 3 rfl) ?_
                  obtain ⟨h_62, hF⟩ := grd_some hF
                  refine va_iald (D := D.1) (f := gIA gT 16) hx hb X.1 X.2.1 11 10 rfl rfl (inB_ok h_62) dX12_done_155 ?_
                  refine lv_istore (lv' := [(5, .int (gIA gT 16 x0.toNatClampNeg)), (3, .long (gLA gT 92 ((gI gT 93) - (1 : Int32)).toNatClampNeg)), (2, .int (gIA gT 15 x0.toNatClampNeg)), (0, .ref hT), (1, .int x0)]) hx hb dX12_done_156 hl (by decide) rfl (fun ls hl => ?_)
                  refine lv_aload_n hx hb dX12_done_158 rfl (lv_at hl 3 rfl) ?_
                  refine va_get (D := D.1) (ci := 12) (v := .ref (aT 14)) (C := RX12) (T := TX12) (N := 114) hx hb hts wi_X12 hown X.1 X.2.1 0 rfl rfl 14 (by decide) (hts _ q6_208) (fun _ h9 => h9) (fl_get (by decide)) dX12_done_159 ?_
                  refine lv_iload_n hx hb dX12_done_162 rfl (lv_at hl 4 rfl) ?_
                  obtain ⟨h_63, hF⟩ := grd_some hF
                  refine va_iald (D := D.1) (f := gIA gT 14) hx hb X.1 X.2.1 9 8 rfl rfl (inB_ok h_63) dX12_done_163 ?_
                  by_cases c6 : (gIA gT 14 x0.toNatClampNeg) = (6 : Int32)
                  · replace hF := iT c6 hF
                    refine lv_tableIn (tgt := 200) (off := 36) hx hb dX12_done_164 (by rw [c6]; decide) (by rw [c6]; decide) (by rw [c6]; rfl) (by decide) ?_
                    refine lv_lload_n hx hb dX12_done_200 rfl (lv_at hl 1 rfl) ?_
                    refine lv_lconst (v := (0 : Int64)) hx hb dX12_done_201 (by decide) ?_
                    refine W.lcmp hx hb dX12_done_202 ?_
                    refine lv_if_lt (tgt := 218) hx hb dX12_done_203 (by decide) (fun c => ?_) (fun c => ?_)
                    · have c := (lg_cmp_lt _ _).mp c
                      replace hF := iT c hF
                      exact (k_X12_done_218 l D hT aT yT n) C X (lv_sub hl [3, 4] rfl) hF
                    · have c := fun h => c ((lg_cmp_lt _ _).mpr h)
                      replace hF := iF c hF
                      refine lv_lload_n hx hb dX12_done_206 rfl (lv_at hl 1 rfl) ?_
                      refine lv_aload_n hx hb dX12_done_207 rfl (lv_at hl 3 rfl) ?_
                      refine va_get (D := D.1) (ci := 12) (v := .ref (aT 78)) (C := RX12) (T := TX12) (N := 114) hx hb hts wi_X12 hown X.1 X.2.1 0 rfl rfl 78 (by decide) (hts _ q7_32) (fun _ h9 => h9) (fl_get (by decide)) dX12_done_208 ?_
                      refine lv_iload_n hx hb dX12_done_211 rfl (lv_at hl 2 rfl) ?_
                      obtain ⟨h_64, hF⟩ := grd_some hF
                      refine va_iald (D := D.1) (f := gIA gT 78) hx hb X.1 X.2.1 52 51 rfl rfl (inB_ok h_64) dX12_done_212 ?_
                      refine lv_i2l hx hb dX12_done_213 rfl ?_
                      refine W.lcmp hx hb dX12_done_214 ?_
                      refine lv_if_lt (tgt := 230) hx hb dX12_done_215 (by decide) (fun c => ?_) (fun c => ?_)
                      · have c := (lg_cmp_lt _ _).mp c
                        replace hF := iT c hF
                        refine lv_aload_n hx hb dX12_done_230 rfl (lv_at hl 3 rfl) ?_
                        refine va_get (D := D.1) (ci := 12) (v := .ref (aT 79)) (C := RX12) (T := TX12) (N := 114) hx hb hts wi_X12 hown X.1 X.2.1 0 rfl rfl 79 (by decide) (hts _ q7_33) (fun _ h9 => h9) (fl_get (by decide)) dX12_done_231 ?_
                        refine lv_bipush (v := (24 : Int32)) hx hb dX12_done_234 (by decide) ?_
                        refine lv_iload_n hx hb dX12_done_236 rfl (lv_at hl 2 rfl) ?_
                        refine lv_imul hx hb dX12_done_237 ?_
                        refine lv_lload_n hx hb dX12_done_238 rfl (lv_at hl 1 rfl) ?_
                        refine lv_l2i hx hb dX12_done_239 rfl ?_
                        refine lv_iadd hx hb dX12_done_240 ?_
                        obtain ⟨h_65, hF⟩ := grd_some hF
                        refine va_lald (D := D.1) (f := gLA gT 79) hx hb X.1 X.2.1 53 52 rfl rfl (inB_ok h_65) dX12_done_241 ?_
                        refine lv_lstore_n (lv' := [(3, .long (gLA gT 79 (((24 : Int32) * (gIA gT 15 x0.toNatClampNeg)) + ((gLA gT 92 ((gI gT 93) - (1 : Int32)).toNatClampNeg).toInt32)).toNatClampNeg)), (5, .int (gIA gT 16 x0.toNatClampNeg)), (2, .int (gIA gT 15 x0.toNatClampNeg)), (0, .ref hT), (1, .int x0)]) hx hb dX12_done_242 rfl hl (by decide) rfl (fun ls hl => ?_)
                        refine lv_goto (tgt := 403) hx hb dX12_done_243 (by decide) ?_
                        exact (k_X12_done_403 l D hT aT yT n) C X (lv_sub hl [3, 0] rfl) hF
                      · have c := fun h => c ((lg_cmp_lt _ _).mpr h)
                        replace hF := iF c hF
                        exact (k_X12_done_218 l D hT aT yT n) C X (lv_sub hl [3, 4] rfl) hF
                  · replace hF := iF c6 hF
                    by_cases c7 : (gIA gT 14 x0.toNatClampNeg) = (7 : Int32)
                    · replace hF := iT c7 hF
                      refine lv_tableIn (tgt := 246) (off := 82) hx hb dX12_done_164 (by rw [c7]; decide) (by rw [c7]; decide) (by rw [c7]; rfl) (by decide) ?_
                      refine lv_iload hx hb dX12_done_246 (lv_at hl 0 rfl) ?_
                      refine lv_bipush (v := (7 : Int32)) hx hb dX12_done_248 (by decide) ?_
                      refine lv_icmp_ne (tgt := 262) hx hb dX12_done_250 (by decide) (fun c => ?_) (fun c => ?_)
                      · replace hF := iF c hF
                        refine lv_iload hx hb dX12_done_262 (lv_at hl 0 rfl) ?_
                        refine lv_bipush (v := (6 : Int32)) hx hb dX12_done_264 (by decide) ?_
                        refine lv_icmp_ne (tgt := 280) hx hb dX12_done_266 (by decide) (fun c => ?_) (fun c => ?_)
                        · replace hF := iF c hF
                          refine lv_lload_n hx hb dX12_done_280 rfl (lv_at hl 1 rfl) ?_
                          refine lv_lneg hx hb dX12_done_281 ?_
                          refine lv_iload hx hb dX12_done_282 (lv_at hl 0 rfl) ?_
                          refine lv_iconst (v := (4 : Int32)) hx hb dX12_done_284 (by decide) ?_
                          refine lv_icmp_ge (tgt := 292) hx hb dX12_done_285 (by decide) (fun c => ?_) (fun c => ?_)
                          · replace hF := iT c hF
                            refine lv_iload hx hb dX12_done_292 (lv_at hl 0 rfl) ?_
                            exact (k_X12_done_294 l D hT aT yT n) C X (lv_sub hl [3] rfl) hF
                          · replace hF := iF c hF
                            refine lv_iconst (v := (4 : Int32)) hx hb dX12_done_288 (by decide) ?_
                            refine lv_goto (tgt := 294) hx hb dX12_done_289 (by decide) ?_
                            exact (k_X12_done_294 l D hT aT yT n) C X (lv_sub hl [3] rfl) hF
                        · replace hF := iT c hF
                          refine lv_lload_n hx hb dX12_done_269 rfl (lv_at hl 1 rfl) ?_
                          refine lv_l2i hx hb dX12_done_270 rfl ?_
                          refine lv_ldcw hx hb hown (hts _ q9_133) dX12_done_271 ?_
                          refine lv_ixor hx hb dX12_done_274 ?_
                          refine lv_i2l hx hb dX12_done_275 rfl ?_
                          refine lv_lstore_n (lv' := [(3, .long ((((gLA gT 92 ((gI gT 93) - (1 : Int32)).toNatClampNeg).toInt32) ^^^ (-2147483648 : Int32)).toInt64)), (5, .int (gIA gT 16 x0.toNatClampNeg)), (2, .int (gIA gT 15 x0.toNatClampNeg)), (0, .ref hT), (1, .int x0)]) hx hb dX12_done_276 rfl hl (by decide) rfl (fun ls hl => ?_)
                          refine lv_goto (tgt := 403) hx hb dX12_done_277 (by decide) ?_
                          exact (k_X12_done_403 l D hT aT yT n) C X (lv_sub hl [3, 0] rfl) hF
                      · replace hF := iT c hF
                        refine lv_lload_n hx hb dX12_done_253 rfl (lv_at hl 1 rfl) ?_
                        refine lv_ldc2 hx hb hown (hts _ q8_135) dX12_done_254 ?_
                        refine lv_lxor hx hb dX12_done_257 ?_
                        refine lv_lstore_n (lv' := [(3, .long ((gLA gT 92 ((gI gT 93) - (1 : Int32)).toNatClampNeg) ^^^ (-9223372036854775808 : Int64))), (5, .int (gIA gT 16 x0.toNatClampNeg)), (2, .int (gIA gT 15 x0.toNatClampNeg)), (0, .ref hT), (1, .int x0)]) hx hb dX12_done_258 rfl hl (by decide) rfl (fun ls hl => ?_)
                        refine lv_goto (tgt := 403) hx hb dX12_done_259 (by decide) ?_
                        exact (k_X12_done_403 l D hT aT yT n) C X (lv_sub hl [3, 0] rfl) hF
                    · replace hF := iF c7 hF
                      by_cases c8 : (gIA gT 14 x0.toNatClampNeg) = (8 : Int32)
                      · replace hF := iT c8 hF
                        refine lv_tableIn (tgt := 301) (off := 137) hx hb dX12_done_164 (by rw [c8]; decide) (by rw [c8]; decide) (by rw [c8]; rfl) (by decide) ?_
                        refine lv_lconst (v := (1 : Int64)) hx hb dX12_done_301 (by decide) ?_
                        refine lv_lload_n hx hb dX12_done_302 rfl (lv_at hl 1 rfl) ?_
                        refine lv_lsub hx hb dX12_done_303 ?_
                        refine lv_lstore_n (lv' := [(3, .long ((1 : Int64) - (gLA gT 92 ((gI gT 93) - (1 : Int32)).toNatClampNeg))), (5, .int (gIA gT 16 x0.toNatClampNeg)), (2, .int (gIA gT 15 x0.toNatClampNeg)), (0, .ref hT), (1, .int x0)]) hx hb dX12_done_304 rfl hl (by decide) rfl (fun ls hl => ?_)
                        refine lv_goto (tgt := 403) hx hb dX12_done_305 (by decide) ?_
                        exact (k_X12_done_403 l D hT aT yT n) C X (lv_sub hl [3, 0] rfl) hF
                      · replace hF := iF c8 hF
                        by_cases c9 : (gIA gT 14 x0.toNatClampNeg) = (9 : Int32)
                        · replace hF := iT c9 hF
                          refine lv_tableIn (tgt := 308) (off := 144) hx hb dX12_done_164 (by rw [c9]; decide) (by rw [c9]; decide) (by rw [c9]; rfl) (by decide) ?_
                          refine lv_aload_n hx hb dX12_done_308 rfl (lv_at hl 3 rfl) ?_
                          refine lv_lload_n hx hb dX12_done_309 rfl (lv_at hl 1 rfl) ?_
                          refine lv_iload hx hb dX12_done_310 (lv_at hl 0 rfl) ?_
                          refine lv_iload_n hx hb dX12_done_312 rfl (lv_at hl 2 rfl) ?_
                          obtain ⟨q_66, hc_67, hF⟩ := bnd_some hF
                          refine cV_l (As := [.long (gLA gT 92 ((gI gT 93) - (1 : Int32)).toNatClampNeg), .int (gIA gT 16 x0.toNatClampNeg), .int (gIA gT 15 x0.toNatClampNeg)]) (rest := []) C X (c_X12_become l D hT aT yT n gT (gLA gT 92 ((gI gT 93) - (1 : Int32)).toNatClampNeg) (gIA gT 16 x0.toNatClampNeg) (gIA gT 15 x0.toNatClampNeg) q_66 hc_67 _) (cwV 3 hts (good_V q8_136 q8_138 q0_73 q1_9 q8_139) rfl rfl rfl (by decide +kernel) ⟨Nat.le_of_ble_eq_true rfl, Nat.le_of_ble_eq_true rfl⟩) (va_recv X.1 X.2.1 (ci := 12) (q0 := 0) rfl rfl) X.1 X.2.1 X.2.2.1 (free_all X) hl.1 rfl rfl (Nat.le_of_ble_eq_true rfl) dX12_done_313 ⟨Nat.le_of_ble_eq_true rfl, Nat.le_of_ble_eq_true rfl⟩ (fun t H1 locs1 ht hB hk hS => ?_)
                          have X : Hx D (tX12 yT) A s H1 locs1 (wX12 hT aT yT q_66.2) := Hx_after_all X ht hB hS
                          clear hk hS ht hB
                          generalize H1 = H at X ⊢
                          generalize locs1 = locs at X ⊢
                          refine lv_lstore_n (lv' := [(3, .long q_66.1), (5, .int (gIA gT 16 x0.toNatClampNeg)), (2, .int (gIA gT 15 x0.toNatClampNeg)), (0, .ref hT), (1, .int x0)]) hx hb dX12_done_316 rfl hl (by decide) rfl (fun ls hl => ?_)
                          refine lv_iload_n hx hb dX12_done_317 rfl (lv_at hl 2 rfl) ?_
                          refine lv_bipush (v := (6 : Int32)) hx hb dX12_done_318 (by decide) ?_
                          refine lv_icmp_ne (tgt := 403) hx hb dX12_done_320 (by decide) (fun c => ?_) (fun c => ?_)
                          · replace hF := iF c hF
                            exact (k_X12_done_403 l D hT aT yT n) C X (lv_sub hl [3, 0] rfl) hF
                          · replace hF := iT c hF
                            refine lv_iload hx hb dX12_done_323 (lv_at hl 1 rfl) ?_
                            refine lv_bipush (v := (7 : Int32)) hx hb dX12_done_325 (by decide) ?_
                            refine lv_icmp_ne (tgt := 403) hx hb dX12_done_327 (by decide) (fun c => ?_) (fun c => ?_)
                            · replace hF := iF c hF
                              exact (k_X12_done_403 l D hT aT yT n) C X (lv_sub hl [3, 0] rfl) hF
                            · replace hF := iT c hF
                              refine lv_lload_n hx hb dX12_done_330 rfl (lv_at hl 0 rfl) ?_
                              refine lv_ldc2 hx hb hown (hts _ q8_99) dX12_done_331 ?_
                              refine W.lcmp hx hb dX12_done_334 ?_
                              refine lv_if_ne (tgt := 403) hx hb dX12_done_335 (by decide) (fun c => ?_) (fun c => ?_)
                              · have c := fun h => c ((lg_cmp_eq _ _).mpr h)
                                replace hF := iF c hF
                                exact (k_X12_done_403 l D hT aT yT n) C X (lv_sub hl [3, 0] rfl) hF
                              · have c := (lg_cmp_eq _ _).mp c
                                replace hF := iT c hF
                                refine lv_aload_n hx hb dX12_done_338 rfl (lv_at hl 3 rfl) ?_
                                refine lv_iconst (v := (3 : Int32)) hx hb dX12_done_339 (by decide) ?_
                                refine lv_aload_n hx hb dX12_done_340 rfl (lv_at hl 3 rfl) ?_
                                refine va_get (D := D.1) (ci := 12) (v := .ref (aT 17)) (C := RX12) (T := TX12) (N := 114) hx hb hts wi_X12 hown X.1 X.2.1 0 rfl rfl 17 (by decide) (hts _ q6_211) (fun _ h9 => h9) (fl_get (by decide)) dX12_done_341 ?_
                                refine lv_iload_n hx hb dX12_done_344 rfl (lv_at hl 4 rfl) ?_
                                obtain ⟨h_68, hF⟩ := grd_some hF
                                refine va_iald (D := D.1) (f := gIA q_66.2 17) hx hb X.1 X.2.1 12 11 rfl rfl (inB_ok h_68) dX12_done_345 ?_
                                obtain ⟨q_69, hc_70, hF⟩ := bnd_some hF
                                refine cV_i (As := [.int (3 : Int32), .int (gIA q_66.2 17 x0.toNatClampNeg)]) (rest := []) C X (c_X12_jams l D hT aT yT q_66.2 (3 : Int32) (gIA q_66.2 17 x0.toNatClampNeg) q_69 hc_70 _) (cwV 2 hts (good_V q9_110 q9_112 q0_117 q1_9 q9_113) rfl rfl rfl (by decide +kernel) ⟨Nat.le_of_ble_eq_true rfl, Nat.le_of_ble_eq_true rfl⟩) (va_recv X.1 X.2.1 (ci := 12) (q0 := 0) rfl rfl) X.1 X.2.1 X.2.2.1 (free_all X) hl.1 rfl rfl (Nat.le_of_ble_eq_true rfl) dX12_done_346 ⟨Nat.le_of_ble_eq_true rfl, Nat.le_of_ble_eq_true rfl⟩ (fun t H1 locs1 ht hB hk hS => ?_)
                                have X : Hx D (tX12 yT) A s H1 locs1 (wX12 hT aT yT q_69.2) := Hx_after_all X ht hB hS
                                clear hk hS ht hB
                                generalize H1 = H at X ⊢
                                generalize locs1 = locs at X ⊢
                                obtain ⟨h_71, hF⟩ := grd_some hF
                                have hq := Option.some.inj hF
                                subst hq
                                exact rt_z (v := q_69.1) C X (zB_n h_71) dX12_done_349
                        · replace hF := iF c9 hF
                          by_cases c10 : (gIA gT 14 x0.toNatClampNeg) = (10 : Int32)
                          · replace hF := iT c10 hF
                            refine lv_tableIn (tgt := 350) (off := 186) hx hb dX12_done_164 (by rw [c10]; decide) (by rw [c10]; decide) (by rw [c10]; rfl) (by decide) ?_
                            refine lv_aload_n hx hb dX12_done_350 rfl (lv_at hl 3 rfl) ?_
                            refine lv_lload_n hx hb dX12_done_351 rfl (lv_at hl 1 rfl) ?_
                            refine lv_iload hx hb dX12_done_352 (lv_at hl 0 rfl) ?_
                            refine lv_bipush (v := (7 : Int32)) hx hb dX12_done_354 (by decide) ?_
                            obtain ⟨q_72, hc_73, hF⟩ := bnd_some hF
                            refine cV_l (As := [.long (gLA gT 92 ((gI gT 93) - (1 : Int32)).toNatClampNeg), .int (gIA gT 16 x0.toNatClampNeg), .int (7 : Int32)]) (rest := []) C X (c_X12_become l D hT aT yT n gT (gLA gT 92 ((gI gT 93) - (1 : Int32)).toNatClampNeg) (gIA gT 16 x0.toNatClampNeg) (7 : Int32) q_72 hc_73 _) (cwV 3 hts (good_V q8_136 q8_138 q0_73 q1_9 q8_139) rfl rfl rfl (by decide +kernel) ⟨Nat.le_of_ble_eq_true rfl, Nat.le_of_ble_eq_true rfl⟩) (va_recv X.1 X.2.1 (ci := 12) (q0 := 0) rfl rfl) X.1 X.2.1 X.2.2.1 (free_all X) hl.1 rfl rfl (Nat.le_of_ble_eq_true rfl) dX12_done_356 ⟨Nat.le_of_ble_eq_true rfl, Nat.le_of_ble_eq_true rfl⟩ (fun t H1 locs1 ht hB hk hS => ?_)
                            have X : Hx D (tX12 yT) A s H1 locs1 (wX12 hT aT yT q_72.2) := Hx_after_all X ht hB hS
                            clear hk hS ht hB
                            generalize H1 = H at X ⊢
                            generalize locs1 = locs at X ⊢
                            refine lv_lstore_n (lv' := [(3, .long q_72.1), (5, .int (gIA gT 16 x0.toNatClampNeg)), (2, .int (gIA gT 15 x0.toNatClampNeg)), (0, .ref hT), (1, .int x0)]) hx hb dX12_done_359 rfl hl (by decide) rfl (fun ls hl => ?_)
                            refine lv_iload_n hx hb dX12_done_360 rfl (lv_at hl 2 rfl) ?_
                            refine lv_sipush (v := (212 : Int32)) hx hb dX12_done_361 (by decide) ?_
                            refine lv_icmp_ne (tgt := 374) hx hb dX12_done_364 (by decide) (fun c => ?_) (fun c => ?_)
                            · replace hF := iF c hF
                              refine lv_aload_n hx hb dX12_done_374 rfl (lv_at hl 3 rfl) ?_
                              refine lv_lload_n hx hb dX12_done_375 rfl (lv_at hl 0 rfl) ?_
                              refine lv_iload_n hx hb dX12_done_376 rfl (lv_at hl 2 rfl) ?_
                              refine lv_sipush (v := (209 : Int32)) hx hb dX12_done_377 (by decide) ?_
                              refine lv_isub hx hb dX12_done_380 ?_
                              obtain ⟨q_74, hc_75, hF⟩ := bnd_some hF
                              refine cV_l (As := [.long q_72.1, .int ((gIA gT 15 x0.toNatClampNeg) - (209 : Int32))]) (rest := []) C X (c_X12_evened l D hT aT yT n q_72.2 q_72.1 ((gIA gT 15 x0.toNatClampNeg) - (209 : Int32)) q_74 hc_75 _) (cwV 2 hts (good_V q9_134 q9_136 q0_120 q1_9 q9_137) rfl rfl rfl (by decide +kernel) ⟨Nat.le_of_ble_eq_true rfl, Nat.le_of_ble_eq_true rfl⟩) (va_recv X.1 X.2.1 (ci := 12) (q0 := 0) rfl rfl) X.1 X.2.1 X.2.2.1 (free_all X) hl.1 rfl rfl (Nat.le_of_ble_eq_true rfl) dX12_done_381 ⟨Nat.le_of_ble_eq_true rfl, Nat.le_of_ble_eq_true rfl⟩ (fun t H1 locs1 ht hB hk hS => ?_)
                              have X : Hx D (tX12 yT) A s H1 locs1 (wX12 hT aT yT q_74.2) := Hx_after_all X ht hB hS
                              clear hk hS ht hB
                              generalize H1 = H at X ⊢
                              generalize locs1 = locs at X ⊢
                              exact (k_X12_done_384 l D hT aT yT n) C X (lv_sub hl [3] rfl) hF
                            · replace hF := iT c hF
                              refine lv_lload_n hx hb dX12_done_367 rfl (lv_at hl 0 rfl) ?_
                              obtain ⟨q_76, hc_77, hF⟩ := bnd_some hF
                              refine cS_l (As := [.long q_72.1]) (rest := []) C X (c_X12_withoutSign l D  q_72.1 q_76 hc_77 _) (va_cwS 1 hts (good_S q9_89 q9_90 q1_9 q9_91) rfl rfl rfl (by decide +kernel) ⟨Nat.le_of_ble_eq_true rfl, Nat.le_of_ble_eq_true rfl⟩) (eK X) eP (eD (A := A)) (eF X) hl.1 rfl rfl (Nat.le_of_ble_eq_true rfl) dX12_done_368 ⟨Nat.le_of_ble_eq_true rfl, Nat.le_of_ble_eq_true rfl⟩ (fun t H1 locs1 ht hB hk hS => ?_)
                              have X := Hx_after_none X hk hS
                              clear hk hS ht hB
                              generalize H1 = H at X ⊢
                              generalize locs1 = locs at X ⊢
                              refine lv_goto (tgt := 384) hx hb dX12_done_371 (by decide) ?_
                              exact (k_X12_done_384 l D hT aT yT n) C X (lv_sub hl [3] rfl) hF
                          · replace hF := iF c10 hF
                            refine lv_tableOut (tgt := 388) hx hb dX12_done_164 (tbl_out (6) (10) 5 (by decide) ⟨tne c6 (by decide), ⟨tne c7 (by decide), ⟨tne c8 (by decide), ⟨tne c9 (by decide), ⟨tne c10 (by decide), trivial⟩⟩⟩⟩⟩) (by decide) ?_
                            refine lv_aload_n hx hb dX12_done_388 rfl (lv_at hl 3 rfl) ?_
                            refine lv_lload_n hx hb dX12_done_389 rfl (lv_at hl 1 rfl) ?_
                            refine lv_iload hx hb dX12_done_390 (lv_at hl 0 rfl) ?_
                            refine lv_iconst (v := (3 : Int32)) hx hb dX12_done_392 (by decide) ?_
                            refine lv_ishr hx hb dX12_done_393 ?_
                            refine lv_iload hx hb dX12_done_394 (lv_at hl 0 rfl) ?_
                            refine lv_bipush (v := (7 : Int32)) hx hb dX12_done_396 (by decide) ?_
                            refine lv_iand hx hb dX12_done_398 ?_
                            obtain ⟨q_78, hc_79, hF⟩ := bnd_some hF
                            refine cV_l (As := [.long (gLA gT 92 ((gI gT 93) - (1 : Int32)).toNatClampNeg), .int ((gIA gT 16 x0.toNatClampNeg) >>> ((3 : Int32) &&& 31)), .int ((gIA gT 16 x0.toNatClampNeg) &&& (7 : Int32))]) (rest := []) C X (c_X12_become l D hT aT yT n gT (gLA gT 92 ((gI gT 93) - (1 : Int32)).toNatClampNeg) ((gIA gT 16 x0.toNatClampNeg) >>> ((3 : Int32) &&& 31)) ((gIA gT 16 x0.toNatClampNeg) &&& (7 : Int32)) q_78 hc_79 _) (cwV 3 hts (good_V q8_136 q8_138 q0_73 q1_9 q8_139) rfl rfl rfl (by decide +kernel) ⟨Nat.le_of_ble_eq_true rfl, Nat.le_of_ble_eq_true rfl⟩) (va_recv X.1 X.2.1 (ci := 12) (q0 := 0) rfl rfl) X.1 X.2.1 X.2.2.1 (free_all X) hl.1 rfl rfl (Nat.le_of_ble_eq_true rfl) dX12_done_399 ⟨Nat.le_of_ble_eq_true rfl, Nat.le_of_ble_eq_true rfl⟩ (fun t H1 locs1 ht hB hk hS => ?_)
                            have X : Hx D (tX12 yT) A s H1 locs1 (wX12 hT aT yT q_78.2) := Hx_after_all X ht hB hS
                            clear hk hS ht hB
                            generalize H1 = H at X ⊢
                            generalize locs1 = locs at X ⊢
                            refine lv_lstore_n (lv' := [(3, .long q_78.1), (5, .int (gIA gT 16 x0.toNatClampNeg)), (2, .int (gIA gT 15 x0.toNatClampNeg)), (0, .ref hT), (1, .int x0)]) hx hb dX12_done_402 rfl hl (by decide) rfl (fun ls hl => ?_)
                            exact (k_X12_done_403 l D hT aT yT n) C X (lv_sub hl [3, 0] rfl) hF
                · replace hF := iF c8 hF
                  by_cases c9 : (gIA gT 14 x0.toNatClampNeg) = (9 : Int32)
                  · replace hF := iT c9 hF
                    refine lv_tableIn (tgt := 138) (off := 125) hx hb dX12_done_13 (by rw [c9]; decide) (by rw [c9]; decide) (by rw [c9]; rfl) (by decide) ?_
                    refine lv_aload_n hx hb dX12_done_138 rfl (lv_at hl 1 rfl) ?_
                    refine va_get (D := D.1) (ci := 12) (v := .ref (aT 92)) (C := RX12) (T := TX12) (N := 114) hx hb hts wi_X12 hown X.1 X.2.1 0 rfl rfl 92 (by decide) (hts _ q7_46) (fun _ h9 => h9) (fl_get (by decide)) dX12_done_139 ?_
                    refine lv_aload_n hx hb dX12_done_142 rfl (lv_at hl 1 rfl) ?_
                    refine va_get (D := D.1) (ci := 12) (v := .int (gI gT 93)) (C := RX12) (T := TX12) (N := 114) hx hb hts wi_X12 hown X.1 X.2.1 0 rfl rfl 93 (by decide) (hts _ q7_47) (fun _ h9 => h9) (fl_get (by decide)) dX12_done_143 ?_
                    refine lv_iconst (v := (1 : Int32)) hx hb dX12_done_146 (by decide) ?_
                    refine lv_isub hx hb dX12_done_147 ?_
                    obtain ⟨h_80, hF⟩ := grd_some hF
                    refine va_lald (D := D.1) (f := gLA gT 92) hx hb X.1 X.2.1 63 62 rfl rfl (inB_ok h_80) dX12_done_148 ?_
                    refine lv_lstore_n (lv' := [(3, .long (gLA gT 92 ((gI gT 93) - (1 : Int32)).toNatClampNeg)), (2, .int (gIA gT 15 x0.toNatClampNeg)), (0, .ref hT), (1, .int x0)]) hx hb dX12_done_149 rfl hl (by decide) rfl (fun ls hl => ?_)
                    refine lv_aload_n hx hb dX12_done_150 rfl (lv_at hl 2 rfl) ?_
                    refine va_get (D := D.1) (ci := 12) (v := .ref (aT 16)) (C := RX12) (T := TX12) (N := 114) hx hb hts wi_X12 hown X.1 X.2.1 0 rfl rfl 16 (by decide) (hts _ q6_210) (fun _ h9 => h9) (fl_get (by decide)) dX12_done_151 ?_
                    refine lv_iload_n hx hb dX12_done_154 rfl (lv_at hl 3 rfl) ?_
                    obtain ⟨h_81, hF⟩ := grd_some hF
                    refine va_iald (D := D.1) (f := gIA gT 16) hx hb X.1 X.2.1 11 10 rfl rfl (inB_ok h_81) dX12_done_155 ?_
                    refine lv_istore (lv' := [(5, .int (gIA gT 16 x0.toNatClampNeg)), (3, .long (gLA gT 92 ((gI gT 93) - (1 : Int32)).toNatClampNeg)), (2, .int (gIA gT 15 x0.toNatClampNeg)), (0, .ref hT), (1, .int x0)]) hx hb dX12_done_156 hl (by decide) rfl (fun ls hl => ?_)
                    refine lv_aload_n hx hb dX12_done_158 rfl (lv_at hl 3 rfl) ?_
                    refine va_get (D := D.1) (ci := 12) (v := .ref (aT 14)) (C := RX12) (T := TX12) (N := 114) hx hb hts wi_X12 hown X.1 X.2.1 0 rfl rfl 14 (by decide) (hts _ q6_208) (fun _ h9 => h9) (fl_get (by decide)) dX12_done_159 ?_
                    refine lv_iload_n hx hb dX12_done_162 rfl (lv_at hl 4 rfl) ?_
                    obtain ⟨h_82, hF⟩ := grd_some hF
                    refine va_iald (D := D.1) (f := gIA gT 14) hx hb X.1 X.2.1 9 8 rfl rfl (inB_ok h_82) dX12_done_163 ?_
                    by_cases c6 : (gIA gT 14 x0.toNatClampNeg) = (6 : Int32)
                    · replace hF := iT c6 hF
                      refine lv_tableIn (tgt := 200) (off := 36) hx hb dX12_done_164 (by rw [c6]; decide) (by rw [c6]; decide) (by rw [c6]; rfl) (by decide) ?_
                      refine lv_lload_n hx hb dX12_done_200 rfl (lv_at hl 1 rfl) ?_
                      refine lv_lconst (v := (0 : Int64)) hx hb dX12_done_201 (by decide) ?_
                      refine W.lcmp hx hb dX12_done_202 ?_
                      refine lv_if_lt (tgt := 218) hx hb dX12_done_203 (by decide) (fun c => ?_) (fun c => ?_)
                      · have c := (lg_cmp_lt _ _).mp c
                        replace hF := iT c hF
                        exact (k_X12_done_218 l D hT aT yT n) C X (lv_sub hl [3, 4] rfl) hF
                      · have c := fun h => c ((lg_cmp_lt _ _).mpr h)
                        replace hF := iF c hF
                        refine lv_lload_n hx hb dX12_done_206 rfl (lv_at hl 1 rfl) ?_
                        refine lv_aload_n hx hb dX12_done_207 rfl (lv_at hl 3 rfl) ?_
                        refine va_get (D := D.1) (ci := 12) (v := .ref (aT 78)) (C := RX12) (T := TX12) (N := 114) hx hb hts wi_X12 hown X.1 X.2.1 0 rfl rfl 78 (by decide) (hts _ q7_32) (fun _ h9 => h9) (fl_get (by decide)) dX12_done_208 ?_
                        refine lv_iload_n hx hb dX12_done_211 rfl (lv_at hl 2 rfl) ?_
                        obtain ⟨h_83, hF⟩ := grd_some hF
                        refine va_iald (D := D.1) (f := gIA gT 78) hx hb X.1 X.2.1 52 51 rfl rfl (inB_ok h_83) dX12_done_212 ?_
                        refine lv_i2l hx hb dX12_done_213 rfl ?_
                        refine W.lcmp hx hb dX12_done_214 ?_
                        refine lv_if_lt (tgt := 230) hx hb dX12_done_215 (by decide) (fun c => ?_) (fun c => ?_)
                        · have c := (lg_cmp_lt _ _).mp c
                          replace hF := iT c hF
                          refine lv_aload_n hx hb dX12_done_230 rfl (lv_at hl 3 rfl) ?_
                          refine va_get (D := D.1) (ci := 12) (v := .ref (aT 79)) (C := RX12) (T := TX12) (N := 114) hx hb hts wi_X12 hown X.1 X.2.1 0 rfl rfl 79 (by decide) (hts _ q7_33) (fun _ h9 => h9) (fl_get (by decide)) dX12_done_231 ?_
                          refine lv_bipush (v := (24 : Int32)) hx hb dX12_done_234 (by decide) ?_
                          refine lv_iload_n hx hb dX12_done_236 rfl (lv_at hl 2 rfl) ?_
                          refine lv_imul hx hb dX12_done_237 ?_
                          refine lv_lload_n hx hb dX12_done_238 rfl (lv_at hl 1 rfl) ?_
                          refine lv_l2i hx hb dX12_done_239 rfl ?_
                          refine lv_iadd hx hb dX12_done_240 ?_
                          obtain ⟨h_84, hF⟩ := grd_some hF
                          refine va_lald (D := D.1) (f := gLA gT 79) hx hb X.1 X.2.1 53 52 rfl rfl (inB_ok h_84) dX12_done_241 ?_
                          refine lv_lstore_n (lv' := [(3, .long (gLA gT 79 (((24 : Int32) * (gIA gT 15 x0.toNatClampNeg)) + ((gLA gT 92 ((gI gT 93) - (1 : Int32)).toNatClampNeg).toInt32)).toNatClampNeg)), (5, .int (gIA gT 16 x0.toNatClampNeg)), (2, .int (gIA gT 15 x0.toNatClampNeg)), (0, .ref hT), (1, .int x0)]) hx hb dX12_done_242 rfl hl (by decide) rfl (fun ls hl => ?_)
                          refine lv_goto (tgt := 403) hx hb dX12_done_243 (by decide) ?_
                          exact (k_X12_done_403 l D hT aT yT n) C X (lv_sub hl [3, 0] rfl) hF
                        · have c := fun h => c ((lg_cmp_lt _ _).mpr h)
                          replace hF := iF c hF
                          exact (k_X12_done_218 l D hT aT yT n) C X (lv_sub hl [3, 4] rfl) hF
                    · replace hF := iF c6 hF
                      by_cases c7 : (gIA gT 14 x0.toNatClampNeg) = (7 : Int32)
                      · replace hF := iT c7 hF
                        refine lv_tableIn (tgt := 246) (off := 82) hx hb dX12_done_164 (by rw [c7]; decide) (by rw [c7]; decide) (by rw [c7]; rfl) (by decide) ?_
                        refine lv_iload hx hb dX12_done_246 (lv_at hl 0 rfl) ?_
                        refine lv_bipush (v := (7 : Int32)) hx hb dX12_done_248 (by decide) ?_
                        refine lv_icmp_ne (tgt := 262) hx hb dX12_done_250 (by decide) (fun c => ?_) (fun c => ?_)
                        · replace hF := iF c hF
                          refine lv_iload hx hb dX12_done_262 (lv_at hl 0 rfl) ?_
                          refine lv_bipush (v := (6 : Int32)) hx hb dX12_done_264 (by decide) ?_
                          refine lv_icmp_ne (tgt := 280) hx hb dX12_done_266 (by decide) (fun c => ?_) (fun c => ?_)
                          · replace hF := iF c hF
                            refine lv_lload_n hx hb dX12_done_280 rfl (lv_at hl 1 rfl) ?_
                            refine lv_lneg hx hb dX12_done_281 ?_
                            refine lv_iload hx hb dX12_done_282 (lv_at hl 0 rfl) ?_
                            refine lv_iconst (v := (4 : Int32)) hx hb dX12_done_284 (by decide) ?_
                            refine lv_icmp_ge (tgt := 292) hx hb dX12_done_285 (by decide) (fun c => ?_) (fun c => ?_)
                            · replace hF := iT c hF
                              refine lv_iload hx hb dX12_done_292 (lv_at hl 0 rfl) ?_
                              exact (k_X12_done_294 l D hT aT yT n) C X (lv_sub hl [3] rfl) hF
                            · replace hF := iF c hF
                              refine lv_iconst (v := (4 : Int32)) hx hb dX12_done_288 (by decide) ?_
                              refine lv_goto (tgt := 294) hx hb dX12_done_289 (by decide) ?_
                              exact (k_X12_done_294 l D hT aT yT n) C X (lv_sub hl [3] rfl) hF
                          · replace hF := iT c hF
                            refine lv_lload_n hx hb dX12_done_269 rfl (lv_at hl 1 rfl) ?_
                            refine lv_l2i hx hb dX12_done_270 rfl ?_
                            refine lv_ldcw hx hb hown (hts _ q9_133) dX12_done_271 ?_
                            refine lv_ixor hx hb dX12_done_274 ?_
                            refine lv_i2l hx hb dX12_done_275 rfl ?_
                            refine lv_lstore_n (lv' := [(3, .long ((((gLA gT 92 ((gI gT 93) - (1 : Int32)).toNatClampNeg).toInt32) ^^^ (-2147483648 : Int32)).toInt64)), (5, .int (gIA gT 16 x0.toNatClampNeg)), (2, .int (gIA gT 15 x0.toNatClampNeg)), (0, .ref hT), (1, .int x0)]) hx hb dX12_done_276 rfl hl (by decide) rfl (fun ls hl => ?_)
                            refine lv_goto (tgt := 403) hx hb dX12_done_277 (by decide) ?_
                            exact (k_X12_done_403 l D hT aT yT n) C X (lv_sub hl [3, 0] rfl) hF
                        · replace hF := iT c hF
                          refine lv_lload_n hx hb dX12_done_253 rfl (lv_at hl 1 rfl) ?_
                          refine lv_ldc2 hx hb hown (hts _ q8_135) dX12_done_254 ?_
                          refine lv_lxor hx hb dX12_done_257 ?_
                          refine lv_lstore_n (lv' := [(3, .long ((gLA gT 92 ((gI gT 93) - (1 : Int32)).toNatClampNeg) ^^^ (-9223372036854775808 : Int64))), (5, .int (gIA gT 16 x0.toNatClampNeg)), (2, .int (gIA gT 15 x0.toNatClampNeg)), (0, .ref hT), (1, .int x0)]) hx hb dX12_done_258 rfl hl (by decide) rfl (fun ls hl => ?_)
                          refine lv_goto (tgt := 403) hx hb dX12_done_259 (by decide) ?_
                          exact (k_X12_done_403 l D hT aT yT n) C X (lv_sub hl [3, 0] rfl) hF
                      · replace hF := iF c7 hF
                        by_cases c8 : (gIA gT 14 x0.toNatClampNeg) = (8 : Int32)
                        · replace hF := iT c8 hF
                          refine lv_tableIn (tgt := 301) (off := 137) hx hb dX12_done_164 (by rw [c8]; decide) (by rw [c8]; decide) (by rw [c8]; rfl) (by decide) ?_
                          refine lv_lconst (v := (1 : Int64)) hx hb dX12_done_301 (by decide) ?_
                          refine lv_lload_n hx hb dX12_done_302 rfl (lv_at hl 1 rfl) ?_
                          refine lv_lsub hx hb dX12_done_303 ?_
                          refine lv_lstore_n (lv' := [(3, .long ((1 : Int64) - (gLA gT 92 ((gI gT 93) - (1 : Int32)).toNatClampNeg))), (5, .int (gIA gT 16 x0.toNatClampNeg)), (2, .int (gIA gT 15 x0.toNatClampNeg)), (0, .ref hT), (1, .int x0)]) hx hb dX12_done_304 rfl hl (by decide) rfl (fun ls hl => ?_)
                          refine lv_goto (tgt := 403) hx hb dX12_done_305 (by decide) ?_
                          exact (k_X12_done_403 l D hT aT yT n) C X (lv_sub hl [3, 0] rfl) hF
                        · replace hF := iF c8 hF
                          by_cases c9 : (gIA gT 14 x0.toNatClampNeg) = (9 : Int32)
                          · replace hF := iT c9 hF
                            refine lv_tableIn (tgt := 308) (off := 144) hx hb dX12_done_164 (by rw [c9]; decide) (by rw [c9]; decide) (by rw [c9]; rfl) (by decide) ?_
                            refine lv_aload_n hx hb dX12_done_308 rfl (lv_at hl 3 rfl) ?_
                            refine lv_lload_n hx hb dX12_done_309 rfl (lv_at hl 1 rfl) ?_
                            refine lv_iload hx hb dX12_done_310 (lv_at hl 0 rfl) ?_
                            refine lv_iload_n hx hb dX12_done_312 rfl (lv_at hl 2 rfl) ?_
                            obtain ⟨q_85, hc_86, hF⟩ := bnd_some hF
                            refine cV_l (As := [.long (gLA gT 92 ((gI gT 93) - (1 : Int32)).toNatClampNeg), .int (gIA gT 16 x0.toNatClampNeg), .int (gIA gT 15 x0.toNatClampNeg)]) (rest := []) C X (c_X12_become l D hT aT yT n gT (gLA gT 92 ((gI gT 93) - (1 : Int32)).toNatClampNeg) (gIA gT 16 x0.toNatClampNeg) (gIA gT 15 x0.toNatClampNeg) q_85 hc_86 _) (cwV 3 hts (good_V q8_136 q8_138 q0_73 q1_9 q8_139) rfl rfl rfl (by decide +kernel) ⟨Nat.le_of_ble_eq_true rfl, Nat.le_of_ble_eq_true rfl⟩) (va_recv X.1 X.2.1 (ci := 12) (q0 := 0) rfl rfl) X.1 X.2.1 X.2.2.1 (free_all X) hl.1 rfl rfl (Nat.le_of_ble_eq_true rfl) dX12_done_313 ⟨Nat.le_of_ble_eq_true rfl, Nat.le_of_ble_eq_true rfl⟩ (fun t H1 locs1 ht hB hk hS => ?_)
                            have X : Hx D (tX12 yT) A s H1 locs1 (wX12 hT aT yT q_85.2) := Hx_after_all X ht hB hS
                            clear hk hS ht hB
                            generalize H1 = H at X ⊢
                            generalize locs1 = locs at X ⊢
                            refine lv_lstore_n (lv' := [(3, .long q_85.1), (5, .int (gIA gT 16 x0.toNatClampNeg)), (2, .int (gIA gT 15 x0.toNatClampNeg)), (0, .ref hT), (1, .int x0)]) hx hb dX12_done_316 rfl hl (by decide) rfl (fun ls hl => ?_)
                            refine lv_iload_n hx hb dX12_done_317 rfl (lv_at hl 2 rfl) ?_
                            refine lv_bipush (v := (6 : Int32)) hx hb dX12_done_318 (by decide) ?_
                            refine lv_icmp_ne (tgt := 403) hx hb dX12_done_320 (by decide) (fun c => ?_) (fun c => ?_)
                            · replace hF := iF c hF
                              exact (k_X12_done_403 l D hT aT yT n) C X (lv_sub hl [3, 0] rfl) hF
                            · replace hF := iT c hF
                              refine lv_iload hx hb dX12_done_323 (lv_at hl 1 rfl) ?_
                              refine lv_bipush (v := (7 : Int32)) hx hb dX12_done_325 (by decide) ?_
                              refine lv_icmp_ne (tgt := 403) hx hb dX12_done_327 (by decide) (fun c => ?_) (fun c => ?_)
                              · replace hF := iF c hF
                                exact (k_X12_done_403 l D hT aT yT n) C X (lv_sub hl [3, 0] rfl) hF
                              · replace hF := iT c hF
                                refine lv_lload_n hx hb dX12_done_330 rfl (lv_at hl 0 rfl) ?_
                                refine lv_ldc2 hx hb hown (hts _ q8_99) dX12_done_331 ?_
                                refine W.lcmp hx hb dX12_done_334 ?_
                                refine lv_if_ne (tgt := 403) hx hb dX12_done_335 (by decide) (fun c => ?_) (fun c => ?_)
                                · have c := fun h => c ((lg_cmp_eq _ _).mpr h)
                                  replace hF := iF c hF
                                  exact (k_X12_done_403 l D hT aT yT n) C X (lv_sub hl [3, 0] rfl) hF
                                · have c := (lg_cmp_eq _ _).mp c
                                  replace hF := iT c hF
                                  refine lv_aload_n hx hb dX12_done_338 rfl (lv_at hl 3 rfl) ?_
                                  refine lv_iconst (v := (3 : Int32)) hx hb dX12_done_339 (by decide) ?_
                                  refine lv_aload_n hx hb dX12_done_340 rfl (lv_at hl 3 rfl) ?_
                                  refine va_get (D := D.1) (ci := 12) (v := .ref (aT 17)) (C := RX12) (T := TX12) (N := 114) hx hb hts wi_X12 hown X.1 X.2.1 0 rfl rfl 17 (by decide) (hts _ q6_211) (fun _ h9 => h9) (fl_get (by decide)) dX12_done_341 ?_
                                  refine lv_iload_n hx hb dX12_done_344 rfl (lv_at hl 4 rfl) ?_
                                  obtain ⟨h_87, hF⟩ := grd_some hF
                                  refine va_iald (D := D.1) (f := gIA q_85.2 17) hx hb X.1 X.2.1 12 11 rfl rfl (inB_ok h_87) dX12_done_345 ?_
                                  obtain ⟨q_88, hc_89, hF⟩ := bnd_some hF
                                  refine cV_i (As := [.int (3 : Int32), .int (gIA q_85.2 17 x0.toNatClampNeg)]) (rest := []) C X (c_X12_jams l D hT aT yT q_85.2 (3 : Int32) (gIA q_85.2 17 x0.toNatClampNeg) q_88 hc_89 _) (cwV 2 hts (good_V q9_110 q9_112 q0_117 q1_9 q9_113) rfl rfl rfl (by decide +kernel) ⟨Nat.le_of_ble_eq_true rfl, Nat.le_of_ble_eq_true rfl⟩) (va_recv X.1 X.2.1 (ci := 12) (q0 := 0) rfl rfl) X.1 X.2.1 X.2.2.1 (free_all X) hl.1 rfl rfl (Nat.le_of_ble_eq_true rfl) dX12_done_346 ⟨Nat.le_of_ble_eq_true rfl, Nat.le_of_ble_eq_true rfl⟩ (fun t H1 locs1 ht hB hk hS => ?_)
                                  have X : Hx D (tX12 yT) A s H1 locs1 (wX12 hT aT yT q_88.2) := Hx_after_all X ht hB hS
                                  clear hk hS ht hB
                                  generalize H1 = H at X ⊢
                                  generalize locs1 = locs at X ⊢
                                  obtain ⟨h_90, hF⟩ := grd_some hF
                                  have hq := Option.some.inj hF
                                  subst hq
                                  exact rt_z (v := q_88.1) C X (zB_n h_90) dX12_done_349
                          · replace hF := iF c9 hF
                            by_cases c10 : (gIA gT 14 x0.toNatClampNeg) = (10 : Int32)
                            · replace hF := iT c10 hF
                              refine lv_tableIn (tgt := 350) (off := 186) hx hb dX12_done_164 (by rw [c10]; decide) (by rw [c10]; decide) (by rw [c10]; rfl) (by decide) ?_
                              refine lv_aload_n hx hb dX12_done_350 rfl (lv_at hl 3 rfl) ?_
                              refine lv_lload_n hx hb dX12_done_351 rfl (lv_at hl 1 rfl) ?_
                              refine lv_iload hx hb dX12_done_352 (lv_at hl 0 rfl) ?_
                              refine lv_bipush (v := (7 : Int32)) hx hb dX12_done_354 (by decide) ?_
                              obtain ⟨q_91, hc_92, hF⟩ := bnd_some hF
                              refine cV_l (As := [.long (gLA gT 92 ((gI gT 93) - (1 : Int32)).toNatClampNeg), .int (gIA gT 16 x0.toNatClampNeg), .int (7 : Int32)]) (rest := []) C X (c_X12_become l D hT aT yT n gT (gLA gT 92 ((gI gT 93) - (1 : Int32)).toNatClampNeg) (gIA gT 16 x0.toNatClampNeg) (7 : Int32) q_91 hc_92 _) (cwV 3 hts (good_V q8_136 q8_138 q0_73 q1_9 q8_139) rfl rfl rfl (by decide +kernel) ⟨Nat.le_of_ble_eq_true rfl, Nat.le_of_ble_eq_true rfl⟩) (va_recv X.1 X.2.1 (ci := 12) (q0 := 0) rfl rfl) X.1 X.2.1 X.2.2.1 (free_all X) hl.1 rfl rfl (Nat.le_of_ble_eq_true rfl) dX12_done_356 ⟨Nat.le_of_ble_eq_true rfl, Nat.le_of_ble_eq_true rfl⟩ (fun t H1 locs1 ht hB hk hS => ?_)
                              have X : Hx D (tX12 yT) A s H1 locs1 (wX12 hT aT yT q_91.2) := Hx_after_all X ht hB hS
                              clear hk hS ht hB
                              generalize H1 = H at X ⊢
                              generalize locs1 = locs at X ⊢
                              refine lv_lstore_n (lv' := [(3, .long q_91.1), (5, .int (gIA gT 16 x0.toNatClampNeg)), (2, .int (gIA gT 15 x0.toNatClampNeg)), (0, .ref hT), (1, .int x0)]) hx hb dX12_done_359 rfl hl (by decide) rfl (fun ls hl => ?_)
                              refine lv_iload_n hx hb dX12_done_360 rfl (lv_at hl 2 rfl) ?_
                              refine lv_sipush (v := (212 : Int32)) hx hb dX12_done_361 (by decide) ?_
                              refine lv_icmp_ne (tgt := 374) hx hb dX12_done_364 (by decide) (fun c => ?_) (fun c => ?_)
                              · replace hF := iF c hF
                                refine lv_aload_n hx hb dX12_done_374 rfl (lv_at hl 3 rfl) ?_
                                refine lv_lload_n hx hb dX12_done_375 rfl (lv_at hl 0 rfl) ?_
                                refine lv_iload_n hx hb dX12_done_376 rfl (lv_at hl 2 rfl) ?_
                                refine lv_sipush (v := (209 : Int32)) hx hb dX12_done_377 (by decide) ?_
                                refine lv_isub hx hb dX12_done_380 ?_
                                obtain ⟨q_93, hc_94, hF⟩ := bnd_some hF
                                refine cV_l (As := [.long q_91.1, .int ((gIA gT 15 x0.toNatClampNeg) - (209 : Int32))]) (rest := []) C X (c_X12_evened l D hT aT yT n q_91.2 q_91.1 ((gIA gT 15 x0.toNatClampNeg) - (209 : Int32)) q_93 hc_94 _) (cwV 2 hts (good_V q9_134 q9_136 q0_120 q1_9 q9_137) rfl rfl rfl (by decide +kernel) ⟨Nat.le_of_ble_eq_true rfl, Nat.le_of_ble_eq_true rfl⟩) (va_recv X.1 X.2.1 (ci := 12) (q0 := 0) rfl rfl) X.1 X.2.1 X.2.2.1 (free_all X) hl.1 rfl rfl (Nat.le_of_ble_eq_true rfl) dX12_done_381 ⟨Nat.le_of_ble_eq_true rfl, Nat.le_of_ble_eq_true rfl⟩ (fun t H1 locs1 ht hB hk hS => ?_)
                                have X : Hx D (tX12 yT) A s H1 locs1 (wX12 hT aT yT q_93.2) := Hx_after_all X ht hB hS
                                clear hk hS ht hB
                                generalize H1 = H at X ⊢
                                generalize locs1 = locs at X ⊢
                                exact (k_X12_done_384 l D hT aT yT n) C X (lv_sub hl [3] rfl) hF
                              · replace hF := iT c hF
                                refine lv_lload_n hx hb dX12_done_367 rfl (lv_at hl 0 rfl) ?_
                                obtain ⟨q_95, hc_96, hF⟩ := bnd_some hF
                                refine cS_l (As := [.long q_91.1]) (rest := []) C X (c_X12_withoutSign l D  q_91.1 q_95 hc_96 _) (va_cwS 1 hts (good_S q9_89 q9_90 q1_9 q9_91) rfl rfl rfl (by decide +kernel) ⟨Nat.le_of_ble_eq_true rfl, Nat.le_of_ble_eq_true rfl⟩) (eK X) eP (eD (A := A)) (eF X) hl.1 rfl rfl (Nat.le_of_ble_eq_true rfl) dX12_done_368 ⟨Nat.le_of_ble_eq_true rfl, Nat.le_of_ble_eq_true rfl⟩ (fun t H1 locs1 ht hB hk hS => ?_)
                                have X := Hx_after_none X hk hS
                                clear hk hS ht hB
                                generalize H1 = H at X ⊢
                                generalize locs1 = locs at X ⊢
                                refine lv_goto (tgt := 384) hx hb dX12_done_371 (by decide) ?_
                                exact (k_X12_done_384 l D hT aT yT n) C X (lv_sub hl [3] rfl) hF
                            · replace hF := iF c10 hF
                              refine lv_tableOut (tgt := 388) hx hb dX12_done_164 (tbl_out (6) (10) 5 (by decide) ⟨tne c6 (by decide), ⟨tne c7 (by decide), ⟨tne c8 (by decide), ⟨tne c9 (by decide), ⟨tne c10 (by decide), trivial⟩⟩⟩⟩⟩) (by decide) ?_
                              refine lv_aload_n hx hb dX12_done_388 rfl (lv_at hl 3 rfl) ?_
                              refine lv_lload_n hx hb dX12_done_389 rfl (lv_at hl 1 rfl) ?_
                              refine lv_iload hx hb dX12_done_390 (lv_at hl 0 rfl) ?_
                              refine lv_iconst (v := (3 : Int32)) hx hb dX12_done_392 (by decide) ?_
                              refine lv_ishr hx hb dX12_done_393 ?_
                              refine lv_iload hx hb dX12_done_394 (lv_at hl 0 rfl) ?_
                              refine lv_bipush (v := (7 : Int32)) hx hb dX12_done_396 (by decide) ?_
                              refine lv_iand hx hb dX12_done_398 ?_
                              obtain ⟨q_97, hc_98, hF⟩ := bnd_some hF
                              refine cV_l (As := [.long (gLA gT 92 ((gI gT 93) - (1 : Int32)).toNatClampNeg), .int ((gIA gT 16 x0.toNatClampNeg) >>> ((3 : Int32) &&& 31)), .int ((gIA gT 16 x0.toNatClampNeg) &&& (7 : Int32))]) (rest := []) C X (c_X12_become l D hT aT yT n gT (gLA gT 92 ((gI gT 93) - (1 : Int32)).toNatClampNeg) ((gIA gT 16 x0.toNatClampNeg) >>> ((3 : Int32) &&& 31)) ((gIA gT 16 x0.toNatClampNeg) &&& (7 : Int32)) q_97 hc_98 _) (cwV 3 hts (good_V q8_136 q8_138 q0_73 q1_9 q8_139) rfl rfl rfl (by decide +kernel) ⟨Nat.le_of_ble_eq_true rfl, Nat.le_of_ble_eq_true rfl⟩) (va_recv X.1 X.2.1 (ci := 12) (q0 := 0) rfl rfl) X.1 X.2.1 X.2.2.1 (free_all X) hl.1 rfl rfl (Nat.le_of_ble_eq_true rfl) dX12_done_399 ⟨Nat.le_of_ble_eq_true rfl, Nat.le_of_ble_eq_true rfl⟩ (fun t H1 locs1 ht hB hk hS => ?_)
                              have X : Hx D (tX12 yT) A s H1 locs1 (wX12 hT aT yT q_97.2) := Hx_after_all X ht hB hS
                              clear hk hS ht hB
                              generalize H1 = H at X ⊢
                              generalize locs1 = locs at X ⊢
                              refine lv_lstore_n (lv' := [(3, .long q_97.1), (5, .int (gIA gT 16 x0.toNatClampNeg)), (2, .int (gIA gT 15 x0.toNatClampNeg)), (0, .ref hT), (1, .int x0)]) hx hb dX12_done_402 rfl hl (by decide) rfl (fun ls hl => ?_)
                              exact (k_X12_done_403 l D hT aT yT n) C X (lv_sub hl [3, 0] rfl) hF
                  · replace hF := iF c9 hF
                    by_cases c10 : (gIA gT 14 x0.toNatClampNeg) = (10 : Int32)
                    · replace hF := iT c10 hF
                      refine lv_tableIn (tgt := 138) (off := 125) hx hb dX12_done_13 (by rw [c10]; decide) (by rw [c10]; decide) (by rw [c10]; rfl) (by decide) ?_
                      refine lv_aload_n hx hb dX12_done_138 rfl (lv_at hl 1 rfl) ?_
                      refine va_get (D := D.1) (ci := 12) (v := .ref (aT 92)) (C := RX12) (T := TX12) (N := 114) hx hb hts wi_X12 hown X.1 X.2.1 0 rfl rfl 92 (by decide) (hts _ q7_46) (fun _ h9 => h9) (fl_get (by decide)) dX12_done_139 ?_
                      refine lv_aload_n hx hb dX12_done_142 rfl (lv_at hl 1 rfl) ?_
                      refine va_get (D := D.1) (ci := 12) (v := .int (gI gT 93)) (C := RX12) (T := TX12) (N := 114) hx hb hts wi_X12 hown X.1 X.2.1 0 rfl rfl 93 (by decide) (hts _ q7_47) (fun _ h9 => h9) (fl_get (by decide)) dX12_done_143 ?_
                      refine lv_iconst (v := (1 : Int32)) hx hb dX12_done_146 (by decide) ?_
                      refine lv_isub hx hb dX12_done_147 ?_
                      obtain ⟨h_99, hF⟩ := grd_some hF
                      refine va_lald (D := D.1) (f := gLA gT 92) hx hb X.1 X.2.1 63 62 rfl rfl (inB_ok h_99) dX12_done_148 ?_
                      refine lv_lstore_n (lv' := [(3, .long (gLA gT 92 ((gI gT 93) - (1 : Int32)).toNatClampNeg)), (2, .int (gIA gT 15 x0.toNatClampNeg)), (0, .ref hT), (1, .int x0)]) hx hb dX12_done_149 rfl hl (by decide) rfl (fun ls hl => ?_)
                      refine lv_aload_n hx hb dX12_done_150 rfl (lv_at hl 2 rfl) ?_
                      refine va_get (D := D.1) (ci := 12) (v := .ref (aT 16)) (C := RX12) (T := TX12) (N := 114) hx hb hts wi_X12 hown X.1 X.2.1 0 rfl rfl 16 (by decide) (hts _ q6_210) (fun _ h9 => h9) (fl_get (by decide)) dX12_done_151 ?_
                      refine lv_iload_n hx hb dX12_done_154 rfl (lv_at hl 3 rfl) ?_
                      obtain ⟨h_100, hF⟩ := grd_some hF
                      refine va_iald (D := D.1) (f := gIA gT 16) hx hb X.1 X.2.1 11 10 rfl rfl (inB_ok h_100) dX12_done_155 ?_
                      refine lv_istore (lv' := [(5, .int (gIA gT 16 x0.toNatClampNeg)), (3, .long (gLA gT 92 ((gI gT 93) - (1 : Int32)).toNatClampNeg)), (2, .int (gIA gT 15 x0.toNatClampNeg)), (0, .ref hT), (1, .int x0)]) hx hb dX12_done_156 hl (by decide) rfl (fun ls hl => ?_)
                      refine lv_aload_n hx hb dX12_done_158 rfl (lv_at hl 3 rfl) ?_
                      refine va_get (D := D.1) (ci := 12) (v := .ref (aT 14)) (C := RX12) (T := TX12) (N := 114) hx hb hts wi_X12 hown X.1 X.2.1 0 rfl rfl 14 (by decide) (hts _ q6_208) (fun _ h9 => h9) (fl_get (by decide)) dX12_done_159 ?_
                      refine lv_iload_n hx hb dX12_done_162 rfl (lv_at hl 4 rfl) ?_
                      obtain ⟨h_101, hF⟩ := grd_some hF
                      refine va_iald (D := D.1) (f := gIA gT 14) hx hb X.1 X.2.1 9 8 rfl rfl (inB_ok h_101) dX12_done_163 ?_
                      by_cases c6 : (gIA gT 14 x0.toNatClampNeg) = (6 : Int32)
                      · replace hF := iT c6 hF
                        refine lv_tableIn (tgt := 200) (off := 36) hx hb dX12_done_164 (by rw [c6]; decide) (by rw [c6]; decide) (by rw [c6]; rfl) (by decide) ?_
                        refine lv_lload_n hx hb dX12_done_200 rfl (lv_at hl 1 rfl) ?_
                        refine lv_lconst (v := (0 : Int64)) hx hb dX12_done_201 (by decide) ?_
                        refine W.lcmp hx hb dX12_done_202 ?_
                        refine lv_if_lt (tgt := 218) hx hb dX12_done_203 (by decide) (fun c => ?_) (fun c => ?_)
                        · have c := (lg_cmp_lt _ _).mp c
                          replace hF := iT c hF
                          exact (k_X12_done_218 l D hT aT yT n) C X (lv_sub hl [3, 4] rfl) hF
                        · have c := fun h => c ((lg_cmp_lt _ _).mpr h)
                          replace hF := iF c hF
                          refine lv_lload_n hx hb dX12_done_206 rfl (lv_at hl 1 rfl) ?_
                          refine lv_aload_n hx hb dX12_done_207 rfl (lv_at hl 3 rfl) ?_
                          refine va_get (D := D.1) (ci := 12) (v := .ref (aT 78)) (C := RX12) (T := TX12) (N := 114) hx hb hts wi_X12 hown X.1 X.2.1 0 rfl rfl 78 (by decide) (hts _ q7_32) (fun _ h9 => h9) (fl_get (by decide)) dX12_done_208 ?_
                          refine lv_iload_n hx hb dX12_done_211 rfl (lv_at hl 2 rfl) ?_
                          obtain ⟨h_102, hF⟩ := grd_some hF
                          refine va_iald (D := D.1) (f := gIA gT 78) hx hb X.1 X.2.1 52 51 rfl rfl (inB_ok h_102) dX12_done_212 ?_
                          refine lv_i2l hx hb dX12_done_213 rfl ?_
                          refine W.lcmp hx hb dX12_done_214 ?_
                          refine lv_if_lt (tgt := 230) hx hb dX12_done_215 (by decide) (fun c => ?_) (fun c => ?_)
                          · have c := (lg_cmp_lt _ _).mp c
                            replace hF := iT c hF
                            refine lv_aload_n hx hb dX12_done_230 rfl (lv_at hl 3 rfl) ?_
                            refine va_get (D := D.1) (ci := 12) (v := .ref (aT 79)) (C := RX12) (T := TX12) (N := 114) hx hb hts wi_X12 hown X.1 X.2.1 0 rfl rfl 79 (by decide) (hts _ q7_33) (fun _ h9 => h9) (fl_get (by decide)) dX12_done_231 ?_
                            refine lv_bipush (v := (24 : Int32)) hx hb dX12_done_234 (by decide) ?_
                            refine lv_iload_n hx hb dX12_done_236 rfl (lv_at hl 2 rfl) ?_
                            refine lv_imul hx hb dX12_done_237 ?_
                            refine lv_lload_n hx hb dX12_done_238 rfl (lv_at hl 1 rfl) ?_
                            refine lv_l2i hx hb dX12_done_239 rfl ?_
                            refine lv_iadd hx hb dX12_done_240 ?_
                            obtain ⟨h_103, hF⟩ := grd_some hF
                            refine va_lald (D := D.1) (f := gLA gT 79) hx hb X.1 X.2.1 53 52 rfl rfl (inB_ok h_103) dX12_done_241 ?_
                            refine lv_lstore_n (lv' := [(3, .long (gLA gT 79 (((24 : Int32) * (gIA gT 15 x0.toNatClampNeg)) + ((gLA gT 92 ((gI gT 93) - (1 : Int32)).toNatClampNeg).toInt32)).toNatClampNeg)), (5, .int (gIA gT 16 x0.toNatClampNeg)), (2, .int (gIA gT 15 x0.toNatClampNeg)), (0, .ref hT), (1, .int x0)]) hx hb dX12_done_242 rfl hl (by decide) rfl (fun ls hl => ?_)
                            refine lv_goto (tgt := 403) hx hb dX12_done_243 (by decide) ?_
                            exact (k_X12_done_403 l D hT aT yT n) C X (lv_sub hl [3, 0] rfl) hF
                          · have c := fun h => c ((lg_cmp_lt _ _).mpr h)
                            replace hF := iF c hF
                            exact (k_X12_done_218 l D hT aT yT n) C X (lv_sub hl [3, 4] rfl) hF
                      · replace hF := iF c6 hF
                        by_cases c7 : (gIA gT 14 x0.toNatClampNeg) = (7 : Int32)
                        · replace hF := iT c7 hF
                          refine lv_tableIn (tgt := 246) (off := 82) hx hb dX12_done_164 (by rw [c7]; decide) (by rw [c7]; decide) (by rw [c7]; rfl) (by decide) ?_
                          refine lv_iload hx hb dX12_done_246 (lv_at hl 0 rfl) ?_
                          refine lv_bipush (v := (7 : Int32)) hx hb dX12_done_248 (by decide) ?_
                          refine lv_icmp_ne (tgt := 262) hx hb dX12_done_250 (by decide) (fun c => ?_) (fun c => ?_)
                          · replace hF := iF c hF
                            refine lv_iload hx hb dX12_done_262 (lv_at hl 0 rfl) ?_
                            refine lv_bipush (v := (6 : Int32)) hx hb dX12_done_264 (by decide) ?_
                            refine lv_icmp_ne (tgt := 280) hx hb dX12_done_266 (by decide) (fun c => ?_) (fun c => ?_)
                            · replace hF := iF c hF
                              refine lv_lload_n hx hb dX12_done_280 rfl (lv_at hl 1 rfl) ?_
                              refine lv_lneg hx hb dX12_done_281 ?_
                              refine lv_iload hx hb dX12_done_282 (lv_at hl 0 rfl) ?_
                              refine lv_iconst (v := (4 : Int32)) hx hb dX12_done_284 (by decide) ?_
                              refine lv_icmp_ge (tgt := 292) hx hb dX12_done_285 (by decide) (fun c => ?_) (fun c => ?_)
                              · replace hF := iT c hF
                                refine lv_iload hx hb dX12_done_292 (lv_at hl 0 rfl) ?_
                                exact (k_X12_done_294 l D hT aT yT n) C X (lv_sub hl [3] rfl) hF
                              · replace hF := iF c hF
                                refine lv_iconst (v := (4 : Int32)) hx hb dX12_done_288 (by decide) ?_
                                refine lv_goto (tgt := 294) hx hb dX12_done_289 (by decide) ?_
                                exact (k_X12_done_294 l D hT aT yT n) C X (lv_sub hl [3] rfl) hF
                            · replace hF := iT c hF
                              refine lv_lload_n hx hb dX12_done_269 rfl (lv_at hl 1 rfl) ?_
                              refine lv_l2i hx hb dX12_done_270 rfl ?_
                              refine lv_ldcw hx hb hown (hts _ q9_133) dX12_done_271 ?_
                              refine lv_ixor hx hb dX12_done_274 ?_
                              refine lv_i2l hx hb dX12_done_275 rfl ?_
                              refine lv_lstore_n (lv' := [(3, .long ((((gLA gT 92 ((gI gT 93) - (1 : Int32)).toNatClampNeg).toInt32) ^^^ (-2147483648 : Int32)).toInt64)), (5, .int (gIA gT 16 x0.toNatClampNeg)), (2, .int (gIA gT 15 x0.toNatClampNeg)), (0, .ref hT), (1, .int x0)]) hx hb dX12_done_276 rfl hl (by decide) rfl (fun ls hl => ?_)
                              refine lv_goto (tgt := 403) hx hb dX12_done_277 (by decide) ?_
                              exact (k_X12_done_403 l D hT aT yT n) C X (lv_sub hl [3, 0] rfl) hF
                          · replace hF := iT c hF
                            refine lv_lload_n hx hb dX12_done_253 rfl (lv_at hl 1 rfl) ?_
                            refine lv_ldc2 hx hb hown (hts _ q8_135) dX12_done_254 ?_
                            refine lv_lxor hx hb dX12_done_257 ?_
                            refine lv_lstore_n (lv' := [(3, .long ((gLA gT 92 ((gI gT 93) - (1 : Int32)).toNatClampNeg) ^^^ (-9223372036854775808 : Int64))), (5, .int (gIA gT 16 x0.toNatClampNeg)), (2, .int (gIA gT 15 x0.toNatClampNeg)), (0, .ref hT), (1, .int x0)]) hx hb dX12_done_258 rfl hl (by decide) rfl (fun ls hl => ?_)
                            refine lv_goto (tgt := 403) hx hb dX12_done_259 (by decide) ?_
                            exact (k_X12_done_403 l D hT aT yT n) C X (lv_sub hl [3, 0] rfl) hF
                        · replace hF := iF c7 hF
                          by_cases c8 : (gIA gT 14 x0.toNatClampNeg) = (8 : Int32)
                          · replace hF := iT c8 hF
                            refine lv_tableIn (tgt := 301) (off := 137) hx hb dX12_done_164 (by rw [c8]; decide) (by rw [c8]; decide) (by rw [c8]; rfl) (by decide) ?_
                            refine lv_lconst (v := (1 : Int64)) hx hb dX12_done_301 (by decide) ?_
                            refine lv_lload_n hx hb dX12_done_302 rfl (lv_at hl 1 rfl) ?_
                            refine lv_lsub hx hb dX12_done_303 ?_
                            refine lv_lstore_n (lv' := [(3, .long ((1 : Int64) - (gLA gT 92 ((gI gT 93) - (1 : Int32)).toNatClampNeg))), (5, .int (gIA gT 16 x0.toNatClampNeg)), (2, .int (gIA gT 15 x0.toNatClampNeg)), (0, .ref hT), (1, .int x0)]) hx hb dX12_done_304 rfl hl (by decide) rfl (fun ls hl => ?_)
                            refine lv_goto (tgt := 403) hx hb dX12_done_305 (by decide) ?_
                            exact (k_X12_done_403 l D hT aT yT n) C X (lv_sub hl [3, 0] rfl) hF
                          · replace hF := iF c8 hF
                            by_cases c9 : (gIA gT 14 x0.toNatClampNeg) = (9 : Int32)
                            · replace hF := iT c9 hF
                              refine lv_tableIn (tgt := 308) (off := 144) hx hb dX12_done_164 (by rw [c9]; decide) (by rw [c9]; decide) (by rw [c9]; rfl) (by decide) ?_
                              refine lv_aload_n hx hb dX12_done_308 rfl (lv_at hl 3 rfl) ?_
                              refine lv_lload_n hx hb dX12_done_309 rfl (lv_at hl 1 rfl) ?_
                              refine lv_iload hx hb dX12_done_310 (lv_at hl 0 rfl) ?_
                              refine lv_iload_n hx hb dX12_done_312 rfl (lv_at hl 2 rfl) ?_
                              obtain ⟨q_104, hc_105, hF⟩ := bnd_some hF
                              refine cV_l (As := [.long (gLA gT 92 ((gI gT 93) - (1 : Int32)).toNatClampNeg), .int (gIA gT 16 x0.toNatClampNeg), .int (gIA gT 15 x0.toNatClampNeg)]) (rest := []) C X (c_X12_become l D hT aT yT n gT (gLA gT 92 ((gI gT 93) - (1 : Int32)).toNatClampNeg) (gIA gT 16 x0.toNatClampNeg) (gIA gT 15 x0.toNatClampNeg) q_104 hc_105 _) (cwV 3 hts (good_V q8_136 q8_138 q0_73 q1_9 q8_139) rfl rfl rfl (by decide +kernel) ⟨Nat.le_of_ble_eq_true rfl, Nat.le_of_ble_eq_true rfl⟩) (va_recv X.1 X.2.1 (ci := 12) (q0 := 0) rfl rfl) X.1 X.2.1 X.2.2.1 (free_all X) hl.1 rfl rfl (Nat.le_of_ble_eq_true rfl) dX12_done_313 ⟨Nat.le_of_ble_eq_true rfl, Nat.le_of_ble_eq_true rfl⟩ (fun t H1 locs1 ht hB hk hS => ?_)
                              have X : Hx D (tX12 yT) A s H1 locs1 (wX12 hT aT yT q_104.2) := Hx_after_all X ht hB hS
                              clear hk hS ht hB
                              generalize H1 = H at X ⊢
                              generalize locs1 = locs at X ⊢
                              refine lv_lstore_n (lv' := [(3, .long q_104.1), (5, .int (gIA gT 16 x0.toNatClampNeg)), (2, .int (gIA gT 15 x0.toNatClampNeg)), (0, .ref hT), (1, .int x0)]) hx hb dX12_done_316 rfl hl (by decide) rfl (fun ls hl => ?_)
                              refine lv_iload_n hx hb dX12_done_317 rfl (lv_at hl 2 rfl) ?_
                              refine lv_bipush (v := (6 : Int32)) hx hb dX12_done_318 (by decide) ?_
                              refine lv_icmp_ne (tgt := 403) hx hb dX12_done_320 (by decide) (fun c => ?_) (fun c => ?_)
                              · replace hF := iF c hF
                                exact (k_X12_done_403 l D hT aT yT n) C X (lv_sub hl [3, 0] rfl) hF
                              · replace hF := iT c hF
                                refine lv_iload hx hb dX12_done_323 (lv_at hl 1 rfl) ?_
                                refine lv_bipush (v := (7 : Int32)) hx hb dX12_done_325 (by decide) ?_
                                refine lv_icmp_ne (tgt := 403) hx hb dX12_done_327 (by decide) (fun c => ?_) (fun c => ?_)
                                · replace hF := iF c hF
                                  exact (k_X12_done_403 l D hT aT yT n) C X (lv_sub hl [3, 0] rfl) hF
                                · replace hF := iT c hF
                                  refine lv_lload_n hx hb dX12_done_330 rfl (lv_at hl 0 rfl) ?_
                                  refine lv_ldc2 hx hb hown (hts _ q8_99) dX12_done_331 ?_
                                  refine W.lcmp hx hb dX12_done_334 ?_
                                  refine lv_if_ne (tgt := 403) hx hb dX12_done_335 (by decide) (fun c => ?_) (fun c => ?_)
                                  · have c := fun h => c ((lg_cmp_eq _ _).mpr h)
                                    replace hF := iF c hF
                                    exact (k_X12_done_403 l D hT aT yT n) C X (lv_sub hl [3, 0] rfl) hF
                                  · have c := (lg_cmp_eq _ _).mp c
                                    replace hF := iT c hF
                                    refine lv_aload_n hx hb dX12_done_338 rfl (lv_at hl 3 rfl) ?_
                                    refine lv_iconst (v := (3 : Int32)) hx hb dX12_done_339 (by decide) ?_
                                    refine lv_aload_n hx hb dX12_done_340 rfl (lv_at hl 3 rfl) ?_
                                    refine va_get (D := D.1) (ci := 12) (v := .ref (aT 17)) (C := RX12) (T := TX12) (N := 114) hx hb hts wi_X12 hown X.1 X.2.1 0 rfl rfl 17 (by decide) (hts _ q6_211) (fun _ h9 => h9) (fl_get (by decide)) dX12_done_341 ?_
                                    refine lv_iload_n hx hb dX12_done_344 rfl (lv_at hl 4 rfl) ?_
                                    obtain ⟨h_106, hF⟩ := grd_some hF
                                    refine va_iald (D := D.1) (f := gIA q_104.2 17) hx hb X.1 X.2.1 12 11 rfl rfl (inB_ok h_106) dX12_done_345 ?_
                                    obtain ⟨q_107, hc_108, hF⟩ := bnd_some hF
                                    refine cV_i (As := [.int (3 : Int32), .int (gIA q_104.2 17 x0.toNatClampNeg)]) (rest := []) C X (c_X12_jams l D hT aT yT q_104.2 (3 : Int32) (gIA q_104.2 17 x0.toNatClampNeg) q_107 hc_108 _) (cwV 2 hts (good_V q9_110 q9_112 q0_117 q1_9 q9_113) rfl rfl rfl (by decide +kernel) ⟨Nat.le_of_ble_eq_true rfl, Nat.le_of_ble_eq_true rfl⟩) (va_recv X.1 X.2.1 (ci := 12) (q0 := 0) rfl rfl) X.1 X.2.1 X.2.2.1 (free_all X) hl.1 rfl rfl (Nat.le_of_ble_eq_true rfl) dX12_done_346 ⟨Nat.le_of_ble_eq_true rfl, Nat.le_of_ble_eq_true rfl⟩ (fun t H1 locs1 ht hB hk hS => ?_)
                                    have X : Hx D (tX12 yT) A s H1 locs1 (wX12 hT aT yT q_107.2) := Hx_after_all X ht hB hS
                                    clear hk hS ht hB
                                    generalize H1 = H at X ⊢
                                    generalize locs1 = locs at X ⊢
                                    obtain ⟨h_109, hF⟩ := grd_some hF
                                    have hq := Option.some.inj hF
                                    subst hq
                                    exact rt_z (v := q_107.1) C X (zB_n h_109) dX12_done_349
                            · replace hF := iF c9 hF
                              by_cases c10 : (gIA gT 14 x0.toNatClampNeg) = (10 : Int32)
                              · replace hF := iT c10 hF
                                refine lv_tableIn (tgt := 350) (off := 186) hx hb dX12_done_164 (by rw [c10]; decide) (by rw [c10]; decide) (by rw [c10]; rfl) (by decide) ?_
                                refine lv_aload_n hx hb dX12_done_350 rfl (lv_at hl 3 rfl) ?_
                                refine lv_lload_n hx hb dX12_done_351 rfl (lv_at hl 1 rfl) ?_
                                refine lv_iload hx hb dX12_done_352 (lv_at hl 0 rfl) ?_
                                refine lv_bipush (v := (7 : Int32)) hx hb dX12_done_354 (by decide) ?_
                                obtain ⟨q_110, hc_111, hF⟩ := bnd_some hF
                                refine cV_l (As := [.long (gLA gT 92 ((gI gT 93) - (1 : Int32)).toNatClampNeg), .int (gIA gT 16 x0.toNatClampNeg), .int (7 : Int32)]) (rest := []) C X (c_X12_become l D hT aT yT n gT (gLA gT 92 ((gI gT 93) - (1 : Int32)).toNatClampNeg) (gIA gT 16 x0.toNatClampNeg) (7 : Int32) q_110 hc_111 _) (cwV 3 hts (good_V q8_136 q8_138 q0_73 q1_9 q8_139) rfl rfl rfl (by decide +kernel) ⟨Nat.le_of_ble_eq_true rfl, Nat.le_of_ble_eq_true rfl⟩) (va_recv X.1 X.2.1 (ci := 12) (q0 := 0) rfl rfl) X.1 X.2.1 X.2.2.1 (free_all X) hl.1 rfl rfl (Nat.le_of_ble_eq_true rfl) dX12_done_356 ⟨Nat.le_of_ble_eq_true rfl, Nat.le_of_ble_eq_true rfl⟩ (fun t H1 locs1 ht hB hk hS => ?_)
                                have X : Hx D (tX12 yT) A s H1 locs1 (wX12 hT aT yT q_110.2) := Hx_after_all X ht hB hS
                                clear hk hS ht hB
                                generalize H1 = H at X ⊢
                                generalize locs1 = locs at X ⊢
                                refine lv_lstore_n (lv' := [(3, .long q_110.1), (5, .int (gIA gT 16 x0.toNatClampNeg)), (2, .int (gIA gT 15 x0.toNatClampNeg)), (0, .ref hT), (1, .int x0)]) hx hb dX12_done_359 rfl hl (by decide) rfl (fun ls hl => ?_)
                                refine lv_iload_n hx hb dX12_done_360 rfl (lv_at hl 2 rfl) ?_
                                refine lv_sipush (v := (212 : Int32)) hx hb dX12_done_361 (by decide) ?_
                                refine lv_icmp_ne (tgt := 374) hx hb dX12_done_364 (by decide) (fun c => ?_) (fun c => ?_)
                                · replace hF := iF c hF
                                  refine lv_aload_n hx hb dX12_done_374 rfl (lv_at hl 3 rfl) ?_
                                  refine lv_lload_n hx hb dX12_done_375 rfl (lv_at hl 0 rfl) ?_
                                  refine lv_iload_n hx hb dX12_done_376 rfl (lv_at hl 2 rfl) ?_
                                  refine lv_sipush (v := (209 : Int32)) hx hb dX12_done_377 (by decide) ?_
                                  refine lv_isub hx hb dX12_done_380 ?_
                                  obtain ⟨q_112, hc_113, hF⟩ := bnd_some hF
                                  refine cV_l (As := [.long q_110.1, .int ((gIA gT 15 x0.toNatClampNeg) - (209 : Int32))]) (rest := []) C X (c_X12_evened l D hT aT yT n q_110.2 q_110.1 ((gIA gT 15 x0.toNatClampNeg) - (209 : Int32)) q_112 hc_113 _) (cwV 2 hts (good_V q9_134 q9_136 q0_120 q1_9 q9_137) rfl rfl rfl (by decide +kernel) ⟨Nat.le_of_ble_eq_true rfl, Nat.le_of_ble_eq_true rfl⟩) (va_recv X.1 X.2.1 (ci := 12) (q0 := 0) rfl rfl) X.1 X.2.1 X.2.2.1 (free_all X) hl.1 rfl rfl (Nat.le_of_ble_eq_true rfl) dX12_done_381 ⟨Nat.le_of_ble_eq_true rfl, Nat.le_of_ble_eq_true rfl⟩ (fun t H1 locs1 ht hB hk hS => ?_)
                                  have X : Hx D (tX12 yT) A s H1 locs1 (wX12 hT aT yT q_112.2) := Hx_after_all X ht hB hS
                                  clear hk hS ht hB
                                  generalize H1 = H at X ⊢
                                  generalize locs1 = locs at X ⊢
                                  exact (k_X12_done_384 l D hT aT yT n) C X (lv_sub hl [3] rfl) hF
                                · replace hF := iT c hF
                                  refine lv_lload_n hx hb dX12_done_367 rfl (lv_at hl 0 rfl) ?_
                                  obtain ⟨q_114, hc_115, hF⟩ := bnd_some hF
                                  refine cS_l (As := [.long q_110.1]) (rest := []) C X (c_X12_withoutSign l D  q_110.1 q_114 hc_115 _) (va_cwS 1 hts (good_S q9_89 q9_90 q1_9 q9_91) rfl rfl rfl (by decide +kernel) ⟨Nat.le_of_ble_eq_true rfl, Nat.le_of_ble_eq_true rfl⟩) (eK X) eP (eD (A := A)) (eF X) hl.1 rfl rfl (Nat.le_of_ble_eq_true rfl) dX12_done_368 ⟨Nat.le_of_ble_eq_true rfl, Nat.le_of_ble_eq_true rfl⟩ (fun t H1 locs1 ht hB hk hS => ?_)
                                  have X := Hx_after_none X hk hS
                                  clear hk hS ht hB
                                  generalize H1 = H at X ⊢
                                  generalize locs1 = locs at X ⊢
                                  refine lv_goto (tgt := 384) hx hb dX12_done_371 (by decide) ?_
                                  exact (k_X12_done_384 l D hT aT yT n) C X (lv_sub hl [3] rfl) hF
                              · replace hF := iF c10 hF
                                refine lv_tableOut (tgt := 388) hx hb dX12_done_164 (tbl_out (6) (10) 5 (by decide) ⟨tne c6 (by decide), ⟨tne c7 (by decide), ⟨tne c8 (by decide), ⟨tne c9 (by decide), ⟨tne c10 (by decide), trivial⟩⟩⟩⟩⟩) (by decide) ?_
                                refine lv_aload_n hx hb dX12_done_388 rfl (lv_at hl 3 rfl) ?_
                                refine lv_lload_n hx hb dX12_done_389 rfl (lv_at hl 1 rfl) ?_
                                refine lv_iload hx hb dX12_done_390 (lv_at hl 0 rfl) ?_
                                refine lv_iconst (v := (3 : Int32)) hx hb dX12_done_392 (by decide) ?_
                                refine lv_ishr hx hb dX12_done_393 ?_
                                refine lv_iload hx hb dX12_done_394 (lv_at hl 0 rfl) ?_
                                refine lv_bipush (v := (7 : Int32)) hx hb dX12_done_396 (by decide) ?_
                                refine lv_iand hx hb dX12_done_398 ?_
                                obtain ⟨q_116, hc_117, hF⟩ := bnd_some hF
                                refine cV_l (As := [.long (gLA gT 92 ((gI gT 93) - (1 : Int32)).toNatClampNeg), .int ((gIA gT 16 x0.toNatClampNeg) >>> ((3 : Int32) &&& 31)), .int ((gIA gT 16 x0.toNatClampNeg) &&& (7 : Int32))]) (rest := []) C X (c_X12_become l D hT aT yT n gT (gLA gT 92 ((gI gT 93) - (1 : Int32)).toNatClampNeg) ((gIA gT 16 x0.toNatClampNeg) >>> ((3 : Int32) &&& 31)) ((gIA gT 16 x0.toNatClampNeg) &&& (7 : Int32)) q_116 hc_117 _) (cwV 3 hts (good_V q8_136 q8_138 q0_73 q1_9 q8_139) rfl rfl rfl (by decide +kernel) ⟨Nat.le_of_ble_eq_true rfl, Nat.le_of_ble_eq_true rfl⟩) (va_recv X.1 X.2.1 (ci := 12) (q0 := 0) rfl rfl) X.1 X.2.1 X.2.2.1 (free_all X) hl.1 rfl rfl (Nat.le_of_ble_eq_true rfl) dX12_done_399 ⟨Nat.le_of_ble_eq_true rfl, Nat.le_of_ble_eq_true rfl⟩ (fun t H1 locs1 ht hB hk hS => ?_)
                                have X : Hx D (tX12 yT) A s H1 locs1 (wX12 hT aT yT q_116.2) := Hx_after_all X ht hB hS
                                clear hk hS ht hB
                                generalize H1 = H at X ⊢
                                generalize locs1 = locs at X ⊢
                                refine lv_lstore_n (lv' := [(3, .long q_116.1), (5, .int (gIA gT 16 x0.toNatClampNeg)), (2, .int (gIA gT 15 x0.toNatClampNeg)), (0, .ref hT), (1, .int x0)]) hx hb dX12_done_402 rfl hl (by decide) rfl (fun ls hl => ?_)
                                exact (k_X12_done_403 l D hT aT yT n) C X (lv_sub hl [3, 0] rfl) hF
                    · replace hF := iF c10 hF
                      by_cases c11 : (gIA gT 14 x0.toNatClampNeg) = (11 : Int32)
                      · replace hF := iT c11 hF
                        refine lv_tableIn (tgt := 132) (off := 119) hx hb dX12_done_13 (by rw [c11]; decide) (by rw [c11]; decide) (by rw [c11]; rfl) (by decide) ?_
                        refine lv_aload_n hx hb dX12_done_132 rfl (lv_at hl 1 rfl) ?_
                        refine lv_iload_n hx hb dX12_done_133 rfl (lv_at hl 2 rfl) ?_
                        obtain ⟨q_118, hc_119, hF⟩ := bnd_some hF
                        refine cV_i (As := [.int x0]) (rest := []) C X (c_X12_joins l D hT aT yT n gT x0 q_118 hc_119 _) (cwV 1 hts (good_V q9_81 q9_83 q0_112 q1_9 q9_84) rfl rfl rfl (by decide +kernel) ⟨Nat.le_of_ble_eq_true rfl, Nat.le_of_ble_eq_true rfl⟩) (va_recv X.1 X.2.1 (ci := 12) (q0 := 0) rfl rfl) X.1 X.2.1 X.2.2.1 (free_all X) hl.1 rfl rfl (Nat.le_of_ble_eq_true rfl) dX12_done_134 ⟨Nat.le_of_ble_eq_true rfl, Nat.le_of_ble_eq_true rfl⟩ (fun t H1 locs1 ht hB hk hS => ?_)
                        have X : Hx D (tX12 yT) A s H1 locs1 (wX12 hT aT yT q_118.2) := Hx_after_all X ht hB hS
                        clear hk hS ht hB
                        generalize H1 = H at X ⊢
                        generalize locs1 = locs at X ⊢
                        obtain ⟨h_120, hF⟩ := grd_some hF
                        have hq := Option.some.inj hF
                        subst hq
                        exact rt_z (v := q_118.1) C X (zB_n h_120) dX12_done_137
                      · replace hF := iF c11 hF
                        by_cases c12 : (gIA gT 14 x0.toNatClampNeg) = (12 : Int32)
                        · replace hF := iT c12 hF
                          refine lv_tableIn (tgt := 132) (off := 119) hx hb dX12_done_13 (by rw [c12]; decide) (by rw [c12]; decide) (by rw [c12]; rfl) (by decide) ?_
                          refine lv_aload_n hx hb dX12_done_132 rfl (lv_at hl 1 rfl) ?_
                          refine lv_iload_n hx hb dX12_done_133 rfl (lv_at hl 2 rfl) ?_
                          obtain ⟨q_121, hc_122, hF⟩ := bnd_some hF
                          refine cV_i (As := [.int x0]) (rest := []) C X (c_X12_joins l D hT aT yT n gT x0 q_121 hc_122 _) (cwV 1 hts (good_V q9_81 q9_83 q0_112 q1_9 q9_84) rfl rfl rfl (by decide +kernel) ⟨Nat.le_of_ble_eq_true rfl, Nat.le_of_ble_eq_true rfl⟩) (va_recv X.1 X.2.1 (ci := 12) (q0 := 0) rfl rfl) X.1 X.2.1 X.2.2.1 (free_all X) hl.1 rfl rfl (Nat.le_of_ble_eq_true rfl) dX12_done_134 ⟨Nat.le_of_ble_eq_true rfl, Nat.le_of_ble_eq_true rfl⟩ (fun t H1 locs1 ht hB hk hS => ?_)
                          have X : Hx D (tX12 yT) A s H1 locs1 (wX12 hT aT yT q_121.2) := Hx_after_all X ht hB hS
                          clear hk hS ht hB
                          generalize H1 = H at X ⊢
                          generalize locs1 = locs at X ⊢
                          obtain ⟨h_123, hF⟩ := grd_some hF
                          have hq := Option.some.inj hF
                          subst hq
                          exact rt_z (v := q_121.1) C X (zB_n h_123) dX12_done_137
                        · replace hF := iF c12 hF
                          refine lv_tableOut (tgt := 138) hx hb dX12_done_13 (tbl_out (1) (12) 12 (by decide) ⟨tne c1 (by decide), ⟨tne c2 (by decide), ⟨tne c3 (by decide), ⟨tne c4 (by decide), ⟨tne c5 (by decide), ⟨tne c6 (by decide), ⟨tne c7 (by decide), ⟨tne c8 (by decide), ⟨tne c9 (by decide), ⟨tne c10 (by decide), ⟨tne c11 (by decide), ⟨tne c12 (by decide), trivial⟩⟩⟩⟩⟩⟩⟩⟩⟩⟩⟩⟩) (by decide) ?_
                          refine lv_aload_n hx hb dX12_done_138 rfl (lv_at hl 1 rfl) ?_
                          refine va_get (D := D.1) (ci := 12) (v := .ref (aT 92)) (C := RX12) (T := TX12) (N := 114) hx hb hts wi_X12 hown X.1 X.2.1 0 rfl rfl 92 (by decide) (hts _ q7_46) (fun _ h9 => h9) (fl_get (by decide)) dX12_done_139 ?_
                          refine lv_aload_n hx hb dX12_done_142 rfl (lv_at hl 1 rfl) ?_
                          refine va_get (D := D.1) (ci := 12) (v := .int (gI gT 93)) (C := RX12) (T := TX12) (N := 114) hx hb hts wi_X12 hown X.1 X.2.1 0 rfl rfl 93 (by decide) (hts _ q7_47) (fun _ h9 => h9) (fl_get (by decide)) dX12_done_143 ?_
                          refine lv_iconst (v := (1 : Int32)) hx hb dX12_done_146 (by decide) ?_
                          refine lv_isub hx hb dX12_done_147 ?_
                          obtain ⟨h_124, hF⟩ := grd_some hF
                          refine va_lald (D := D.1) (f := gLA gT 92) hx hb X.1 X.2.1 63 62 rfl rfl (inB_ok h_124) dX12_done_148 ?_
                          refine lv_lstore_n (lv' := [(3, .long (gLA gT 92 ((gI gT 93) - (1 : Int32)).toNatClampNeg)), (2, .int (gIA gT 15 x0.toNatClampNeg)), (0, .ref hT), (1, .int x0)]) hx hb dX12_done_149 rfl hl (by decide) rfl (fun ls hl => ?_)
                          refine lv_aload_n hx hb dX12_done_150 rfl (lv_at hl 2 rfl) ?_
                          refine va_get (D := D.1) (ci := 12) (v := .ref (aT 16)) (C := RX12) (T := TX12) (N := 114) hx hb hts wi_X12 hown X.1 X.2.1 0 rfl rfl 16 (by decide) (hts _ q6_210) (fun _ h9 => h9) (fl_get (by decide)) dX12_done_151 ?_
                          refine lv_iload_n hx hb dX12_done_154 rfl (lv_at hl 3 rfl) ?_
                          obtain ⟨h_125, hF⟩ := grd_some hF
                          refine va_iald (D := D.1) (f := gIA gT 16) hx hb X.1 X.2.1 11 10 rfl rfl (inB_ok h_125) dX12_done_155 ?_
                          refine lv_istore (lv' := [(5, .int (gIA gT 16 x0.toNatClampNeg)), (3, .long (gLA gT 92 ((gI gT 93) - (1 : Int32)).toNatClampNeg)), (2, .int (gIA gT 15 x0.toNatClampNeg)), (0, .ref hT), (1, .int x0)]) hx hb dX12_done_156 hl (by decide) rfl (fun ls hl => ?_)
                          refine lv_aload_n hx hb dX12_done_158 rfl (lv_at hl 3 rfl) ?_
                          refine va_get (D := D.1) (ci := 12) (v := .ref (aT 14)) (C := RX12) (T := TX12) (N := 114) hx hb hts wi_X12 hown X.1 X.2.1 0 rfl rfl 14 (by decide) (hts _ q6_208) (fun _ h9 => h9) (fl_get (by decide)) dX12_done_159 ?_
                          refine lv_iload_n hx hb dX12_done_162 rfl (lv_at hl 4 rfl) ?_
                          obtain ⟨h_126, hF⟩ := grd_some hF
                          refine va_iald (D := D.1) (f := gIA gT 14) hx hb X.1 X.2.1 9 8 rfl rfl (inB_ok h_126) dX12_done_163 ?_
                          by_cases c6 : (gIA gT 14 x0.toNatClampNeg) = (6 : Int32)
                          · replace hF := iT c6 hF
                            refine lv_tableIn (tgt := 200) (off := 36) hx hb dX12_done_164 (by rw [c6]; decide) (by rw [c6]; decide) (by rw [c6]; rfl) (by decide) ?_
                            refine lv_lload_n hx hb dX12_done_200 rfl (lv_at hl 1 rfl) ?_
                            refine lv_lconst (v := (0 : Int64)) hx hb dX12_done_201 (by decide) ?_
                            refine W.lcmp hx hb dX12_done_202 ?_
                            refine lv_if_lt (tgt := 218) hx hb dX12_done_203 (by decide) (fun c => ?_) (fun c => ?_)
                            · have c := (lg_cmp_lt _ _).mp c
                              replace hF := iT c hF
                              exact (k_X12_done_218 l D hT aT yT n) C X (lv_sub hl [3, 4] rfl) hF
                            · have c := fun h => c ((lg_cmp_lt _ _).mpr h)
                              replace hF := iF c hF
                              refine lv_lload_n hx hb dX12_done_206 rfl (lv_at hl 1 rfl) ?_
                              refine lv_aload_n hx hb dX12_done_207 rfl (lv_at hl 3 rfl) ?_
                              refine va_get (D := D.1) (ci := 12) (v := .ref (aT 78)) (C := RX12) (T := TX12) (N := 114) hx hb hts wi_X12 hown X.1 X.2.1 0 rfl rfl 78 (by decide) (hts _ q7_32) (fun _ h9 => h9) (fl_get (by decide)) dX12_done_208 ?_
                              refine lv_iload_n hx hb dX12_done_211 rfl (lv_at hl 2 rfl) ?_
                              obtain ⟨h_127, hF⟩ := grd_some hF
                              refine va_iald (D := D.1) (f := gIA gT 78) hx hb X.1 X.2.1 52 51 rfl rfl (inB_ok h_127) dX12_done_212 ?_
                              refine lv_i2l hx hb dX12_done_213 rfl ?_
                              refine W.lcmp hx hb dX12_done_214 ?_
                              refine lv_if_lt (tgt := 230) hx hb dX12_done_215 (by decide) (fun c => ?_) (fun c => ?_)
                              · have c := (lg_cmp_lt _ _).mp c
                                replace hF := iT c hF
                                refine lv_aload_n hx hb dX12_done_230 rfl (lv_at hl 3 rfl) ?_
                                refine va_get (D := D.1) (ci := 12) (v := .ref (aT 79)) (C := RX12) (T := TX12) (N := 114) hx hb hts wi_X12 hown X.1 X.2.1 0 rfl rfl 79 (by decide) (hts _ q7_33) (fun _ h9 => h9) (fl_get (by decide)) dX12_done_231 ?_
                                refine lv_bipush (v := (24 : Int32)) hx hb dX12_done_234 (by decide) ?_
                                refine lv_iload_n hx hb dX12_done_236 rfl (lv_at hl 2 rfl) ?_
                                refine lv_imul hx hb dX12_done_237 ?_
                                refine lv_lload_n hx hb dX12_done_238 rfl (lv_at hl 1 rfl) ?_
                                refine lv_l2i hx hb dX12_done_239 rfl ?_
                                refine lv_iadd hx hb dX12_done_240 ?_
                                obtain ⟨h_128, hF⟩ := grd_some hF
                                refine va_lald (D := D.1) (f := gLA gT 79) hx hb X.1 X.2.1 53 52 rfl rfl (inB_ok h_128) dX12_done_241 ?_
                                refine lv_lstore_n (lv' := [(3, .long (gLA gT 79 (((24 : Int32) * (gIA gT 15 x0.toNatClampNeg)) + ((gLA gT 92 ((gI gT 93) - (1 : Int32)).toNatClampNeg).toInt32)).toNatClampNeg)), (5, .int (gIA gT 16 x0.toNatClampNeg)), (2, .int (gIA gT 15 x0.toNatClampNeg)), (0, .ref hT), (1, .int x0)]) hx hb dX12_done_242 rfl hl (by decide) rfl (fun ls hl => ?_)
                                refine lv_goto (tgt := 403) hx hb dX12_done_243 (by decide) ?_
                                exact (k_X12_done_403 l D hT aT yT n) C X (lv_sub hl [3, 0] rfl) hF
                              · have c := fun h => c ((lg_cmp_lt _ _).mpr h)
                                replace hF := iF c hF
                                exact (k_X12_done_218 l D hT aT yT n) C X (lv_sub hl [3, 4] rfl) hF
                          · replace hF := iF c6 hF
                            by_cases c7 : (gIA gT 14 x0.toNatClampNeg) = (7 : Int32)
                            · replace hF := iT c7 hF
                              refine lv_tableIn (tgt := 246) (off := 82) hx hb dX12_done_164 (by rw [c7]; decide) (by rw [c7]; decide) (by rw [c7]; rfl) (by decide) ?_
                              refine lv_iload hx hb dX12_done_246 (lv_at hl 0 rfl) ?_
                              refine lv_bipush (v := (7 : Int32)) hx hb dX12_done_248 (by decide) ?_
                              refine lv_icmp_ne (tgt := 262) hx hb dX12_done_250 (by decide) (fun c => ?_) (fun c => ?_)
                              · replace hF := iF c hF
                                refine lv_iload hx hb dX12_done_262 (lv_at hl 0 rfl) ?_
                                refine lv_bipush (v := (6 : Int32)) hx hb dX12_done_264 (by decide) ?_
                                refine lv_icmp_ne (tgt := 280) hx hb dX12_done_266 (by decide) (fun c => ?_) (fun c => ?_)
                                · replace hF := iF c hF
                                  refine lv_lload_n hx hb dX12_done_280 rfl (lv_at hl 1 rfl) ?_
                                  refine lv_lneg hx hb dX12_done_281 ?_
                                  refine lv_iload hx hb dX12_done_282 (lv_at hl 0 rfl) ?_
                                  refine lv_iconst (v := (4 : Int32)) hx hb dX12_done_284 (by decide) ?_
                                  refine lv_icmp_ge (tgt := 292) hx hb dX12_done_285 (by decide) (fun c => ?_) (fun c => ?_)
                                  · replace hF := iT c hF
                                    refine lv_iload hx hb dX12_done_292 (lv_at hl 0 rfl) ?_
                                    exact (k_X12_done_294 l D hT aT yT n) C X (lv_sub hl [3] rfl) hF
                                  · replace hF := iF c hF
                                    refine lv_iconst (v := (4 : Int32)) hx hb dX12_done_288 (by decide) ?_
                                    refine lv_goto (tgt := 294) hx hb dX12_done_289 (by decide) ?_
                                    exact (k_X12_done_294 l D hT aT yT n) C X (lv_sub hl [3] rfl) hF
                                · replace hF := iT c hF
                                  refine lv_lload_n hx hb dX12_done_269 rfl (lv_at hl 1 rfl) ?_
                                  refine lv_l2i hx hb dX12_done_270 rfl ?_
                                  refine lv_ldcw hx hb hown (hts _ q9_133) dX12_done_271 ?_
                                  refine lv_ixor hx hb dX12_done_274 ?_
                                  refine lv_i2l hx hb dX12_done_275 rfl ?_
                                  refine lv_lstore_n (lv' := [(3, .long ((((gLA gT 92 ((gI gT 93) - (1 : Int32)).toNatClampNeg).toInt32) ^^^ (-2147483648 : Int32)).toInt64)), (5, .int (gIA gT 16 x0.toNatClampNeg)), (2, .int (gIA gT 15 x0.toNatClampNeg)), (0, .ref hT), (1, .int x0)]) hx hb dX12_done_276 rfl hl (by decide) rfl (fun ls hl => ?_)
                                  refine lv_goto (tgt := 403) hx hb dX12_done_277 (by decide) ?_
                                  exact (k_X12_done_403 l D hT aT yT n) C X (lv_sub hl [3, 0] rfl) hF
                              · replace hF := iT c hF
                                refine lv_lload_n hx hb dX12_done_253 rfl (lv_at hl 1 rfl) ?_
                                refine lv_ldc2 hx hb hown (hts _ q8_135) dX12_done_254 ?_
                                refine lv_lxor hx hb dX12_done_257 ?_
                                refine lv_lstore_n (lv' := [(3, .long ((gLA gT 92 ((gI gT 93) - (1 : Int32)).toNatClampNeg) ^^^ (-9223372036854775808 : Int64))), (5, .int (gIA gT 16 x0.toNatClampNeg)), (2, .int (gIA gT 15 x0.toNatClampNeg)), (0, .ref hT), (1, .int x0)]) hx hb dX12_done_258 rfl hl (by decide) rfl (fun ls hl => ?_)
                                refine lv_goto (tgt := 403) hx hb dX12_done_259 (by decide) ?_
                                exact (k_X12_done_403 l D hT aT yT n) C X (lv_sub hl [3, 0] rfl) hF
                            · replace hF := iF c7 hF
                              by_cases c8 : (gIA gT 14 x0.toNatClampNeg) = (8 : Int32)
                              · replace hF := iT c8 hF
                                refine lv_tableIn (tgt := 301) (off := 137) hx hb dX12_done_164 (by rw [c8]; decide) (by rw [c8]; decide) (by rw [c8]; rfl) (by decide) ?_
                                refine lv_lconst (v := (1 : Int64)) hx hb dX12_done_301 (by decide) ?_
                                refine lv_lload_n hx hb dX12_done_302 rfl (lv_at hl 1 rfl) ?_
                                refine lv_lsub hx hb dX12_done_303 ?_
                                refine lv_lstore_n (lv' := [(3, .long ((1 : Int64) - (gLA gT 92 ((gI gT 93) - (1 : Int32)).toNatClampNeg))), (5, .int (gIA gT 16 x0.toNatClampNeg)), (2, .int (gIA gT 15 x0.toNatClampNeg)), (0, .ref hT), (1, .int x0)]) hx hb dX12_done_304 rfl hl (by decide) rfl (fun ls hl => ?_)
                                refine lv_goto (tgt := 403) hx hb dX12_done_305 (by decide) ?_
                                exact (k_X12_done_403 l D hT aT yT n) C X (lv_sub hl [3, 0] rfl) hF
                              · replace hF := iF c8 hF
                                by_cases c9 : (gIA gT 14 x0.toNatClampNeg) = (9 : Int32)
                                · replace hF := iT c9 hF
                                  refine lv_tableIn (tgt := 308) (off := 144) hx hb dX12_done_164 (by rw [c9]; decide) (by rw [c9]; decide) (by rw [c9]; rfl) (by decide) ?_
                                  refine lv_aload_n hx hb dX12_done_308 rfl (lv_at hl 3 rfl) ?_
                                  refine lv_lload_n hx hb dX12_done_309 rfl (lv_at hl 1 rfl) ?_
                                  refine lv_iload hx hb dX12_done_310 (lv_at hl 0 rfl) ?_
                                  refine lv_iload_n hx hb dX12_done_312 rfl (lv_at hl 2 rfl) ?_
                                  obtain ⟨q_129, hc_130, hF⟩ := bnd_some hF
                                  refine cV_l (As := [.long (gLA gT 92 ((gI gT 93) - (1 : Int32)).toNatClampNeg), .int (gIA gT 16 x0.toNatClampNeg), .int (gIA gT 15 x0.toNatClampNeg)]) (rest := []) C X (c_X12_become l D hT aT yT n gT (gLA gT 92 ((gI gT 93) - (1 : Int32)).toNatClampNeg) (gIA gT 16 x0.toNatClampNeg) (gIA gT 15 x0.toNatClampNeg) q_129 hc_130 _) (cwV 3 hts (good_V q8_136 q8_138 q0_73 q1_9 q8_139) rfl rfl rfl (by decide +kernel) ⟨Nat.le_of_ble_eq_true rfl, Nat.le_of_ble_eq_true rfl⟩) (va_recv X.1 X.2.1 (ci := 12) (q0 := 0) rfl rfl) X.1 X.2.1 X.2.2.1 (free_all X) hl.1 rfl rfl (Nat.le_of_ble_eq_true rfl) dX12_done_313 ⟨Nat.le_of_ble_eq_true rfl, Nat.le_of_ble_eq_true rfl⟩ (fun t H1 locs1 ht hB hk hS => ?_)
                                  have X : Hx D (tX12 yT) A s H1 locs1 (wX12 hT aT yT q_129.2) := Hx_after_all X ht hB hS
                                  clear hk hS ht hB
                                  generalize H1 = H at X ⊢
                                  generalize locs1 = locs at X ⊢
                                  refine lv_lstore_n (lv' := [(3, .long q_129.1), (5, .int (gIA gT 16 x0.toNatClampNeg)), (2, .int (gIA gT 15 x0.toNatClampNeg)), (0, .ref hT), (1, .int x0)]) hx hb dX12_done_316 rfl hl (by decide) rfl (fun ls hl => ?_)
                                  refine lv_iload_n hx hb dX12_done_317 rfl (lv_at hl 2 rfl) ?_
                                  refine lv_bipush (v := (6 : Int32)) hx hb dX12_done_318 (by decide) ?_
                                  refine lv_icmp_ne (tgt := 403) hx hb dX12_done_320 (by decide) (fun c => ?_) (fun c => ?_)
                                  · replace hF := iF c hF
                                    exact (k_X12_done_403 l D hT aT yT n) C X (lv_sub hl [3, 0] rfl) hF
                                  · replace hF := iT c hF
                                    refine lv_iload hx hb dX12_done_323 (lv_at hl 1 rfl) ?_
                                    refine lv_bipush (v := (7 : Int32)) hx hb dX12_done_325 (by decide) ?_
                                    refine lv_icmp_ne (tgt := 403) hx hb dX12_done_327 (by decide) (fun c => ?_) (fun c => ?_)
                                    · replace hF := iF c hF
                                      exact (k_X12_done_403 l D hT aT yT n) C X (lv_sub hl [3, 0] rfl) hF
                                    · replace hF := iT c hF
                                      refine lv_lload_n hx hb dX12_done_330 rfl (lv_at hl 0 rfl) ?_
                                      refine lv_ldc2 hx hb hown (hts _ q8_99) dX12_done_331 ?_
                                      refine W.lcmp hx hb dX12_done_334 ?_
                                      refine lv_if_ne (tgt := 403) hx hb dX12_done_335 (by decide) (fun c => ?_) (fun c => ?_)
                                      · have c := fun h => c ((lg_cmp_eq _ _).mpr h)
                                        replace hF := iF c hF
                                        exact (k_X12_done_403 l D hT aT yT n) C X (lv_sub hl [3, 0] rfl) hF
                                      · have c := (lg_cmp_eq _ _).mp c
                                        replace hF := iT c hF
                                        refine lv_aload_n hx hb dX12_done_338 rfl (lv_at hl 3 rfl) ?_
                                        refine lv_iconst (v := (3 : Int32)) hx hb dX12_done_339 (by decide) ?_
                                        refine lv_aload_n hx hb dX12_done_340 rfl (lv_at hl 3 rfl) ?_
                                        refine va_get (D := D.1) (ci := 12) (v := .ref (aT 17)) (C := RX12) (T := TX12) (N := 114) hx hb hts wi_X12 hown X.1 X.2.1 0 rfl rfl 17 (by decide) (hts _ q6_211) (fun _ h9 => h9) (fl_get (by decide)) dX12_done_341 ?_
                                        refine lv_iload_n hx hb dX12_done_344 rfl (lv_at hl 4 rfl) ?_
                                        obtain ⟨h_131, hF⟩ := grd_some hF
                                        refine va_iald (D := D.1) (f := gIA q_129.2 17) hx hb X.1 X.2.1 12 11 rfl rfl (inB_ok h_131) dX12_done_345 ?_
                                        obtain ⟨q_132, hc_133, hF⟩ := bnd_some hF
                                        refine cV_i (As := [.int (3 : Int32), .int (gIA q_129.2 17 x0.toNatClampNeg)]) (rest := []) C X (c_X12_jams l D hT aT yT q_129.2 (3 : Int32) (gIA q_129.2 17 x0.toNatClampNeg) q_132 hc_133 _) (cwV 2 hts (good_V q9_110 q9_112 q0_117 q1_9 q9_113) rfl rfl rfl (by decide +kernel) ⟨Nat.le_of_ble_eq_true rfl, Nat.le_of_ble_eq_true rfl⟩) (va_recv X.1 X.2.1 (ci := 12) (q0 := 0) rfl rfl) X.1 X.2.1 X.2.2.1 (free_all X) hl.1 rfl rfl (Nat.le_of_ble_eq_true rfl) dX12_done_346 ⟨Nat.le_of_ble_eq_true rfl, Nat.le_of_ble_eq_true rfl⟩ (fun t H1 locs1 ht hB hk hS => ?_)
                                        have X : Hx D (tX12 yT) A s H1 locs1 (wX12 hT aT yT q_132.2) := Hx_after_all X ht hB hS
                                        clear hk hS ht hB
                                        generalize H1 = H at X ⊢
                                        generalize locs1 = locs at X ⊢
                                        obtain ⟨h_134, hF⟩ := grd_some hF
                                        have hq := Option.some.inj hF
                                        subst hq
                                        exact rt_z (v := q_132.1) C X (zB_n h_134) dX12_done_349
                                · replace hF := iF c9 hF
                                  by_cases c10 : (gIA gT 14 x0.toNatClampNeg) = (10 : Int32)
                                  · replace hF := iT c10 hF
                                    refine lv_tableIn (tgt := 350) (off := 186) hx hb dX12_done_164 (by rw [c10]; decide) (by rw [c10]; decide) (by rw [c10]; rfl) (by decide) ?_
                                    refine lv_aload_n hx hb dX12_done_350 rfl (lv_at hl 3 rfl) ?_
                                    refine lv_lload_n hx hb dX12_done_351 rfl (lv_at hl 1 rfl) ?_
                                    refine lv_iload hx hb dX12_done_352 (lv_at hl 0 rfl) ?_
                                    refine lv_bipush (v := (7 : Int32)) hx hb dX12_done_354 (by decide) ?_
                                    obtain ⟨q_135, hc_136, hF⟩ := bnd_some hF
                                    refine cV_l (As := [.long (gLA gT 92 ((gI gT 93) - (1 : Int32)).toNatClampNeg), .int (gIA gT 16 x0.toNatClampNeg), .int (7 : Int32)]) (rest := []) C X (c_X12_become l D hT aT yT n gT (gLA gT 92 ((gI gT 93) - (1 : Int32)).toNatClampNeg) (gIA gT 16 x0.toNatClampNeg) (7 : Int32) q_135 hc_136 _) (cwV 3 hts (good_V q8_136 q8_138 q0_73 q1_9 q8_139) rfl rfl rfl (by decide +kernel) ⟨Nat.le_of_ble_eq_true rfl, Nat.le_of_ble_eq_true rfl⟩) (va_recv X.1 X.2.1 (ci := 12) (q0 := 0) rfl rfl) X.1 X.2.1 X.2.2.1 (free_all X) hl.1 rfl rfl (Nat.le_of_ble_eq_true rfl) dX12_done_356 ⟨Nat.le_of_ble_eq_true rfl, Nat.le_of_ble_eq_true rfl⟩ (fun t H1 locs1 ht hB hk hS => ?_)
                                    have X : Hx D (tX12 yT) A s H1 locs1 (wX12 hT aT yT q_135.2) := Hx_after_all X ht hB hS
                                    clear hk hS ht hB
                                    generalize H1 = H at X ⊢
                                    generalize locs1 = locs at X ⊢
                                    refine lv_lstore_n (lv' := [(3, .long q_135.1), (5, .int (gIA gT 16 x0.toNatClampNeg)), (2, .int (gIA gT 15 x0.toNatClampNeg)), (0, .ref hT), (1, .int x0)]) hx hb dX12_done_359 rfl hl (by decide) rfl (fun ls hl => ?_)
                                    refine lv_iload_n hx hb dX12_done_360 rfl (lv_at hl 2 rfl) ?_
                                    refine lv_sipush (v := (212 : Int32)) hx hb dX12_done_361 (by decide) ?_
                                    refine lv_icmp_ne (tgt := 374) hx hb dX12_done_364 (by decide) (fun c => ?_) (fun c => ?_)
                                    · replace hF := iF c hF
                                      refine lv_aload_n hx hb dX12_done_374 rfl (lv_at hl 3 rfl) ?_
                                      refine lv_lload_n hx hb dX12_done_375 rfl (lv_at hl 0 rfl) ?_
                                      refine lv_iload_n hx hb dX12_done_376 rfl (lv_at hl 2 rfl) ?_
                                      refine lv_sipush (v := (209 : Int32)) hx hb dX12_done_377 (by decide) ?_
                                      refine lv_isub hx hb dX12_done_380 ?_
                                      obtain ⟨q_137, hc_138, hF⟩ := bnd_some hF
                                      refine cV_l (As := [.long q_135.1, .int ((gIA gT 15 x0.toNatClampNeg) - (209 : Int32))]) (rest := []) C X (c_X12_evened l D hT aT yT n q_135.2 q_135.1 ((gIA gT 15 x0.toNatClampNeg) - (209 : Int32)) q_137 hc_138 _) (cwV 2 hts (good_V q9_134 q9_136 q0_120 q1_9 q9_137) rfl rfl rfl (by decide +kernel) ⟨Nat.le_of_ble_eq_true rfl, Nat.le_of_ble_eq_true rfl⟩) (va_recv X.1 X.2.1 (ci := 12) (q0 := 0) rfl rfl) X.1 X.2.1 X.2.2.1 (free_all X) hl.1 rfl rfl (Nat.le_of_ble_eq_true rfl) dX12_done_381 ⟨Nat.le_of_ble_eq_true rfl, Nat.le_of_ble_eq_true rfl⟩ (fun t H1 locs1 ht hB hk hS => ?_)
                                      have X : Hx D (tX12 yT) A s H1 locs1 (wX12 hT aT yT q_137.2) := Hx_after_all X ht hB hS
                                      clear hk hS ht hB
                                      generalize H1 = H at X ⊢
                                      generalize locs1 = locs at X ⊢
                                      exact (k_X12_done_384 l D hT aT yT n) C X (lv_sub hl [3] rfl) hF
                                    · replace hF := iT c hF
                                      refine lv_lload_n hx hb dX12_done_367 rfl (lv_at hl 0 rfl) ?_
                                      obtain ⟨q_139, hc_140, hF⟩ := bnd_some hF
                                      refine cS_l (As := [.long q_135.1]) (rest := []) C X (c_X12_withoutSign l D  q_135.1 q_139 hc_140 _) (va_cwS 1 hts (good_S q9_89 q9_90 q1_9 q9_91) rfl rfl rfl (by decide +kernel) ⟨Nat.le_of_ble_eq_true rfl, Nat.le_of_ble_eq_true rfl⟩) (eK X) eP (eD (A := A)) (eF X) hl.1 rfl rfl (Nat.le_of_ble_eq_true rfl) dX12_done_368 ⟨Nat.le_of_ble_eq_true rfl, Nat.le_of_ble_eq_true rfl⟩ (fun t H1 locs1 ht hB hk hS => ?_)
                                      have X := Hx_after_none X hk hS
                                      clear hk hS ht hB
                                      generalize H1 = H at X ⊢
                                      generalize locs1 = locs at X ⊢
                                      refine lv_goto (tgt := 384) hx hb dX12_done_371 (by decide) ?_
                                      exact (k_X12_done_384 l D hT aT yT n) C X (lv_sub hl [3] rfl) hF
                                  · replace hF := iF c10 hF
                                    refine lv_tableOut (tgt := 388) hx hb dX12_done_164 (tbl_out (6) (10) 5 (by decide) ⟨tne c6 (by decide), ⟨tne c7 (by decide), ⟨tne c8 (by decide), ⟨tne c9 (by decide), ⟨tne c10 (by decide), trivial⟩⟩⟩⟩⟩) (by decide) ?_
                                    refine lv_aload_n hx hb dX12_done_388 rfl (lv_at hl 3 rfl) ?_
                                    refine lv_lload_n hx hb dX12_done_389 rfl (lv_at hl 1 rfl) ?_
                                    refine lv_iload hx hb dX12_done_390 (lv_at hl 0 rfl) ?_
                                    refine lv_iconst (v := (3 : Int32)) hx hb dX12_done_392 (by decide) ?_
                                    refine lv_ishr hx hb dX12_done_393 ?_
                                    refine lv_iload hx hb dX12_done_394 (lv_at hl 0 rfl) ?_
                                    refine lv_bipush (v := (7 : Int32)) hx hb dX12_done_396 (by decide) ?_
                                    refine lv_iand hx hb dX12_done_398 ?_
                                    obtain ⟨q_141, hc_142, hF⟩ := bnd_some hF
                                    refine cV_l (As := [.long (gLA gT 92 ((gI gT 93) - (1 : Int32)).toNatClampNeg), .int ((gIA gT 16 x0.toNatClampNeg) >>> ((3 : Int32) &&& 31)), .int ((gIA gT 16 x0.toNatClampNeg) &&& (7 : Int32))]) (rest := []) C X (c_X12_become l D hT aT yT n gT (gLA gT 92 ((gI gT 93) - (1 : Int32)).toNatClampNeg) ((gIA gT 16 x0.toNatClampNeg) >>> ((3 : Int32) &&& 31)) ((gIA gT 16 x0.toNatClampNeg) &&& (7 : Int32)) q_141 hc_142 _) (cwV 3 hts (good_V q8_136 q8_138 q0_73 q1_9 q8_139) rfl rfl rfl (by decide +kernel) ⟨Nat.le_of_ble_eq_true rfl, Nat.le_of_ble_eq_true rfl⟩) (va_recv X.1 X.2.1 (ci := 12) (q0 := 0) rfl rfl) X.1 X.2.1 X.2.2.1 (free_all X) hl.1 rfl rfl (Nat.le_of_ble_eq_true rfl) dX12_done_399 ⟨Nat.le_of_ble_eq_true rfl, Nat.le_of_ble_eq_true rfl⟩ (fun t H1 locs1 ht hB hk hS => ?_)
                                    have X : Hx D (tX12 yT) A s H1 locs1 (wX12 hT aT yT q_141.2) := Hx_after_all X ht hB hS
                                    clear hk hS ht hB
                                    generalize H1 = H at X ⊢
                                    generalize locs1 = locs at X ⊢
                                    refine lv_lstore_n (lv' := [(3, .long q_141.1), (5, .int (gIA gT 16 x0.toNatClampNeg)), (2, .int (gIA gT 15 x0.toNatClampNeg)), (0, .ref hT), (1, .int x0)]) hx hb dX12_done_402 rfl hl (by decide) rfl (fun ls hl => ?_)
                                    exact (k_X12_done_403 l D hT aT yT n) C X (lv_sub hl [3, 0] rfl) hF

/-! ### X12_works -/
theorem dX12_works_0 : decode cX12_works 0 = .ok (.aload_n 0, 1) := by decide +kernel
theorem dX12_works_1 : decode cX12_works 1 = .ok (.iconst 0, 1) := by decide +kernel
theorem dX12_works_2 : decode cX12_works 2 = .ok (.putfield 340, 3) := by decide +kernel
theorem dX12_works_5 : decode cX12_works 5 = .ok (.iload_n 1, 1) := by decide +kernel
theorem dX12_works_6 : decode cX12_works 6 = .ok (.istore_n 3, 1) := by decide +kernel
theorem dX12_works_7 : decode cX12_works 7 = .ok (.iload_n 3, 1) := by decide +kernel
theorem dX12_works_8 : decode cX12_works 8 = .ok (.iload_n 2, 1) := by decide +kernel
theorem dX12_works_9 : decode cX12_works 9 = .ok (.if_icmp .ge 234, 3) := by decide +kernel
theorem dX12_works_12 : decode cX12_works 12 = .ok (.aload_n 0, 1) := by decide +kernel
theorem dX12_works_13 : decode cX12_works 13 = .ok (.getfield 98, 3) := by decide +kernel
theorem dX12_works_16 : decode cX12_works 16 = .ok (.iload_n 3, 1) := by decide +kernel
theorem dX12_works_17 : decode cX12_works 17 = .ok (.iaload, 1) := by decide +kernel
theorem dX12_works_18 : decode cX12_works 18 = .ok (.istore 4, 2) := by decide +kernel
theorem dX12_works_20 : decode cX12_works 20 = .ok (.aload_n 0, 1) := by decide +kernel
theorem dX12_works_21 : decode cX12_works 21 = .ok (.getfield 340, 3) := by decide +kernel
theorem dX12_works_24 : decode cX12_works 24 = .ok (.ifCond .le 23, 3) := by decide +kernel
theorem dX12_works_27 : decode cX12_works 27 = .ok (.aload_n 0, 1) := by decide +kernel
theorem dX12_works_28 : decode cX12_works 28 = .ok (.getfield 337, 3) := by decide +kernel
theorem dX12_works_31 : decode cX12_works 31 = .ok (.aload_n 0, 1) := by decide +kernel
theorem dX12_works_32 : decode cX12_works 32 = .ok (.getfield 340, 3) := by decide +kernel
theorem dX12_works_35 : decode cX12_works 35 = .ok (.iconst 1, 1) := by decide +kernel
theorem dX12_works_36 : decode cX12_works 36 = .ok (.isub, 1) := by decide +kernel
theorem dX12_works_37 : decode cX12_works 37 = .ok (.laload, 1) := by decide +kernel
theorem dX12_works_38 : decode cX12_works 38 = .ok (.lconst 0, 1) := by decide +kernel
theorem dX12_works_39 : decode cX12_works 39 = .ok (.lcmp, 1) := by decide +kernel
theorem dX12_works_40 : decode cX12_works 40 = .ok (.ifCond .eq 7, 3) := by decide +kernel
theorem dX12_works_43 : decode cX12_works 43 = .ok (.iconst 1, 1) := by decide +kernel
theorem dX12_works_44 : decode cX12_works 44 = .ok (.goto 4, 3) := by decide +kernel
theorem dX12_works_47 : decode cX12_works 47 = .ok (.iconst 0, 1) := by decide +kernel
theorem dX12_works_48 : decode cX12_works 48 = .ok (.istore 5, 2) := by decide +kernel
theorem dX12_works_50 : decode cX12_works 50 = .ok (.iload 4, 2) := by decide +kernel
theorem dX12_works_52 : decode cX12_works 52 = .ok (.bipush 13, 2) := by decide +kernel
theorem dX12_works_54 : decode cX12_works 54 = .ok (.if_icmp .ne 8, 3) := by decide +kernel
theorem dX12_works_57 : decode cX12_works 57 = .ok (.iload 5, 2) := by decide +kernel
theorem dX12_works_59 : decode cX12_works 59 = .ok (.ifCond .eq 34, 3) := by decide +kernel
theorem dX12_works_62 : decode cX12_works 62 = .ok (.iload 4, 2) := by decide +kernel
theorem dX12_works_64 : decode cX12_works 64 = .ok (.bipush 15, 2) := by decide +kernel
theorem dX12_works_66 : decode cX12_works 66 = .ok (.if_icmp .ne 8, 3) := by decide +kernel
theorem dX12_works_69 : decode cX12_works 69 = .ok (.iload 5, 2) := by decide +kernel
theorem dX12_works_71 : decode cX12_works 71 = .ok (.ifCond .ne 22, 3) := by decide +kernel
theorem dX12_works_74 : decode cX12_works 74 = .ok (.iload 4, 2) := by decide +kernel
theorem dX12_works_76 : decode cX12_works 76 = .ok (.bipush 18, 2) := by decide +kernel
theorem dX12_works_78 : decode cX12_works 78 = .ok (.if_icmp .eq 15, 3) := by decide +kernel
theorem dX12_works_81 : decode cX12_works 81 = .ok (.iload 4, 2) := by decide +kernel
theorem dX12_works_83 : decode cX12_works 83 = .ok (.bipush 17, 2) := by decide +kernel
theorem dX12_works_85 : decode cX12_works 85 = .ok (.if_icmp .ne 12, 3) := by decide +kernel
theorem dX12_works_88 : decode cX12_works 88 = .ok (.iload 5, 2) := by decide +kernel
theorem dX12_works_90 : decode cX12_works 90 = .ok (.ifCond .ne 7, 3) := by decide +kernel
theorem dX12_works_93 : decode cX12_works 93 = .ok (.iconst 1, 1) := by decide +kernel
theorem dX12_works_94 : decode cX12_works 94 = .ok (.goto 4, 3) := by decide +kernel
theorem dX12_works_97 : decode cX12_works 97 = .ok (.iconst 0, 1) := by decide +kernel
theorem dX12_works_98 : decode cX12_works 98 = .ok (.istore 6, 2) := by decide +kernel
theorem dX12_works_100 : decode cX12_works 100 = .ok (.iload 4, 2) := by decide +kernel
theorem dX12_works_102 : decode cX12_works 102 = .ok (.bipush 18, 2) := by decide +kernel
theorem dX12_works_104 : decode cX12_works 104 = .ok (.if_icmp .ne 46, 3) := by decide +kernel
theorem dX12_works_107 : decode cX12_works 107 = .ok (.aload_n 0, 1) := by decide +kernel
theorem dX12_works_108 : decode cX12_works 108 = .ok (.getfield 337, 3) := by decide +kernel
theorem dX12_works_111 : decode cX12_works 111 = .ok (.aload_n 0, 1) := by decide +kernel
theorem dX12_works_112 : decode cX12_works 112 = .ok (.getfield 340, 3) := by decide +kernel
theorem dX12_works_115 : decode cX12_works 115 = .ok (.iconst 1, 1) := by decide +kernel
theorem dX12_works_116 : decode cX12_works 116 = .ok (.isub, 1) := by decide +kernel
theorem dX12_works_117 : decode cX12_works 117 = .ok (.aload_n 0, 1) := by decide +kernel
theorem dX12_works_118 : decode cX12_works 118 = .ok (.aload_n 0, 1) := by decide +kernel
theorem dX12_works_119 : decode cX12_works 119 = .ok (.getfield 337, 3) := by decide +kernel
theorem dX12_works_122 : decode cX12_works 122 = .ok (.aload_n 0, 1) := by decide +kernel
theorem dX12_works_123 : decode cX12_works 123 = .ok (.getfield 340, 3) := by decide +kernel
theorem dX12_works_126 : decode cX12_works 126 = .ok (.iconst 1, 1) := by decide +kernel
theorem dX12_works_127 : decode cX12_works 127 = .ok (.isub, 1) := by decide +kernel
theorem dX12_works_128 : decode cX12_works 128 = .ok (.laload, 1) := by decide +kernel
theorem dX12_works_129 : decode cX12_works 129 = .ok (.aload_n 0, 1) := by decide +kernel
theorem dX12_works_130 : decode cX12_works 130 = .ok (.getfield 104, 3) := by decide +kernel
theorem dX12_works_133 : decode cX12_works 133 = .ok (.iload_n 3, 1) := by decide +kernel
theorem dX12_works_134 : decode cX12_works 134 = .ok (.iaload, 1) := by decide +kernel
theorem dX12_works_135 : decode cX12_works 135 = .ok (.iconst 3, 1) := by decide +kernel
theorem dX12_works_136 : decode cX12_works 136 = .ok (.ishr, 1) := by decide +kernel
theorem dX12_works_137 : decode cX12_works 137 = .ok (.aload_n 0, 1) := by decide +kernel
theorem dX12_works_138 : decode cX12_works 138 = .ok (.getfield 104, 3) := by decide +kernel
theorem dX12_works_141 : decode cX12_works 141 = .ok (.iload_n 3, 1) := by decide +kernel
theorem dX12_works_142 : decode cX12_works 142 = .ok (.iaload, 1) := by decide +kernel
theorem dX12_works_143 : decode cX12_works 143 = .ok (.bipush 7, 2) := by decide +kernel
theorem dX12_works_145 : decode cX12_works 145 = .ok (.iand, 1) := by decide +kernel
theorem dX12_works_146 : decode cX12_works 146 = .ok (.invokevirtual 488, 3) := by decide +kernel
theorem dX12_works_149 : decode cX12_works 149 = .ok (.lastore, 1) := by decide +kernel
theorem dX12_works_150 : decode cX12_works 150 = .ok (.iload 4, 2) := by decide +kernel
theorem dX12_works_152 : decode cX12_works 152 = .ok (.bipush 17, 2) := by decide +kernel
theorem dX12_works_154 : decode cX12_works 154 = .ok (.if_icmp .eq 22, 3) := by decide +kernel
theorem dX12_works_157 : decode cX12_works 157 = .ok (.iload 4, 2) := by decide +kernel
theorem dX12_works_159 : decode cX12_works 159 = .ok (.bipush 13, 2) := by decide +kernel
theorem dX12_works_161 : decode cX12_works 161 = .ok (.if_icmp .eq 10, 3) := by decide +kernel
theorem dX12_works_164 : decode cX12_works 164 = .ok (.iload 4, 2) := by decide +kernel
theorem dX12_works_166 : decode cX12_works 166 = .ok (.bipush 15, 2) := by decide +kernel
theorem dX12_works_168 : decode cX12_works 168 = .ok (.if_icmp .ne 18, 3) := by decide +kernel
theorem dX12_works_171 : decode cX12_works 171 = .ok (.iload 6, 2) := by decide +kernel
theorem dX12_works_173 : decode cX12_works 173 = .ok (.ifCond .ne 13, 3) := by decide +kernel
theorem dX12_works_176 : decode cX12_works 176 = .ok (.aload_n 0, 1) := by decide +kernel
theorem dX12_works_177 : decode cX12_works 177 = .ok (.dup, 1) := by decide +kernel
theorem dX12_works_178 : decode cX12_works 178 = .ok (.getfield 340, 3) := by decide +kernel
theorem dX12_works_181 : decode cX12_works 181 = .ok (.iconst 1, 1) := by decide +kernel
theorem dX12_works_182 : decode cX12_works 182 = .ok (.isub, 1) := by decide +kernel
theorem dX12_works_183 : decode cX12_works 183 = .ok (.putfield 340, 3) := by decide +kernel
theorem dX12_works_186 : decode cX12_works 186 = .ok (.iload 4, 2) := by decide +kernel
theorem dX12_works_188 : decode cX12_works 188 = .ok (.bipush 13, 2) := by decide +kernel
theorem dX12_works_190 : decode cX12_works 190 = .ok (.if_icmp .lt 10, 3) := by decide +kernel
theorem dX12_works_193 : decode cX12_works 193 = .ok (.iload 4, 2) := by decide +kernel
theorem dX12_works_195 : decode cX12_works 195 = .ok (.bipush 19, 2) := by decide +kernel
theorem dX12_works_197 : decode cX12_works 197 = .ok (.if_icmp .ne 7, 3) := by decide +kernel
theorem dX12_works_200 : decode cX12_works 200 = .ok (.iconst 1, 1) := by decide +kernel
theorem dX12_works_201 : decode cX12_works 201 = .ok (.goto 4, 3) := by decide +kernel
theorem dX12_works_204 : decode cX12_works 204 = .ok (.iconst 0, 1) := by decide +kernel
theorem dX12_works_205 : decode cX12_works 205 = .ok (.istore 7, 2) := by decide +kernel
theorem dX12_works_207 : decode cX12_works 207 = .ok (.iload 7, 2) := by decide +kernel
theorem dX12_works_209 : decode cX12_works 209 = .ok (.ifCond .eq 13, 3) := by decide +kernel
theorem dX12_works_212 : decode cX12_works 212 = .ok (.aload_n 0, 1) := by decide +kernel
theorem dX12_works_213 : decode cX12_works 213 = .ok (.iload_n 3, 1) := by decide +kernel
theorem dX12_works_214 : decode cX12_works 214 = .ok (.invokevirtual 653, 3) := by decide +kernel
theorem dX12_works_217 : decode cX12_works 217 = .ok (.ifCond .ne 5, 3) := by decide +kernel
theorem dX12_works_220 : decode cX12_works 220 = .ok (.iconst 0, 1) := by decide +kernel
theorem dX12_works_221 : decode cX12_works 221 = .ok (.ireturn, 1) := by decide +kernel
theorem dX12_works_222 : decode cX12_works 222 = .ok (.iload 6, 2) := by decide +kernel
theorem dX12_works_224 : decode cX12_works 224 = .ok (.ifCond .eq 12, 3) := by decide +kernel
theorem dX12_works_227 : decode cX12_works 227 = .ok (.aload_n 0, 1) := by decide +kernel
theorem dX12_works_228 : decode cX12_works 228 = .ok (.getfield 101, 3) := by decide +kernel
theorem dX12_works_231 : decode cX12_works 231 = .ok (.iload_n 3, 1) := by decide +kernel
theorem dX12_works_232 : decode cX12_works 232 = .ok (.iaload, 1) := by decide +kernel
theorem dX12_works_233 : decode cX12_works 233 = .ok (.goto 6, 3) := by decide +kernel
theorem dX12_works_236 : decode cX12_works 236 = .ok (.iload_n 3, 1) := by decide +kernel
theorem dX12_works_237 : decode cX12_works 237 = .ok (.iconst 1, 1) := by decide +kernel
theorem dX12_works_238 : decode cX12_works 238 = .ok (.iadd, 1) := by decide +kernel
theorem dX12_works_239 : decode cX12_works 239 = .ok (.istore_n 3, 1) := by decide +kernel
theorem dX12_works_240 : decode cX12_works 240 = .ok (.goto (-233), 3) := by decide +kernel
theorem dX12_works_243 : decode cX12_works 243 = .ok (.aload_n 0, 1) := by decide +kernel
theorem dX12_works_244 : decode cX12_works 244 = .ok (.aload_n 0, 1) := by decide +kernel
theorem dX12_works_245 : decode cX12_works 245 = .ok (.getfield 337, 3) := by decide +kernel
theorem dX12_works_248 : decode cX12_works 248 = .ok (.aload_n 0, 1) := by decide +kernel
theorem dX12_works_249 : decode cX12_works 249 = .ok (.getfield 340, 3) := by decide +kernel
theorem dX12_works_252 : decode cX12_works 252 = .ok (.iconst 1, 1) := by decide +kernel
theorem dX12_works_253 : decode cX12_works 253 = .ok (.isub, 1) := by decide +kernel
theorem dX12_works_254 : decode cX12_works 254 = .ok (.laload, 1) := by decide +kernel
theorem dX12_works_255 : decode cX12_works 255 = .ok (.putfield 343, 3) := by decide +kernel
theorem dX12_works_258 : decode cX12_works 258 = .ok (.iconst 1, 1) := by decide +kernel
theorem dX12_works_259 : decode cX12_works 259 = .ok (.ireturn, 1) := by decide +kernel
abbrev R_X12_works : Room := ({ frames := 8, cells := 0, slots := 0, locals := 224 } : Room)
def b_X12_works_239 (n : Nat) (rec : (Gs → Int32 → Int32 → Option (Int32 × Gs))) (gT : Gs) (v2 : Int32) (s0 : Int32) : Option (Int32 × Gs) :=
  rec gT v2 s0
def b_X12_works_222 (n : Nat) (rec : (Gs → Int32 → Int32 → Option (Int32 × Gs))) (gT : Gs) (v2 : Int32) (v3 : Int32) (v6 : Int32) : Option (Int32 × Gs) :=
  if v6 = 0 then (b_X12_works_239 n rec gT v2 (v3 + (1 : Int32))) else (grd (inB v3 8000) (b_X12_works_239 n rec gT v2 (gIA gT 15 v3.toNatClampNeg)))
def b_X12_works_205 (n : Nat) (rec : (Gs → Int32 → Int32 → Option (Int32 × Gs))) (gT : Gs) (v2 : Int32) (v3 : Int32) (v6 : Int32) (s0 : Int32) : Option (Int32 × Gs) :=
  if s0 = 0 then (b_X12_works_222 n rec gT v2 v3 v6) else (bnd (f_X12_done n gT v3) (fun q_4 => if q_4.1 = 0 then (some ((0 : Int32), q_4.2)) else (b_X12_works_222 n rec q_4.2 v2 v3 v6)))
def b_X12_works_200 (n : Nat) (rec : (Gs → Int32 → Int32 → Option (Int32 × Gs))) (gT : Gs) (v2 : Int32) (v3 : Int32) (v6 : Int32) : Option (Int32 × Gs) :=
  b_X12_works_205 n rec gT v2 v3 v6 (1 : Int32)
def b_X12_works_186 (n : Nat) (rec : (Gs → Int32 → Int32 → Option (Int32 × Gs))) (gT : Gs) (v2 : Int32) (v3 : Int32) (v4 : Int32) (v6 : Int32) : Option (Int32 × Gs) :=
  if v4 < (13 : Int32) then (b_X12_works_200 n rec gT v2 v3 v6) else (if v4 = (19 : Int32) then (b_X12_works_200 n rec gT v2 v3 v6) else (b_X12_works_205 n rec gT v2 v3 v6 (0 : Int32)))
def b_X12_works_176 (n : Nat) (rec : (Gs → Int32 → Int32 → Option (Int32 × Gs))) (gT : Gs) (v2 : Int32) (v3 : Int32) (v4 : Int32) (v6 : Int32) : Option (Int32 × Gs) :=
  b_X12_works_186 n rec (sI gT 93 ((gI gT 93) - (1 : Int32))) v2 v3 v4 v6
def b_X12_works_171 (n : Nat) (rec : (Gs → Int32 → Int32 → Option (Int32 × Gs))) (gT : Gs) (v2 : Int32) (v3 : Int32) (v4 : Int32) (v6 : Int32) : Option (Int32 × Gs) :=
  if v6 = 0 then (b_X12_works_176 n rec gT v2 v3 v4 v6) else (b_X12_works_186 n rec gT v2 v3 v4 v6)
def b_X12_works_150 (n : Nat) (rec : (Gs → Int32 → Int32 → Option (Int32 × Gs))) (gT : Gs) (v2 : Int32) (v3 : Int32) (v4 : Int32) (v6 : Int32) : Option (Int32 × Gs) :=
  if v4 = (17 : Int32) then (b_X12_works_176 n rec gT v2 v3 v4 v6) else (if v4 = (13 : Int32) then (b_X12_works_171 n rec gT v2 v3 v4 v6) else (if v4 = (15 : Int32) then (b_X12_works_171 n rec gT v2 v3 v4 v6) else (b_X12_works_186 n rec gT v2 v3 v4 v6)))
def b_X12_works_98 (n : Nat) (rec : (Gs → Int32 → Int32 → Option (Int32 × Gs))) (gT : Gs) (v2 : Int32) (v3 : Int32) (v4 : Int32) (s0 : Int32) : Option (Int32 × Gs) :=
  if v4 = (18 : Int32) then (grd (inB ((gI gT 93) - (1 : Int32)) 400) (grd (inB v3 8000) (grd (inB v3 8000) (bnd (f_X12_become n gT (gLA gT 92 ((gI gT 93) - (1 : Int32)).toNatClampNeg) ((gIA gT 16 v3.toNatClampNeg) >>> ((3 : Int32) &&& 31)) ((gIA gT 16 v3.toNatClampNeg) &&& (7 : Int32))) (fun q_9 => grd (inB ((gI gT 93) - (1 : Int32)) 400) (b_X12_works_150 n rec (sLA q_9.2 92 (vp_updL (gLA q_9.2 92) ((gI gT 93) - (1 : Int32)).toNatClampNeg q_9.1)) v2 v3 v4 s0)))))) else (b_X12_works_150 n rec gT v2 v3 v4 s0)
def b_X12_works_93 (n : Nat) (rec : (Gs → Int32 → Int32 → Option (Int32 × Gs))) (gT : Gs) (v2 : Int32) (v3 : Int32) (v4 : Int32) : Option (Int32 × Gs) :=
  b_X12_works_98 n rec gT v2 v3 v4 (1 : Int32)
def b_X12_works_97 (n : Nat) (rec : (Gs → Int32 → Int32 → Option (Int32 × Gs))) (gT : Gs) (v2 : Int32) (v3 : Int32) (v4 : Int32) : Option (Int32 × Gs) :=
  b_X12_works_98 n rec gT v2 v3 v4 (0 : Int32)
def b_X12_works_74 (n : Nat) (rec : (Gs → Int32 → Int32 → Option (Int32 × Gs))) (gT : Gs) (v2 : Int32) (v3 : Int32) (v4 : Int32) (v5 : Int32) : Option (Int32 × Gs) :=
  if v4 = (18 : Int32) then (b_X12_works_93 n rec gT v2 v3 v4) else (if v4 = (17 : Int32) then (if v5 = 0 then (b_X12_works_93 n rec gT v2 v3 v4) else (b_X12_works_97 n rec gT v2 v3 v4)) else (b_X12_works_97 n rec gT v2 v3 v4))
def b_X12_works_62 (n : Nat) (rec : (Gs → Int32 → Int32 → Option (Int32 × Gs))) (gT : Gs) (v2 : Int32) (v3 : Int32) (v4 : Int32) (v5 : Int32) : Option (Int32 × Gs) :=
  if v4 = (15 : Int32) then (if v5 = 0 then (b_X12_works_74 n rec gT v2 v3 v4 v5) else (b_X12_works_93 n rec gT v2 v3 v4)) else (b_X12_works_74 n rec gT v2 v3 v4 v5)
def b_X12_works_48 (n : Nat) (rec : (Gs → Int32 → Int32 → Option (Int32 × Gs))) (gT : Gs) (v2 : Int32) (v3 : Int32) (v4 : Int32) (s0 : Int32) : Option (Int32 × Gs) :=
  if v4 = (13 : Int32) then (if s0 = 0 then (b_X12_works_93 n rec gT v2 v3 v4) else (b_X12_works_62 n rec gT v2 v3 v4 s0)) else (b_X12_works_62 n rec gT v2 v3 v4 s0)
def b_X12_works_47 (n : Nat) (rec : (Gs → Int32 → Int32 → Option (Int32 × Gs))) (gT : Gs) (v2 : Int32) (v3 : Int32) (v4 : Int32) : Option (Int32 × Gs) :=
  b_X12_works_48 n rec gT v2 v3 v4 (0 : Int32)
def h_X12_works_7 (n : Nat) (rec : (Gs → Int32 → Int32 → Option (Int32 × Gs))) (gT : Gs) (v2 : Int32) (v3 : Int32) : Option (Int32 × Gs) :=
  if v2 ≤ v3 then (grd (inB ((gI gT 93) - (1 : Int32)) 400) (some ((1 : Int32), (sL gT 94 (gLA gT 92 ((gI gT 93) - (1 : Int32)).toNatClampNeg))))) else (grd (inB v3 8000) (if (gI gT 93) ≤ 0 then (b_X12_works_47 n rec gT v2 v3 (gIA gT 14 v3.toNatClampNeg)) else (grd (inB ((gI gT 93) - (1 : Int32)) 400) (if (gLA gT 92 ((gI gT 93) - (1 : Int32)).toNatClampNeg) = (0 : Int64) then (b_X12_works_47 n rec gT v2 v3 (gIA gT 14 v3.toNatClampNeg)) else (b_X12_works_48 n rec gT v2 v3 (gIA gT 14 v3.toNatClampNeg) (1 : Int32))))))
def L_X12_works (n : Nat) : Nat → (Gs → Int32 → Int32 → Option (Int32 × Gs))
  | 0 => ((fun _ _ _ => none))
  | k + 1 => (h_X12_works_7 n (L_X12_works n k))
def f_X12_works (n : Nat) (gT : Gs) (x0 : Int32) (x1 : Int32) : Option (Int32 × Gs) :=
  (L_X12_works n n) (sI gT 93 (0 : Int32)) x1 x0
def S_X12_works_239 (l : Launch) (D : Dx) (hT : Nat) (aT : Nat → Nat) (yT : Nat → ClassId) (fn : Gs → Int32 → Int32 → Option (Int32 × Gs)) : Prop :=
  ∀ {p : Program} {e : Env} {s : State} {m : MethodId} {args : Array Value} {below : List Frame} {meth : Method} {c : Code} {H : Heap} {locs : List Loc} {A : Nat → Prop} {ls : Array Slot} {gT : Gs} {v2 : Int32} {s0 : Int32} {q : Int32 × Gs}, Cx p s m args meth c cX12_works (some .boolean) 8 RX12 lw_all → Hx D (tX12 yT) A s H locs (wX12 hT aT yT gT) → lv_has ls 8 [(0, .ref hT), (2, .int v2)] → fn gT v2 s0 = some q → W p l e R_X12_works s m args below meth c H locs 0 0 (MQ below (QI D A (wX12 hT aT yT q.2) q.1) args s 0 0 A) (F0 m 239 ls [.int s0])
def S_X12_works_222 (l : Launch) (D : Dx) (hT : Nat) (aT : Nat → Nat) (yT : Nat → ClassId) (fn : Gs → Int32 → Int32 → Int32 → Option (Int32 × Gs)) : Prop :=
  ∀ {p : Program} {e : Env} {s : State} {m : MethodId} {args : Array Value} {below : List Frame} {meth : Method} {c : Code} {H : Heap} {locs : List Loc} {A : Nat → Prop} {ls : Array Slot} {gT : Gs} {v2 : Int32} {v3 : Int32} {v6 : Int32} {q : Int32 × Gs}, Cx p s m args meth c cX12_works (some .boolean) 8 RX12 lw_all → Hx D (tX12 yT) A s H locs (wX12 hT aT yT gT) → lv_has ls 8 [(0, .ref hT), (2, .int v2), (3, .int v3), (6, .int v6)] → fn gT v2 v3 v6 = some q → W p l e R_X12_works s m args below meth c H locs 0 0 (MQ below (QI D A (wX12 hT aT yT q.2) q.1) args s 0 0 A) (F0 m 222 ls [])
def S_X12_works_205 (l : Launch) (D : Dx) (hT : Nat) (aT : Nat → Nat) (yT : Nat → ClassId) (fn : Gs → Int32 → Int32 → Int32 → Int32 → Option (Int32 × Gs)) : Prop :=
  ∀ {p : Program} {e : Env} {s : State} {m : MethodId} {args : Array Value} {below : List Frame} {meth : Method} {c : Code} {H : Heap} {locs : List Loc} {A : Nat → Prop} {ls : Array Slot} {gT : Gs} {v2 : Int32} {v3 : Int32} {v6 : Int32} {s0 : Int32} {q : Int32 × Gs}, Cx p s m args meth c cX12_works (some .boolean) 8 RX12 lw_all → Hx D (tX12 yT) A s H locs (wX12 hT aT yT gT) → lv_has ls 8 [(0, .ref hT), (2, .int v2), (3, .int v3), (6, .int v6)] → fn gT v2 v3 v6 s0 = some q → W p l e R_X12_works s m args below meth c H locs 0 0 (MQ below (QI D A (wX12 hT aT yT q.2) q.1) args s 0 0 A) (F0 m 205 ls [.int s0])
def S_X12_works_200 (l : Launch) (D : Dx) (hT : Nat) (aT : Nat → Nat) (yT : Nat → ClassId) (fn : Gs → Int32 → Int32 → Int32 → Option (Int32 × Gs)) : Prop :=
  ∀ {p : Program} {e : Env} {s : State} {m : MethodId} {args : Array Value} {below : List Frame} {meth : Method} {c : Code} {H : Heap} {locs : List Loc} {A : Nat → Prop} {ls : Array Slot} {gT : Gs} {v2 : Int32} {v3 : Int32} {v6 : Int32} {q : Int32 × Gs}, Cx p s m args meth c cX12_works (some .boolean) 8 RX12 lw_all → Hx D (tX12 yT) A s H locs (wX12 hT aT yT gT) → lv_has ls 8 [(0, .ref hT), (2, .int v2), (3, .int v3), (6, .int v6)] → fn gT v2 v3 v6 = some q → W p l e R_X12_works s m args below meth c H locs 0 0 (MQ below (QI D A (wX12 hT aT yT q.2) q.1) args s 0 0 A) (F0 m 200 ls [])
def S_X12_works_186 (l : Launch) (D : Dx) (hT : Nat) (aT : Nat → Nat) (yT : Nat → ClassId) (fn : Gs → Int32 → Int32 → Int32 → Int32 → Option (Int32 × Gs)) : Prop :=
  ∀ {p : Program} {e : Env} {s : State} {m : MethodId} {args : Array Value} {below : List Frame} {meth : Method} {c : Code} {H : Heap} {locs : List Loc} {A : Nat → Prop} {ls : Array Slot} {gT : Gs} {v2 : Int32} {v3 : Int32} {v4 : Int32} {v6 : Int32} {q : Int32 × Gs}, Cx p s m args meth c cX12_works (some .boolean) 8 RX12 lw_all → Hx D (tX12 yT) A s H locs (wX12 hT aT yT gT) → lv_has ls 8 [(0, .ref hT), (2, .int v2), (3, .int v3), (4, .int v4), (6, .int v6)] → fn gT v2 v3 v4 v6 = some q → W p l e R_X12_works s m args below meth c H locs 0 0 (MQ below (QI D A (wX12 hT aT yT q.2) q.1) args s 0 0 A) (F0 m 186 ls [])
def S_X12_works_176 (l : Launch) (D : Dx) (hT : Nat) (aT : Nat → Nat) (yT : Nat → ClassId) (fn : Gs → Int32 → Int32 → Int32 → Int32 → Option (Int32 × Gs)) : Prop :=
  ∀ {p : Program} {e : Env} {s : State} {m : MethodId} {args : Array Value} {below : List Frame} {meth : Method} {c : Code} {H : Heap} {locs : List Loc} {A : Nat → Prop} {ls : Array Slot} {gT : Gs} {v2 : Int32} {v3 : Int32} {v4 : Int32} {v6 : Int32} {q : Int32 × Gs}, Cx p s m args meth c cX12_works (some .boolean) 8 RX12 lw_all → Hx D (tX12 yT) A s H locs (wX12 hT aT yT gT) → lv_has ls 8 [(0, .ref hT), (2, .int v2), (3, .int v3), (4, .int v4), (6, .int v6)] → fn gT v2 v3 v4 v6 = some q → W p l e R_X12_works s m args below meth c H locs 0 0 (MQ below (QI D A (wX12 hT aT yT q.2) q.1) args s 0 0 A) (F0 m 176 ls [])
def S_X12_works_171 (l : Launch) (D : Dx) (hT : Nat) (aT : Nat → Nat) (yT : Nat → ClassId) (fn : Gs → Int32 → Int32 → Int32 → Int32 → Option (Int32 × Gs)) : Prop :=
  ∀ {p : Program} {e : Env} {s : State} {m : MethodId} {args : Array Value} {below : List Frame} {meth : Method} {c : Code} {H : Heap} {locs : List Loc} {A : Nat → Prop} {ls : Array Slot} {gT : Gs} {v2 : Int32} {v3 : Int32} {v4 : Int32} {v6 : Int32} {q : Int32 × Gs}, Cx p s m args meth c cX12_works (some .boolean) 8 RX12 lw_all → Hx D (tX12 yT) A s H locs (wX12 hT aT yT gT) → lv_has ls 8 [(0, .ref hT), (2, .int v2), (3, .int v3), (4, .int v4), (6, .int v6)] → fn gT v2 v3 v4 v6 = some q → W p l e R_X12_works s m args below meth c H locs 0 0 (MQ below (QI D A (wX12 hT aT yT q.2) q.1) args s 0 0 A) (F0 m 171 ls [])
def S_X12_works_150 (l : Launch) (D : Dx) (hT : Nat) (aT : Nat → Nat) (yT : Nat → ClassId) (fn : Gs → Int32 → Int32 → Int32 → Int32 → Option (Int32 × Gs)) : Prop :=
  ∀ {p : Program} {e : Env} {s : State} {m : MethodId} {args : Array Value} {below : List Frame} {meth : Method} {c : Code} {H : Heap} {locs : List Loc} {A : Nat → Prop} {ls : Array Slot} {gT : Gs} {v2 : Int32} {v3 : Int32} {v4 : Int32} {v6 : Int32} {q : Int32 × Gs}, Cx p s m args meth c cX12_works (some .boolean) 8 RX12 lw_all → Hx D (tX12 yT) A s H locs (wX12 hT aT yT gT) → lv_has ls 8 [(0, .ref hT), (2, .int v2), (3, .int v3), (4, .int v4), (6, .int v6)] → fn gT v2 v3 v4 v6 = some q → W p l e R_X12_works s m args below meth c H locs 0 0 (MQ below (QI D A (wX12 hT aT yT q.2) q.1) args s 0 0 A) (F0 m 150 ls [])
def S_X12_works_98 (l : Launch) (D : Dx) (hT : Nat) (aT : Nat → Nat) (yT : Nat → ClassId) (fn : Gs → Int32 → Int32 → Int32 → Int32 → Option (Int32 × Gs)) : Prop :=
  ∀ {p : Program} {e : Env} {s : State} {m : MethodId} {args : Array Value} {below : List Frame} {meth : Method} {c : Code} {H : Heap} {locs : List Loc} {A : Nat → Prop} {ls : Array Slot} {gT : Gs} {v2 : Int32} {v3 : Int32} {v4 : Int32} {s0 : Int32} {q : Int32 × Gs}, Cx p s m args meth c cX12_works (some .boolean) 8 RX12 lw_all → Hx D (tX12 yT) A s H locs (wX12 hT aT yT gT) → lv_has ls 8 [(0, .ref hT), (2, .int v2), (3, .int v3), (4, .int v4)] → fn gT v2 v3 v4 s0 = some q → W p l e R_X12_works s m args below meth c H locs 0 0 (MQ below (QI D A (wX12 hT aT yT q.2) q.1) args s 0 0 A) (F0 m 98 ls [.int s0])
def S_X12_works_93 (l : Launch) (D : Dx) (hT : Nat) (aT : Nat → Nat) (yT : Nat → ClassId) (fn : Gs → Int32 → Int32 → Int32 → Option (Int32 × Gs)) : Prop :=
  ∀ {p : Program} {e : Env} {s : State} {m : MethodId} {args : Array Value} {below : List Frame} {meth : Method} {c : Code} {H : Heap} {locs : List Loc} {A : Nat → Prop} {ls : Array Slot} {gT : Gs} {v2 : Int32} {v3 : Int32} {v4 : Int32} {q : Int32 × Gs}, Cx p s m args meth c cX12_works (some .boolean) 8 RX12 lw_all → Hx D (tX12 yT) A s H locs (wX12 hT aT yT gT) → lv_has ls 8 [(0, .ref hT), (2, .int v2), (3, .int v3), (4, .int v4)] → fn gT v2 v3 v4 = some q → W p l e R_X12_works s m args below meth c H locs 0 0 (MQ below (QI D A (wX12 hT aT yT q.2) q.1) args s 0 0 A) (F0 m 93 ls [])
def S_X12_works_97 (l : Launch) (D : Dx) (hT : Nat) (aT : Nat → Nat) (yT : Nat → ClassId) (fn : Gs → Int32 → Int32 → Int32 → Option (Int32 × Gs)) : Prop :=
  ∀ {p : Program} {e : Env} {s : State} {m : MethodId} {args : Array Value} {below : List Frame} {meth : Method} {c : Code} {H : Heap} {locs : List Loc} {A : Nat → Prop} {ls : Array Slot} {gT : Gs} {v2 : Int32} {v3 : Int32} {v4 : Int32} {q : Int32 × Gs}, Cx p s m args meth c cX12_works (some .boolean) 8 RX12 lw_all → Hx D (tX12 yT) A s H locs (wX12 hT aT yT gT) → lv_has ls 8 [(0, .ref hT), (2, .int v2), (3, .int v3), (4, .int v4)] → fn gT v2 v3 v4 = some q → W p l e R_X12_works s m args below meth c H locs 0 0 (MQ below (QI D A (wX12 hT aT yT q.2) q.1) args s 0 0 A) (F0 m 97 ls [])
def S_X12_works_74 (l : Launch) (D : Dx) (hT : Nat) (aT : Nat → Nat) (yT : Nat → ClassId) (fn : Gs → Int32 → Int32 → Int32 → Int32 → Option (Int32 × Gs)) : Prop :=
  ∀ {p : Program} {e : Env} {s : State} {m : MethodId} {args : Array Value} {below : List Frame} {meth : Method} {c : Code} {H : Heap} {locs : List Loc} {A : Nat → Prop} {ls : Array Slot} {gT : Gs} {v2 : Int32} {v3 : Int32} {v4 : Int32} {v5 : Int32} {q : Int32 × Gs}, Cx p s m args meth c cX12_works (some .boolean) 8 RX12 lw_all → Hx D (tX12 yT) A s H locs (wX12 hT aT yT gT) → lv_has ls 8 [(0, .ref hT), (2, .int v2), (3, .int v3), (4, .int v4), (5, .int v5)] → fn gT v2 v3 v4 v5 = some q → W p l e R_X12_works s m args below meth c H locs 0 0 (MQ below (QI D A (wX12 hT aT yT q.2) q.1) args s 0 0 A) (F0 m 74 ls [])
def S_X12_works_62 (l : Launch) (D : Dx) (hT : Nat) (aT : Nat → Nat) (yT : Nat → ClassId) (fn : Gs → Int32 → Int32 → Int32 → Int32 → Option (Int32 × Gs)) : Prop :=
  ∀ {p : Program} {e : Env} {s : State} {m : MethodId} {args : Array Value} {below : List Frame} {meth : Method} {c : Code} {H : Heap} {locs : List Loc} {A : Nat → Prop} {ls : Array Slot} {gT : Gs} {v2 : Int32} {v3 : Int32} {v4 : Int32} {v5 : Int32} {q : Int32 × Gs}, Cx p s m args meth c cX12_works (some .boolean) 8 RX12 lw_all → Hx D (tX12 yT) A s H locs (wX12 hT aT yT gT) → lv_has ls 8 [(0, .ref hT), (2, .int v2), (3, .int v3), (4, .int v4), (5, .int v5)] → fn gT v2 v3 v4 v5 = some q → W p l e R_X12_works s m args below meth c H locs 0 0 (MQ below (QI D A (wX12 hT aT yT q.2) q.1) args s 0 0 A) (F0 m 62 ls [])
def S_X12_works_48 (l : Launch) (D : Dx) (hT : Nat) (aT : Nat → Nat) (yT : Nat → ClassId) (fn : Gs → Int32 → Int32 → Int32 → Int32 → Option (Int32 × Gs)) : Prop :=
  ∀ {p : Program} {e : Env} {s : State} {m : MethodId} {args : Array Value} {below : List Frame} {meth : Method} {c : Code} {H : Heap} {locs : List Loc} {A : Nat → Prop} {ls : Array Slot} {gT : Gs} {v2 : Int32} {v3 : Int32} {v4 : Int32} {s0 : Int32} {q : Int32 × Gs}, Cx p s m args meth c cX12_works (some .boolean) 8 RX12 lw_all → Hx D (tX12 yT) A s H locs (wX12 hT aT yT gT) → lv_has ls 8 [(0, .ref hT), (2, .int v2), (3, .int v3), (4, .int v4)] → fn gT v2 v3 v4 s0 = some q → W p l e R_X12_works s m args below meth c H locs 0 0 (MQ below (QI D A (wX12 hT aT yT q.2) q.1) args s 0 0 A) (F0 m 48 ls [.int s0])
def S_X12_works_47 (l : Launch) (D : Dx) (hT : Nat) (aT : Nat → Nat) (yT : Nat → ClassId) (fn : Gs → Int32 → Int32 → Int32 → Option (Int32 × Gs)) : Prop :=
  ∀ {p : Program} {e : Env} {s : State} {m : MethodId} {args : Array Value} {below : List Frame} {meth : Method} {c : Code} {H : Heap} {locs : List Loc} {A : Nat → Prop} {ls : Array Slot} {gT : Gs} {v2 : Int32} {v3 : Int32} {v4 : Int32} {q : Int32 × Gs}, Cx p s m args meth c cX12_works (some .boolean) 8 RX12 lw_all → Hx D (tX12 yT) A s H locs (wX12 hT aT yT gT) → lv_has ls 8 [(0, .ref hT), (2, .int v2), (3, .int v3), (4, .int v4)] → fn gT v2 v3 v4 = some q → W p l e R_X12_works s m args below meth c H locs 0 0 (MQ below (QI D A (wX12 hT aT yT q.2) q.1) args s 0 0 A) (F0 m 47 ls [])
def S_X12_works_7 (l : Launch) (D : Dx) (hT : Nat) (aT : Nat → Nat) (yT : Nat → ClassId) (fn : Gs → Int32 → Int32 → Option (Int32 × Gs)) : Prop :=
  ∀ {p : Program} {e : Env} {s : State} {m : MethodId} {args : Array Value} {below : List Frame} {meth : Method} {c : Code} {H : Heap} {locs : List Loc} {A : Nat → Prop} {ls : Array Slot} {gT : Gs} {v2 : Int32} {v3 : Int32} {q : Int32 × Gs}, Cx p s m args meth c cX12_works (some .boolean) 8 RX12 lw_all → Hx D (tX12 yT) A s H locs (wX12 hT aT yT gT) → lv_has ls 8 [(0, .ref hT), (2, .int v2), (3, .int v3)] → fn gT v2 v3 = some q → W p l e R_X12_works s m args below meth c H locs 0 0 (MQ below (QI D A (wX12 hT aT yT q.2) q.1) args s 0 0 A) (F0 m 7 ls [])
def SH_X12_works (l : Launch) (D : Dx) (hT : Nat) (aT : Nat → Nat) (yT : Nat → ClassId) (rec : (Gs → Int32 → Int32 → Option (Int32 × Gs))) : Prop := S_X12_works_7 l D hT aT yT rec
set_option maxHeartbeats 4000000 in
set_option maxRecDepth 100000 in
theorem k_X12_works_239 (l : Launch) (D : Dx) (hT : Nat) (aT : Nat → Nat) (yT : Nat → ClassId) (n : Nat) (rec : (Gs → Int32 → Int32 → Option (Int32 × Gs))) (IH : SH_X12_works l D hT aT yT rec) : S_X12_works_239 l D hT aT yT (b_X12_works_239 n rec) := by
  intro p e s m args below meth c H locs A ls gT v2 s0 q C X hl hF
  obtain ⟨hx, hb, hr, hml, hown, hts, hlk⟩ := id C
  unfold b_X12_works_239 at hF
  refine lv_istore_n (lv' := [(3, .int s0), (0, .ref hT), (2, .int v2)]) hx hb dX12_works_239 rfl hl (by decide) rfl (fun ls hl => ?_)
  refine lv_goto (tgt := 7) hx hb dX12_works_240 (by decide) ?_
  exact IH C X (lv_sub hl [1, 2, 0] rfl) hF
set_option maxHeartbeats 4000000 in
set_option maxRecDepth 100000 in
theorem k_X12_works_222 (l : Launch) (D : Dx) (hT : Nat) (aT : Nat → Nat) (yT : Nat → ClassId) (n : Nat) (rec : (Gs → Int32 → Int32 → Option (Int32 × Gs))) (IH : SH_X12_works l D hT aT yT rec) : S_X12_works_222 l D hT aT yT (b_X12_works_222 n rec) := by
  intro p e s m args below meth c H locs A ls gT v2 v3 v6 q C X hl hF
  obtain ⟨hx, hb, hr, hml, hown, hts, hlk⟩ := id C
  unfold b_X12_works_222 at hF
  refine lv_iload hx hb dX12_works_222 (lv_at hl 3 rfl) ?_
  refine lv_if_eq (tgt := 236) hx hb dX12_works_224 (by decide) (fun c => ?_) (fun c => ?_)
  · replace hF := iT c hF
    refine lv_iload_n hx hb dX12_works_236 rfl (lv_at hl 2 rfl) ?_
    refine lv_iconst (v := (1 : Int32)) hx hb dX12_works_237 (by decide) ?_
    refine lv_iadd hx hb dX12_works_238 ?_
    exact (k_X12_works_239 l D hT aT yT n rec IH) C X (lv_sub hl [0, 1] rfl) hF
  · replace hF := iF c hF
    refine lv_aload_n hx hb dX12_works_227 rfl (lv_at hl 0 rfl) ?_
    refine va_get (D := D.1) (ci := 12) (v := .ref (aT 15)) (C := RX12) (T := TX12) (N := 114) hx hb hts wi_X12 hown X.1 X.2.1 0 rfl rfl 15 (by decide) (hts _ q6_209) (fun _ h9 => h9) (fl_get (by decide)) dX12_works_228 ?_
    refine lv_iload_n hx hb dX12_works_231 rfl (lv_at hl 2 rfl) ?_
    obtain ⟨h_3, hF⟩ := grd_some hF
    refine va_iald (D := D.1) (f := gIA gT 15) hx hb X.1 X.2.1 10 9 rfl rfl (inB_ok h_3) dX12_works_232 ?_
    refine lv_goto (tgt := 239) hx hb dX12_works_233 (by decide) ?_
    exact (k_X12_works_239 l D hT aT yT n rec IH) C X (lv_sub hl [0, 1] rfl) hF
set_option maxHeartbeats 4000000 in
set_option maxRecDepth 100000 in
theorem k_X12_works_205 (l : Launch) (D : Dx) (hT : Nat) (aT : Nat → Nat) (yT : Nat → ClassId) (n : Nat) (rec : (Gs → Int32 → Int32 → Option (Int32 × Gs))) (IH : SH_X12_works l D hT aT yT rec) : S_X12_works_205 l D hT aT yT (b_X12_works_205 n rec) := by
  intro p e s m args below meth c H locs A ls gT v2 v3 v6 s0 q C X hl hF
  obtain ⟨hx, hb, hr, hml, hown, hts, hlk⟩ := id C
  unfold b_X12_works_205 at hF
  refine lv_istore (lv' := [(7, .int s0), (0, .ref hT), (2, .int v2), (3, .int v3), (6, .int v6)]) hx hb dX12_works_205 hl (by decide) rfl (fun ls hl => ?_)
  refine lv_iload hx hb dX12_works_207 (lv_at hl 0 rfl) ?_
  refine lv_if_eq (tgt := 222) hx hb dX12_works_209 (by decide) (fun c => ?_) (fun c => ?_)
  · replace hF := iT c hF
    exact (k_X12_works_222 l D hT aT yT n rec IH) C X (lv_sub hl [1, 2, 3, 4] rfl) hF
  · replace hF := iF c hF
    refine lv_aload_n hx hb dX12_works_212 rfl (lv_at hl 1 rfl) ?_
    refine lv_iload_n hx hb dX12_works_213 rfl (lv_at hl 3 rfl) ?_
    obtain ⟨q_4, hc_5, hF⟩ := bnd_some hF
    refine cV_i (As := [.int v3]) (rest := []) C X (c_X12_done l D hT aT yT n gT v3 q_4 hc_5 _) (cwV 1 hts (good_V q9_73 q9_75 q0_110 q1_9 q9_76) rfl rfl rfl (by decide +kernel) ⟨Nat.le_of_ble_eq_true rfl, Nat.le_of_ble_eq_true rfl⟩) (va_recv X.1 X.2.1 (ci := 12) (q0 := 0) rfl rfl) X.1 X.2.1 X.2.2.1 (free_all X) hl.1 rfl rfl (Nat.le_of_ble_eq_true rfl) dX12_works_214 ⟨Nat.le_of_ble_eq_true rfl, Nat.le_of_ble_eq_true rfl⟩ (fun t H1 locs1 ht hB hk hS => ?_)
    have X : Hx D (tX12 yT) A s H1 locs1 (wX12 hT aT yT q_4.2) := Hx_after_all X ht hB hS
    clear hk hS ht hB
    generalize H1 = H at X ⊢
    generalize locs1 = locs at X ⊢
    refine lv_if_ne (tgt := 222) hx hb dX12_works_217 (by decide) (fun c => ?_) (fun c => ?_)
    · replace hF := iF c hF
      exact (k_X12_works_222 l D hT aT yT n rec IH) C X (lv_sub hl [1, 2, 3, 4] rfl) hF
    · replace hF := iT c hF
      refine lv_iconst (v := (0 : Int32)) hx hb dX12_works_220 (by decide) ?_
      have hq := Option.some.inj hF
      subst hq
      exact rt_z (v := (0 : Int32)) C X (by decide) dX12_works_221
set_option maxHeartbeats 4000000 in
set_option maxRecDepth 100000 in
theorem k_X12_works_200 (l : Launch) (D : Dx) (hT : Nat) (aT : Nat → Nat) (yT : Nat → ClassId) (n : Nat) (rec : (Gs → Int32 → Int32 → Option (Int32 × Gs))) (IH : SH_X12_works l D hT aT yT rec) : S_X12_works_200 l D hT aT yT (b_X12_works_200 n rec) := by
  intro p e s m args below meth c H locs A ls gT v2 v3 v6 q C X hl hF
  obtain ⟨hx, hb, hr, hml, hown, hts, hlk⟩ := id C
  unfold b_X12_works_200 at hF
  refine lv_iconst (v := (1 : Int32)) hx hb dX12_works_200 (by decide) ?_
  refine lv_goto (tgt := 205) hx hb dX12_works_201 (by decide) ?_
  exact (k_X12_works_205 l D hT aT yT n rec IH) C X (lv_sub hl [0, 1, 2, 3] rfl) hF
set_option maxHeartbeats 4000000 in
set_option maxRecDepth 100000 in
theorem k_X12_works_186 (l : Launch) (D : Dx) (hT : Nat) (aT : Nat → Nat) (yT : Nat → ClassId) (n : Nat) (rec : (Gs → Int32 → Int32 → Option (Int32 × Gs))) (IH : SH_X12_works l D hT aT yT rec) : S_X12_works_186 l D hT aT yT (b_X12_works_186 n rec) := by
  intro p e s m args below meth c H locs A ls gT v2 v3 v4 v6 q C X hl hF
  obtain ⟨hx, hb, hr, hml, hown, hts, hlk⟩ := id C
  unfold b_X12_works_186 at hF
  refine lv_iload hx hb dX12_works_186 (lv_at hl 3 rfl) ?_
  refine lv_bipush (v := (13 : Int32)) hx hb dX12_works_188 (by decide) ?_
  refine lv_icmp_lt (tgt := 200) hx hb dX12_works_190 (by decide) (fun c => ?_) (fun c => ?_)
  · replace hF := iT c hF
    exact (k_X12_works_200 l D hT aT yT n rec IH) C X (lv_sub hl [0, 1, 2, 4] rfl) hF
  · replace hF := iF c hF
    refine lv_iload hx hb dX12_works_193 (lv_at hl 3 rfl) ?_
    refine lv_bipush (v := (19 : Int32)) hx hb dX12_works_195 (by decide) ?_
    refine lv_icmp_ne (tgt := 204) hx hb dX12_works_197 (by decide) (fun c => ?_) (fun c => ?_)
    · replace hF := iF c hF
      refine lv_iconst (v := (0 : Int32)) hx hb dX12_works_204 (by decide) ?_
      exact (k_X12_works_205 l D hT aT yT n rec IH) C X (lv_sub hl [0, 1, 2, 4] rfl) hF
    · replace hF := iT c hF
      exact (k_X12_works_200 l D hT aT yT n rec IH) C X (lv_sub hl [0, 1, 2, 4] rfl) hF
set_option maxHeartbeats 4000000 in
set_option maxRecDepth 100000 in
theorem k_X12_works_176 (l : Launch) (D : Dx) (hT : Nat) (aT : Nat → Nat) (yT : Nat → ClassId) (n : Nat) (rec : (Gs → Int32 → Int32 → Option (Int32 × Gs))) (IH : SH_X12_works l D hT aT yT rec) : S_X12_works_176 l D hT aT yT (b_X12_works_176 n rec) := by
  intro p e s m args below meth c H locs A ls gT v2 v3 v4 v6 q C X hl hF
  obtain ⟨hx, hb, hr, hml, hown, hts, hlk⟩ := id C
  unfold b_X12_works_176 at hF
  refine lv_aload_n hx hb dX12_works_176 rfl (lv_at hl 0 rfl) ?_
  refine lv_dup hx hb dX12_works_177 rfl ?_
  refine va_get (D := D.1) (ci := 12) (v := .int (gI gT 93)) (C := RX12) (T := TX12) (N := 114) hx hb hts wi_X12 hown X.1 X.2.1 0 rfl rfl 93 (by decide) (hts _ q7_47) (fun _ h9 => h9) (fl_get (by decide)) dX12_works_178 ?_
  refine lv_iconst (v := (1 : Int32)) hx hb dX12_works_181 (by decide) ?_
  refine lv_isub hx hb dX12_works_182 ?_
  refine va_put (D := D.1) (ci := 12) (v := .int ((gI gT 93) - (1 : Int32))) (ty := .int) (C := RX12) (T := TX12) (N := 114) hx hb hts wi_X12 tyX12 tyX12_ok nmX12 hown X.1 X.2.1 X.2.2.1 X.2.2.2.1 0 rfl rfl 93 (by decide) (hts _ q7_47) (fun _ h9 => h9) rfl (by decide +kernel) rfl rfl (by rw [List.length_map, List.length_range]; decide) dX12_works_183 (fun H locs hP hD hS => ?_)
  have X : Hx D (tX12 yT) A s H locs (wX12 hT aT yT (sI gT 93 ((gI gT 93) - (1 : Int32)))) := Hx_set X (wG_sI (k := 93) rfl) hP hD hS
  exact (k_X12_works_186 l D hT aT yT n rec IH) C X (lv_sub hl [0, 1, 2, 3, 4] rfl) hF
set_option maxHeartbeats 4000000 in
set_option maxRecDepth 100000 in
theorem k_X12_works_171 (l : Launch) (D : Dx) (hT : Nat) (aT : Nat → Nat) (yT : Nat → ClassId) (n : Nat) (rec : (Gs → Int32 → Int32 → Option (Int32 × Gs))) (IH : SH_X12_works l D hT aT yT rec) : S_X12_works_171 l D hT aT yT (b_X12_works_171 n rec) := by
  intro p e s m args below meth c H locs A ls gT v2 v3 v4 v6 q C X hl hF
  obtain ⟨hx, hb, hr, hml, hown, hts, hlk⟩ := id C
  unfold b_X12_works_171 at hF
  refine lv_iload hx hb dX12_works_171 (lv_at hl 4 rfl) ?_
  refine lv_if_ne (tgt := 186) hx hb dX12_works_173 (by decide) (fun c => ?_) (fun c => ?_)
  · replace hF := iF c hF
    exact (k_X12_works_186 l D hT aT yT n rec IH) C X (lv_sub hl [0, 1, 2, 3, 4] rfl) hF
  · replace hF := iT c hF
    exact (k_X12_works_176 l D hT aT yT n rec IH) C X (lv_sub hl [0, 1, 2, 3, 4] rfl) hF
set_option maxHeartbeats 4000000 in
set_option maxRecDepth 100000 in
theorem k_X12_works_150 (l : Launch) (D : Dx) (hT : Nat) (aT : Nat → Nat) (yT : Nat → ClassId) (n : Nat) (rec : (Gs → Int32 → Int32 → Option (Int32 × Gs))) (IH : SH_X12_works l D hT aT yT rec) : S_X12_works_150 l D hT aT yT (b_X12_works_150 n rec) := by
  intro p e s m args below meth c H locs A ls gT v2 v3 v4 v6 q C X hl hF
  obtain ⟨hx, hb, hr, hml, hown, hts, hlk⟩ := id C
  unfold b_X12_works_150 at hF
  refine lv_iload hx hb dX12_works_150 (lv_at hl 3 rfl) ?_
  refine lv_bipush (v := (17 : Int32)) hx hb dX12_works_152 (by decide) ?_
  refine lv_icmp_eq (tgt := 176) hx hb dX12_works_154 (by decide) (fun c => ?_) (fun c => ?_)
  · replace hF := iT c hF
    exact (k_X12_works_176 l D hT aT yT n rec IH) C X (lv_sub hl [0, 1, 2, 3, 4] rfl) hF
  · replace hF := iF c hF
    refine lv_iload hx hb dX12_works_157 (lv_at hl 3 rfl) ?_
    refine lv_bipush (v := (13 : Int32)) hx hb dX12_works_159 (by decide) ?_
    refine lv_icmp_eq (tgt := 171) hx hb dX12_works_161 (by decide) (fun c => ?_) (fun c => ?_)
    · replace hF := iT c hF
      exact (k_X12_works_171 l D hT aT yT n rec IH) C X (lv_sub hl [0, 1, 2, 3, 4] rfl) hF
    · replace hF := iF c hF
      refine lv_iload hx hb dX12_works_164 (lv_at hl 3 rfl) ?_
      refine lv_bipush (v := (15 : Int32)) hx hb dX12_works_166 (by decide) ?_
      refine lv_icmp_ne (tgt := 186) hx hb dX12_works_168 (by decide) (fun c => ?_) (fun c => ?_)
      · replace hF := iF c hF
        exact (k_X12_works_186 l D hT aT yT n rec IH) C X (lv_sub hl [0, 1, 2, 3, 4] rfl) hF
      · replace hF := iT c hF
        exact (k_X12_works_171 l D hT aT yT n rec IH) C X (lv_sub hl [0, 1, 2, 3, 4] rfl) hF
set_option maxHeartbeats 4000000 in
set_option maxRecDepth 100000 in
theorem k_X12_works_98 (l : Launch) (D : Dx) (hT : Nat) (aT : Nat → Nat) (yT : Nat → ClassId) (n : Nat) (rec : (Gs → Int32 → Int32 → Option (Int32 × Gs))) (IH : SH_X12_works l D hT aT yT rec) : S_X12_works_98 l D hT aT yT (b_X12_works_98 n rec) := by
  intro p e s m args below meth c H locs A ls gT v2 v3 v4 s0 q C X hl hF
  obtain ⟨hx, hb, hr, hml, hown, hts, hlk⟩ := id C
  unfold b_X12_works_98 at hF
  refine lv_istore (lv' := [(6, .int s0), (0, .ref hT), (2, .int v2), (3, .int v3), (4, .int v4)]) hx hb dX12_works_98 hl (by decide) rfl (fun ls hl => ?_)
  refine lv_iload hx hb dX12_works_100 (lv_at hl 4 rfl) ?_
  refine lv_bipush (v := (18 : Int32)) hx hb dX12_works_102 (by decide) ?_
  refine lv_icmp_ne (tgt := 150) hx hb dX12_works_104 (by decide) (fun c => ?_) (fun c => ?_)
  · replace hF := iF c hF
    exact (k_X12_works_150 l D hT aT yT n rec IH) C X (lv_sub hl [1, 2, 3, 4, 0] rfl) hF
  · replace hF := iT c hF
    refine lv_aload_n hx hb dX12_works_107 rfl (lv_at hl 1 rfl) ?_
    refine va_get (D := D.1) (ci := 12) (v := .ref (aT 92)) (C := RX12) (T := TX12) (N := 114) hx hb hts wi_X12 hown X.1 X.2.1 0 rfl rfl 92 (by decide) (hts _ q7_46) (fun _ h9 => h9) (fl_get (by decide)) dX12_works_108 ?_
    refine lv_aload_n hx hb dX12_works_111 rfl (lv_at hl 1 rfl) ?_
    refine va_get (D := D.1) (ci := 12) (v := .int (gI gT 93)) (C := RX12) (T := TX12) (N := 114) hx hb hts wi_X12 hown X.1 X.2.1 0 rfl rfl 93 (by decide) (hts _ q7_47) (fun _ h9 => h9) (fl_get (by decide)) dX12_works_112 ?_
    refine lv_iconst (v := (1 : Int32)) hx hb dX12_works_115 (by decide) ?_
    refine lv_isub hx hb dX12_works_116 ?_
    refine lv_aload_n hx hb dX12_works_117 rfl (lv_at hl 1 rfl) ?_
    refine lv_aload_n hx hb dX12_works_118 rfl (lv_at hl 1 rfl) ?_
    refine va_get (D := D.1) (ci := 12) (v := .ref (aT 92)) (C := RX12) (T := TX12) (N := 114) hx hb hts wi_X12 hown X.1 X.2.1 0 rfl rfl 92 (by decide) (hts _ q7_46) (fun _ h9 => h9) (fl_get (by decide)) dX12_works_119 ?_
    refine lv_aload_n hx hb dX12_works_122 rfl (lv_at hl 1 rfl) ?_
    refine va_get (D := D.1) (ci := 12) (v := .int (gI gT 93)) (C := RX12) (T := TX12) (N := 114) hx hb hts wi_X12 hown X.1 X.2.1 0 rfl rfl 93 (by decide) (hts _ q7_47) (fun _ h9 => h9) (fl_get (by decide)) dX12_works_123 ?_
    refine lv_iconst (v := (1 : Int32)) hx hb dX12_works_126 (by decide) ?_
    refine lv_isub hx hb dX12_works_127 ?_
    obtain ⟨h_6, hF⟩ := grd_some hF
    refine va_lald (D := D.1) (f := gLA gT 92) hx hb X.1 X.2.1 63 62 rfl rfl (inB_ok h_6) dX12_works_128 ?_
    refine lv_aload_n hx hb dX12_works_129 rfl (lv_at hl 1 rfl) ?_
    refine va_get (D := D.1) (ci := 12) (v := .ref (aT 16)) (C := RX12) (T := TX12) (N := 114) hx hb hts wi_X12 hown X.1 X.2.1 0 rfl rfl 16 (by decide) (hts _ q6_210) (fun _ h9 => h9) (fl_get (by decide)) dX12_works_130 ?_
    refine lv_iload_n hx hb dX12_works_133 rfl (lv_at hl 3 rfl) ?_
    obtain ⟨h_7, hF⟩ := grd_some hF
    refine va_iald (D := D.1) (f := gIA gT 16) hx hb X.1 X.2.1 11 10 rfl rfl (inB_ok h_7) dX12_works_134 ?_
    refine lv_iconst (v := (3 : Int32)) hx hb dX12_works_135 (by decide) ?_
    refine lv_ishr hx hb dX12_works_136 ?_
    refine lv_aload_n hx hb dX12_works_137 rfl (lv_at hl 1 rfl) ?_
    refine va_get (D := D.1) (ci := 12) (v := .ref (aT 16)) (C := RX12) (T := TX12) (N := 114) hx hb hts wi_X12 hown X.1 X.2.1 0 rfl rfl 16 (by decide) (hts _ q6_210) (fun _ h9 => h9) (fl_get (by decide)) dX12_works_138 ?_
    refine lv_iload_n hx hb dX12_works_141 rfl (lv_at hl 3 rfl) ?_
    obtain ⟨h_8, hF⟩ := grd_some hF
    refine va_iald (D := D.1) (f := gIA gT 16) hx hb X.1 X.2.1 11 10 rfl rfl (inB_ok h_8) dX12_works_142 ?_
    refine lv_bipush (v := (7 : Int32)) hx hb dX12_works_143 (by decide) ?_
    refine lv_iand hx hb dX12_works_145 ?_
    obtain ⟨q_9, hc_10, hF⟩ := bnd_some hF
    refine cV_l (As := [.long (gLA gT 92 ((gI gT 93) - (1 : Int32)).toNatClampNeg), .int ((gIA gT 16 v3.toNatClampNeg) >>> ((3 : Int32) &&& 31)), .int ((gIA gT 16 v3.toNatClampNeg) &&& (7 : Int32))]) (rest := [.int ((gI gT 93) - (1 : Int32)), .ref (aT 92)]) C X (c_X12_become l D hT aT yT n gT (gLA gT 92 ((gI gT 93) - (1 : Int32)).toNatClampNeg) ((gIA gT 16 v3.toNatClampNeg) >>> ((3 : Int32) &&& 31)) ((gIA gT 16 v3.toNatClampNeg) &&& (7 : Int32)) q_9 hc_10 _) (cwV 3 hts (good_V q8_136 q8_138 q0_73 q1_9 q8_139) rfl rfl rfl (by decide +kernel) ⟨Nat.le_of_ble_eq_true rfl, Nat.le_of_ble_eq_true rfl⟩) (va_recv X.1 X.2.1 (ci := 12) (q0 := 0) rfl rfl) X.1 X.2.1 X.2.2.1 (free_all X) hl.1 rfl rfl (Nat.le_of_ble_eq_true rfl) dX12_works_146 ⟨Nat.le_of_ble_eq_true rfl, Nat.le_of_ble_eq_true rfl⟩ (fun t H1 locs1 ht hB hk hS => ?_)
    have X : Hx D (tX12 yT) A s H1 locs1 (wX12 hT aT yT q_9.2) := Hx_after_all X ht hB hS
    clear hk hS ht hB
    generalize H1 = H at X ⊢
    generalize locs1 = locs at X ⊢
    obtain ⟨h_11, hF⟩ := grd_some hF
    refine va_last (D := D.1) (f := gLA q_9.2 92) hx hb X.1 X.2.1 X.2.2.1 X.2.2.2.1 63 62 rfl rfl (inB_ok h_11) dX12_works_149 (fun H locs hP hD hS => ?_)
    have X : Hx D (tX12 yT) A s H locs (wX12 hT aT yT (sLA q_9.2 92 (vp_updL (gLA q_9.2 92) ((gI gT 93) - (1 : Int32)).toNatClampNeg q_9.1))) := Hx_set X (wG_sLA (i := 62) (k := 92) ndX12 rfl rfl) hP hD hS
    exact (k_X12_works_150 l D hT aT yT n rec IH) C X (lv_sub hl [1, 2, 3, 4, 0] rfl) hF
set_option maxHeartbeats 4000000 in
set_option maxRecDepth 100000 in
theorem k_X12_works_93 (l : Launch) (D : Dx) (hT : Nat) (aT : Nat → Nat) (yT : Nat → ClassId) (n : Nat) (rec : (Gs → Int32 → Int32 → Option (Int32 × Gs))) (IH : SH_X12_works l D hT aT yT rec) : S_X12_works_93 l D hT aT yT (b_X12_works_93 n rec) := by
  intro p e s m args below meth c H locs A ls gT v2 v3 v4 q C X hl hF
  obtain ⟨hx, hb, hr, hml, hown, hts, hlk⟩ := id C
  unfold b_X12_works_93 at hF
  refine lv_iconst (v := (1 : Int32)) hx hb dX12_works_93 (by decide) ?_
  refine lv_goto (tgt := 98) hx hb dX12_works_94 (by decide) ?_
  exact (k_X12_works_98 l D hT aT yT n rec IH) C X (lv_sub hl [0, 1, 2, 3] rfl) hF
set_option maxHeartbeats 4000000 in
set_option maxRecDepth 100000 in
theorem k_X12_works_97 (l : Launch) (D : Dx) (hT : Nat) (aT : Nat → Nat) (yT : Nat → ClassId) (n : Nat) (rec : (Gs → Int32 → Int32 → Option (Int32 × Gs))) (IH : SH_X12_works l D hT aT yT rec) : S_X12_works_97 l D hT aT yT (b_X12_works_97 n rec) := by
  intro p e s m args below meth c H locs A ls gT v2 v3 v4 q C X hl hF
  obtain ⟨hx, hb, hr, hml, hown, hts, hlk⟩ := id C
  unfold b_X12_works_97 at hF
  refine lv_iconst (v := (0 : Int32)) hx hb dX12_works_97 (by decide) ?_
  exact (k_X12_works_98 l D hT aT yT n rec IH) C X (lv_sub hl [0, 1, 2, 3] rfl) hF
set_option maxHeartbeats 4000000 in
set_option maxRecDepth 100000 in
theorem k_X12_works_74 (l : Launch) (D : Dx) (hT : Nat) (aT : Nat → Nat) (yT : Nat → ClassId) (n : Nat) (rec : (Gs → Int32 → Int32 → Option (Int32 × Gs))) (IH : SH_X12_works l D hT aT yT rec) : S_X12_works_74 l D hT aT yT (b_X12_works_74 n rec) := by
  intro p e s m args below meth c H locs A ls gT v2 v3 v4 v5 q C X hl hF
  obtain ⟨hx, hb, hr, hml, hown, hts, hlk⟩ := id C
  unfold b_X12_works_74 at hF
  refine lv_iload hx hb dX12_works_74 (lv_at hl 3 rfl) ?_
  refine lv_bipush (v := (18 : Int32)) hx hb dX12_works_76 (by decide) ?_
  refine lv_icmp_eq (tgt := 93) hx hb dX12_works_78 (by decide) (fun c => ?_) (fun c => ?_)
  · replace hF := iT c hF
    exact (k_X12_works_93 l D hT aT yT n rec IH) C X (lv_sub hl [0, 1, 2, 3] rfl) hF
  · replace hF := iF c hF
    refine lv_iload hx hb dX12_works_81 (lv_at hl 3 rfl) ?_
    refine lv_bipush (v := (17 : Int32)) hx hb dX12_works_83 (by decide) ?_
    refine lv_icmp_ne (tgt := 97) hx hb dX12_works_85 (by decide) (fun c => ?_) (fun c => ?_)
    · replace hF := iF c hF
      exact (k_X12_works_97 l D hT aT yT n rec IH) C X (lv_sub hl [0, 1, 2, 3] rfl) hF
    · replace hF := iT c hF
      refine lv_iload hx hb dX12_works_88 (lv_at hl 4 rfl) ?_
      refine lv_if_ne (tgt := 97) hx hb dX12_works_90 (by decide) (fun c => ?_) (fun c => ?_)
      · replace hF := iF c hF
        exact (k_X12_works_97 l D hT aT yT n rec IH) C X (lv_sub hl [0, 1, 2, 3] rfl) hF
      · replace hF := iT c hF
        exact (k_X12_works_93 l D hT aT yT n rec IH) C X (lv_sub hl [0, 1, 2, 3] rfl) hF
set_option maxHeartbeats 4000000 in
set_option maxRecDepth 100000 in
theorem k_X12_works_62 (l : Launch) (D : Dx) (hT : Nat) (aT : Nat → Nat) (yT : Nat → ClassId) (n : Nat) (rec : (Gs → Int32 → Int32 → Option (Int32 × Gs))) (IH : SH_X12_works l D hT aT yT rec) : S_X12_works_62 l D hT aT yT (b_X12_works_62 n rec) := by
  intro p e s m args below meth c H locs A ls gT v2 v3 v4 v5 q C X hl hF
  obtain ⟨hx, hb, hr, hml, hown, hts, hlk⟩ := id C
  unfold b_X12_works_62 at hF
  refine lv_iload hx hb dX12_works_62 (lv_at hl 3 rfl) ?_
  refine lv_bipush (v := (15 : Int32)) hx hb dX12_works_64 (by decide) ?_
  refine lv_icmp_ne (tgt := 74) hx hb dX12_works_66 (by decide) (fun c => ?_) (fun c => ?_)
  · replace hF := iF c hF
    exact (k_X12_works_74 l D hT aT yT n rec IH) C X (lv_sub hl [0, 1, 2, 3, 4] rfl) hF
  · replace hF := iT c hF
    refine lv_iload hx hb dX12_works_69 (lv_at hl 4 rfl) ?_
    refine lv_if_ne (tgt := 93) hx hb dX12_works_71 (by decide) (fun c => ?_) (fun c => ?_)
    · replace hF := iF c hF
      exact (k_X12_works_93 l D hT aT yT n rec IH) C X (lv_sub hl [0, 1, 2, 3] rfl) hF
    · replace hF := iT c hF
      exact (k_X12_works_74 l D hT aT yT n rec IH) C X (lv_sub hl [0, 1, 2, 3, 4] rfl) hF
set_option maxHeartbeats 4000000 in
set_option maxRecDepth 100000 in
theorem k_X12_works_48 (l : Launch) (D : Dx) (hT : Nat) (aT : Nat → Nat) (yT : Nat → ClassId) (n : Nat) (rec : (Gs → Int32 → Int32 → Option (Int32 × Gs))) (IH : SH_X12_works l D hT aT yT rec) : S_X12_works_48 l D hT aT yT (b_X12_works_48 n rec) := by
  intro p e s m args below meth c H locs A ls gT v2 v3 v4 s0 q C X hl hF
  obtain ⟨hx, hb, hr, hml, hown, hts, hlk⟩ := id C
  unfold b_X12_works_48 at hF
  refine lv_istore (lv' := [(5, .int s0), (0, .ref hT), (2, .int v2), (3, .int v3), (4, .int v4)]) hx hb dX12_works_48 hl (by decide) rfl (fun ls hl => ?_)
  refine lv_iload hx hb dX12_works_50 (lv_at hl 4 rfl) ?_
  refine lv_bipush (v := (13 : Int32)) hx hb dX12_works_52 (by decide) ?_
  refine lv_icmp_ne (tgt := 62) hx hb dX12_works_54 (by decide) (fun c => ?_) (fun c => ?_)
  · replace hF := iF c hF
    exact (k_X12_works_62 l D hT aT yT n rec IH) C X (lv_sub hl [1, 2, 3, 4, 0] rfl) hF
  · replace hF := iT c hF
    refine lv_iload hx hb dX12_works_57 (lv_at hl 0 rfl) ?_
    refine lv_if_eq (tgt := 93) hx hb dX12_works_59 (by decide) (fun c => ?_) (fun c => ?_)
    · replace hF := iT c hF
      exact (k_X12_works_93 l D hT aT yT n rec IH) C X (lv_sub hl [1, 2, 3, 4] rfl) hF
    · replace hF := iF c hF
      exact (k_X12_works_62 l D hT aT yT n rec IH) C X (lv_sub hl [1, 2, 3, 4, 0] rfl) hF
set_option maxHeartbeats 4000000 in
set_option maxRecDepth 100000 in
theorem k_X12_works_47 (l : Launch) (D : Dx) (hT : Nat) (aT : Nat → Nat) (yT : Nat → ClassId) (n : Nat) (rec : (Gs → Int32 → Int32 → Option (Int32 × Gs))) (IH : SH_X12_works l D hT aT yT rec) : S_X12_works_47 l D hT aT yT (b_X12_works_47 n rec) := by
  intro p e s m args below meth c H locs A ls gT v2 v3 v4 q C X hl hF
  obtain ⟨hx, hb, hr, hml, hown, hts, hlk⟩ := id C
  unfold b_X12_works_47 at hF
  refine lv_iconst (v := (0 : Int32)) hx hb dX12_works_47 (by decide) ?_
  exact (k_X12_works_48 l D hT aT yT n rec IH) C X (lv_sub hl [0, 1, 2, 3] rfl) hF
set_option maxHeartbeats 4000000 in
set_option maxRecDepth 100000 in
theorem k_X12_works_7 (l : Launch) (D : Dx) (hT : Nat) (aT : Nat → Nat) (yT : Nat → ClassId) (n : Nat) (rec : (Gs → Int32 → Int32 → Option (Int32 × Gs))) (IH : SH_X12_works l D hT aT yT rec) : S_X12_works_7 l D hT aT yT (h_X12_works_7 n rec) := by
  intro p e s m args below meth c H locs A ls gT v2 v3 q C X hl hF
  obtain ⟨hx, hb, hr, hml, hown, hts, hlk⟩ := id C
  unfold h_X12_works_7 at hF
  refine lv_iload_n hx hb dX12_works_7 rfl (lv_at hl 2 rfl) ?_
  refine lv_iload_n hx hb dX12_works_8 rfl (lv_at hl 1 rfl) ?_
  refine lv_icmp_ge (tgt := 243) hx hb dX12_works_9 (by decide) (fun c => ?_) (fun c => ?_)
  · replace hF := iT c hF
    refine lv_aload_n hx hb dX12_works_243 rfl (lv_at hl 0 rfl) ?_
    refine lv_aload_n hx hb dX12_works_244 rfl (lv_at hl 0 rfl) ?_
    refine va_get (D := D.1) (ci := 12) (v := .ref (aT 92)) (C := RX12) (T := TX12) (N := 114) hx hb hts wi_X12 hown X.1 X.2.1 0 rfl rfl 92 (by decide) (hts _ q7_46) (fun _ h9 => h9) (fl_get (by decide)) dX12_works_245 ?_
    refine lv_aload_n hx hb dX12_works_248 rfl (lv_at hl 0 rfl) ?_
    refine va_get (D := D.1) (ci := 12) (v := .int (gI gT 93)) (C := RX12) (T := TX12) (N := 114) hx hb hts wi_X12 hown X.1 X.2.1 0 rfl rfl 93 (by decide) (hts _ q7_47) (fun _ h9 => h9) (fl_get (by decide)) dX12_works_249 ?_
    refine lv_iconst (v := (1 : Int32)) hx hb dX12_works_252 (by decide) ?_
    refine lv_isub hx hb dX12_works_253 ?_
    obtain ⟨h_1, hF⟩ := grd_some hF
    refine va_lald (D := D.1) (f := gLA gT 92) hx hb X.1 X.2.1 63 62 rfl rfl (inB_ok h_1) dX12_works_254 ?_
    refine va_put (D := D.1) (ci := 12) (v := .long (gLA gT 92 ((gI gT 93) - (1 : Int32)).toNatClampNeg)) (ty := .long) (C := RX12) (T := TX12) (N := 114) hx hb hts wi_X12 tyX12 tyX12_ok nmX12 hown X.1 X.2.1 X.2.2.1 X.2.2.2.1 0 rfl rfl 94 (by decide) (hts _ q7_48) (fun _ h9 => h9) rfl (by decide +kernel) rfl rfl (by rw [List.length_map, List.length_range]; decide) dX12_works_255 (fun H locs hP hD hS => ?_)
    have X : Hx D (tX12 yT) A s H locs (wX12 hT aT yT (sL gT 94 (gLA gT 92 ((gI gT 93) - (1 : Int32)).toNatClampNeg))) := Hx_set X (wG_sL (k := 94) rfl) hP hD hS
    refine lv_iconst (v := (1 : Int32)) hx hb dX12_works_258 (by decide) ?_
    have hq := Option.some.inj hF
    subst hq
    exact rt_z (v := (1 : Int32)) C X (by decide) dX12_works_259
  · replace hF := iF c hF
    refine lv_aload_n hx hb dX12_works_12 rfl (lv_at hl 0 rfl) ?_
    refine va_get (D := D.1) (ci := 12) (v := .ref (aT 14)) (C := RX12) (T := TX12) (N := 114) hx hb hts wi_X12 hown X.1 X.2.1 0 rfl rfl 14 (by decide) (hts _ q6_208) (fun _ h9 => h9) (fl_get (by decide)) dX12_works_13 ?_
    refine lv_iload_n hx hb dX12_works_16 rfl (lv_at hl 2 rfl) ?_
    obtain ⟨h_2, hF⟩ := grd_some hF
    refine va_iald (D := D.1) (f := gIA gT 14) hx hb X.1 X.2.1 9 8 rfl rfl (inB_ok h_2) dX12_works_17 ?_
    refine lv_istore (lv' := [(4, .int (gIA gT 14 v3.toNatClampNeg)), (0, .ref hT), (2, .int v2), (3, .int v3)]) hx hb dX12_works_18 hl (by decide) rfl (fun ls hl => ?_)
    refine lv_aload_n hx hb dX12_works_20 rfl (lv_at hl 1 rfl) ?_
    refine va_get (D := D.1) (ci := 12) (v := .int (gI gT 93)) (C := RX12) (T := TX12) (N := 114) hx hb hts wi_X12 hown X.1 X.2.1 0 rfl rfl 93 (by decide) (hts _ q7_47) (fun _ h9 => h9) (fl_get (by decide)) dX12_works_21 ?_
    refine lv_if_le (tgt := 47) hx hb dX12_works_24 (by decide) (fun c => ?_) (fun c => ?_)
    · replace hF := iT c hF
      exact (k_X12_works_47 l D hT aT yT n rec IH) C X (lv_sub hl [1, 2, 3, 0] rfl) hF
    · replace hF := iF c hF
      refine lv_aload_n hx hb dX12_works_27 rfl (lv_at hl 1 rfl) ?_
      refine va_get (D := D.1) (ci := 12) (v := .ref (aT 92)) (C := RX12) (T := TX12) (N := 114) hx hb hts wi_X12 hown X.1 X.2.1 0 rfl rfl 92 (by decide) (hts _ q7_46) (fun _ h9 => h9) (fl_get (by decide)) dX12_works_28 ?_
      refine lv_aload_n hx hb dX12_works_31 rfl (lv_at hl 1 rfl) ?_
      refine va_get (D := D.1) (ci := 12) (v := .int (gI gT 93)) (C := RX12) (T := TX12) (N := 114) hx hb hts wi_X12 hown X.1 X.2.1 0 rfl rfl 93 (by decide) (hts _ q7_47) (fun _ h9 => h9) (fl_get (by decide)) dX12_works_32 ?_
      refine lv_iconst (v := (1 : Int32)) hx hb dX12_works_35 (by decide) ?_
      refine lv_isub hx hb dX12_works_36 ?_
      obtain ⟨h_12, hF⟩ := grd_some hF
      refine va_lald (D := D.1) (f := gLA gT 92) hx hb X.1 X.2.1 63 62 rfl rfl (inB_ok h_12) dX12_works_37 ?_
      refine lv_lconst (v := (0 : Int64)) hx hb dX12_works_38 (by decide) ?_
      refine W.lcmp hx hb dX12_works_39 ?_
      refine lv_if_eq (tgt := 47) hx hb dX12_works_40 (by decide) (fun c => ?_) (fun c => ?_)
      · have c := (lg_cmp_eq _ _).mp c
        replace hF := iT c hF
        exact (k_X12_works_47 l D hT aT yT n rec IH) C X (lv_sub hl [1, 2, 3, 0] rfl) hF
      · have c := fun h => c ((lg_cmp_eq _ _).mpr h)
        replace hF := iF c hF
        refine lv_iconst (v := (1 : Int32)) hx hb dX12_works_43 (by decide) ?_
        refine lv_goto (tgt := 48) hx hb dX12_works_44 (by decide) ?_
        exact (k_X12_works_48 l D hT aT yT n rec IH) C X (lv_sub hl [1, 2, 3, 0] rfl) hF
theorem kL_X12_works (l : Launch) (D : Dx) (hT : Nat) (aT : Nat → Nat) (yT : Nat → ClassId) (n : Nat) : ∀ k, SH_X12_works l D hT aT yT (L_X12_works n k)
  | 0 => fun _ _ _ h => by cases h
  | k + 1 => k_X12_works_7 l D hT aT yT n _ (kL_X12_works l D hT aT yT n k)
set_option maxHeartbeats 4000000 in
set_option maxRecDepth 100000 in
theorem c_X12_works (l : Launch) (D : Dx) (hT : Nat) (aT : Nat → Nat) (yT : Nat → ClassId) (n : Nat) (gT : Gs) (x0 : Int32) (x1 : Int32) (q : Int32 × Gs) (hF : f_X12_works n gT x0 x1 = some q) (sz : Nat) : Met l yX12_works (ws_ yX12_works cX12_works 8 (some .boolean)) R_X12_works (PC D (tX12 yT) [.ref hT, .int x0, .int x1] (wX12 hT aT yT gT) sz) (QI D (va_A (wX12 hT aT yT gT) sz) (wX12 hT aT yT q.2) q.1) 0 0 (va_A (wX12 hT aT yT gT) sz) := by
  refine Met.ofW (cc := cX12_works) (maxL := 8) (ret := (some .boolean)) (by decide) rfl ?_
  intro p e s m args below meth c s₁ B hml hv
  obtain ⟨rfl, hsz, hP, hK, hD, hN⟩ := hv
  subst hsz
  have C : Cx p s m _ meth c cX12_works (some .boolean) 8 RX12 lw_all := Cx_of B hml
  have X := Hx_start hP hK hD hN
  obtain ⟨hx, hb, hr, -, hown, hts, hlk⟩ := id C
  generalize va_A (wX12 hT aT yT gT) s.heap.size = A at X ⊢
  have hl := lv_entry ([.ref hT, .int x0, .int x1]) (n := 8) (Nat.le_of_ble_eq_true rfl)
  rw [lg_entry_eq]
  generalize (lg_sl ([.ref hT, .int x0, .int x1]) ++ List.replicate (8 - (lg_sl ([.ref hT, .int x0, .int x1])).length) Slot.unset).toArray = ls at hl ⊢
  have hl : lv_has ls 8 [(0, .ref hT), (1, .int x0), (2, .int x1)] := hl
  unfold f_X12_works at hF
  refine lv_aload_n hx hb dX12_works_0 rfl (lv_at hl 0 rfl) ?_
  refine lv_iconst (v := (0 : Int32)) hx hb dX12_works_1 (by decide) ?_
  refine va_put (D := D.1) (ci := 12) (v := .int (0 : Int32)) (ty := .int) (C := RX12) (T := TX12) (N := 114) hx hb hts wi_X12 tyX12 tyX12_ok nmX12 hown X.1 X.2.1 X.2.2.1 X.2.2.2.1 0 rfl rfl 93 (by decide) (hts _ q7_47) (fun _ h9 => h9) rfl (by decide +kernel) rfl rfl (by rw [List.length_map, List.length_range]; decide) dX12_works_2 (fun H locs hP hD hS => ?_)
  have X : Hx D (tX12 yT) A s H locs (wX12 hT aT yT (sI gT 93 (0 : Int32))) := Hx_set X (wG_sI (k := 93) rfl) hP hD hS
  refine lv_iload_n hx hb dX12_works_5 rfl (lv_at hl 1 rfl) ?_
  refine lv_istore_n (lv' := [(3, .int x0), (0, .ref hT), (1, .int x0), (2, .int x1)]) hx hb dX12_works_6 rfl hl (by decide) rfl (fun ls hl => ?_)
  exact (kL_X12_works l D hT aT yT n n) C X (lv_sub hl [1, 3, 0] rfl) hF

/-! ### X12_jammed -/
theorem dX12_jammed_0 : decode cX12_jammed 0 = .ok (.aload_n 0, 1) := by decide +kernel
theorem dX12_jammed_1 : decode cX12_jammed 1 = .ok (.getfield 307, 3) := by decide +kernel
theorem dX12_jammed_4 : decode cX12_jammed 4 = .ok (.iload_n 1, 1) := by decide +kernel
theorem dX12_jammed_5 : decode cX12_jammed 5 = .ok (.iaload, 1) := by decide +kernel
theorem dX12_jammed_6 : decode cX12_jammed 6 = .ok (.ldc_w 652, 3) := by decide +kernel
theorem dX12_jammed_9 : decode cX12_jammed 9 = .ok (.if_icmp .ge 13, 3) := by decide +kernel
theorem dX12_jammed_12 : decode cX12_jammed 12 = .ok (.aload_n 0, 1) := by decide +kernel
theorem dX12_jammed_13 : decode cX12_jammed 13 = .ok (.getfield 307, 3) := by decide +kernel
theorem dX12_jammed_16 : decode cX12_jammed 16 = .ok (.iload_n 1, 1) := by decide +kernel
theorem dX12_jammed_17 : decode cX12_jammed 17 = .ok (.dup2, 1) := by decide +kernel
theorem dX12_jammed_18 : decode cX12_jammed 18 = .ok (.iaload, 1) := by decide +kernel
theorem dX12_jammed_19 : decode cX12_jammed 19 = .ok (.iconst 1, 1) := by decide +kernel
theorem dX12_jammed_20 : decode cX12_jammed 20 = .ok (.iadd, 1) := by decide +kernel
theorem dX12_jammed_21 : decode cX12_jammed 21 = .ok (.iastore, 1) := by decide +kernel
theorem dX12_jammed_22 : decode cX12_jammed 22 = .ok (.aload_n 0, 1) := by decide +kernel
theorem dX12_jammed_23 : decode cX12_jammed 23 = .ok (.getfield 310, 3) := by decide +kernel
theorem dX12_jammed_26 : decode cX12_jammed 26 = .ok (.iload_n 1, 1) := by decide +kernel
theorem dX12_jammed_27 : decode cX12_jammed 27 = .ok (.aload_n 0, 1) := by decide +kernel
theorem dX12_jammed_28 : decode cX12_jammed 28 = .ok (.getfield 346, 3) := by decide +kernel
theorem dX12_jammed_31 : decode cX12_jammed 31 = .ok (.iastore, 1) := by decide +kernel
theorem dX12_jammed_32 : decode cX12_jammed 32 = .ok (.aload_n 0, 1) := by decide +kernel
theorem dX12_jammed_33 : decode cX12_jammed 33 = .ok (.getfield 313, 3) := by decide +kernel
theorem dX12_jammed_36 : decode cX12_jammed 36 = .ok (.iload_n 1, 1) := by decide +kernel
theorem dX12_jammed_37 : decode cX12_jammed 37 = .ok (.aload_n 0, 1) := by decide +kernel
theorem dX12_jammed_38 : decode cX12_jammed 38 = .ok (.getfield 349, 3) := by decide +kernel
theorem dX12_jammed_41 : decode cX12_jammed 41 = .ok (.iastore, 1) := by decide +kernel
theorem dX12_jammed_42 : decode cX12_jammed 42 = .ok (.return_, 1) := by decide +kernel
abbrev R_X12_jammed : Room := ({ frames := 0, cells := 0, slots := 0, locals := 0 } : Room)
def b_X12_jammed_22 (gT : Gs) (v1 : Int32) : Option (Gs) :=
  grd (inB v1 52) (grd (inB v1 52) (some (sIA (sIA gT 84 (upd (gIA gT 84) v1.toNatClampNeg (gI gT 95))) 85 (upd (gIA gT 85) v1.toNatClampNeg (gI gT 96)))))
def f_X12_jammed (gT : Gs) (x0 : Int32) : Option (Gs) :=
  grd (inB x0 52) (if (2147483647 : Int32) ≤ (gIA gT 83 x0.toNatClampNeg) then (b_X12_jammed_22 gT x0) else (grd (inB x0 52) (grd (inB x0 52) (b_X12_jammed_22 (sIA gT 83 (upd (gIA gT 83) x0.toNatClampNeg ((gIA gT 83 x0.toNatClampNeg) + (1 : Int32)))) x0))))
def S_X12_jammed_22 (l : Launch) (D : Dx) (hT : Nat) (aT : Nat → Nat) (yT : Nat → ClassId) (fn : Gs → Int32 → Option (Gs)) : Prop :=
  ∀ {p : Program} {e : Env} {s : State} {m : MethodId} {args : Array Value} {below : List Frame} {meth : Method} {c : Code} {H : Heap} {locs : List Loc} {A : Nat → Prop} {ls : Array Slot} {gT : Gs} {v1 : Int32} {q : Gs}, Cx p s m args meth c cX12_jammed none 2 RX12 lw_all → Hx D (tX12 yT) A s H locs (wX12 hT aT yT gT) → lv_has ls 2 [(0, .ref hT), (1, .int v1)] → fn gT v1 = some q → W p l e R_X12_jammed s m args below meth c H locs 0 0 (MQ below (QV D A (wX12 hT aT yT q)) args s 0 0 A) (F0 m 22 ls [])
set_option maxHeartbeats 4000000 in
set_option maxRecDepth 100000 in
theorem k_X12_jammed_22 (l : Launch) (D : Dx) (hT : Nat) (aT : Nat → Nat) (yT : Nat → ClassId) : S_X12_jammed_22 l D hT aT yT (b_X12_jammed_22) := by
  intro p e s m args below meth c H locs A ls gT v1 q C X hl hF
  obtain ⟨hx, hb, hr, hml, hown, hts, hlk⟩ := id C
  unfold b_X12_jammed_22 at hF
  refine lv_aload_n hx hb dX12_jammed_22 rfl (lv_at hl 0 rfl) ?_
  refine va_get (D := D.1) (ci := 12) (v := .ref (aT 84)) (C := RX12) (T := TX12) (N := 114) hx hb hts wi_X12 hown X.1 X.2.1 0 rfl rfl 84 (by decide) (hts _ q7_38) (fun _ h9 => h9) (fl_get (by decide)) dX12_jammed_23 ?_
  refine lv_iload_n hx hb dX12_jammed_26 rfl (lv_at hl 1 rfl) ?_
  refine lv_aload_n hx hb dX12_jammed_27 rfl (lv_at hl 0 rfl) ?_
  refine va_get (D := D.1) (ci := 12) (v := .int (gI gT 95)) (C := RX12) (T := TX12) (N := 114) hx hb hts wi_X12 hown X.1 X.2.1 0 rfl rfl 95 (by decide) (hts _ q7_49) (fun _ h9 => h9) (fl_get (by decide)) dX12_jammed_28 ?_
  obtain ⟨h_2, hF⟩ := grd_some hF
  refine va_iast (D := D.1) (f := gIA gT 84) hx hb X.1 X.2.1 X.2.2.1 X.2.2.2.1 58 57 rfl rfl (inB_ok h_2) dX12_jammed_31 (fun H locs hP hD hS => ?_)
  have X : Hx D (tX12 yT) A s H locs (wX12 hT aT yT (sIA gT 84 (upd (gIA gT 84) v1.toNatClampNeg (gI gT 95)))) := Hx_set X (wG_sIA (i := 57) (k := 84) ndX12 rfl rfl) hP hD hS
  refine lv_aload_n hx hb dX12_jammed_32 rfl (lv_at hl 0 rfl) ?_
  refine va_get (D := D.1) (ci := 12) (v := .ref (aT 85)) (C := RX12) (T := TX12) (N := 114) hx hb hts wi_X12 hown X.1 X.2.1 0 rfl rfl 85 (by decide) (hts _ q7_39) (fun _ h9 => h9) (fl_get (by decide)) dX12_jammed_33 ?_
  refine lv_iload_n hx hb dX12_jammed_36 rfl (lv_at hl 1 rfl) ?_
  refine lv_aload_n hx hb dX12_jammed_37 rfl (lv_at hl 0 rfl) ?_
  refine va_get (D := D.1) (ci := 12) (v := .int (gI gT 96)) (C := RX12) (T := TX12) (N := 114) hx hb hts wi_X12 hown X.1 X.2.1 0 rfl rfl 96 (by decide) (hts _ q7_50) (fun _ h9 => h9) (fl_get (by decide)) dX12_jammed_38 ?_
  obtain ⟨h_3, hF⟩ := grd_some hF
  refine va_iast (D := D.1) (f := gIA gT 85) hx hb X.1 X.2.1 X.2.2.1 X.2.2.2.1 59 58 rfl rfl (inB_ok h_3) dX12_jammed_41 (fun H locs hP hD hS => ?_)
  have X : Hx D (tX12 yT) A s H locs (wX12 hT aT yT (sIA (sIA gT 84 (upd (gIA gT 84) v1.toNatClampNeg (gI gT 95))) 85 (upd (gIA gT 85) v1.toNatClampNeg (gI gT 96)))) := Hx_set X (wG_sIA (i := 58) (k := 85) ndX12 rfl rfl) hP hD hS
  have hq := Option.some.inj hF
  subst hq
  exact rt_v C X dX12_jammed_42
set_option maxHeartbeats 4000000 in
set_option maxRecDepth 100000 in
theorem c_X12_jammed (l : Launch) (D : Dx) (hT : Nat) (aT : Nat → Nat) (yT : Nat → ClassId) (gT : Gs) (x0 : Int32) (q : Gs) (hF : f_X12_jammed gT x0 = some q) (sz : Nat) : Met l yX12_jammed (ws_ yX12_jammed cX12_jammed 2 none) R_X12_jammed (PC D (tX12 yT) [.ref hT, .int x0] (wX12 hT aT yT gT) sz) (QV D (va_A (wX12 hT aT yT gT) sz) (wX12 hT aT yT q)) 0 0 (va_A (wX12 hT aT yT gT) sz) := by
  refine Met.ofW (cc := cX12_jammed) (maxL := 2) (ret := none) (by decide) rfl ?_
  intro p e s m args below meth c s₁ B hml hv
  obtain ⟨rfl, hsz, hP, hK, hD, hN⟩ := hv
  subst hsz
  have C : Cx p s m _ meth c cX12_jammed none 2 RX12 lw_all := Cx_of B hml
  have X := Hx_start hP hK hD hN
  obtain ⟨hx, hb, hr, -, hown, hts, hlk⟩ := id C
  generalize va_A (wX12 hT aT yT gT) s.heap.size = A at X ⊢
  have hl := lv_entry ([.ref hT, .int x0]) (n := 2) (Nat.le_of_ble_eq_true rfl)
  rw [lg_entry_eq]
  generalize (lg_sl ([.ref hT, .int x0]) ++ List.replicate (2 - (lg_sl ([.ref hT, .int x0])).length) Slot.unset).toArray = ls at hl ⊢
  have hl : lv_has ls 2 [(0, .ref hT), (1, .int x0)] := hl
  unfold f_X12_jammed at hF
  refine lv_aload_n hx hb dX12_jammed_0 rfl (lv_at hl 0 rfl) ?_
  refine va_get (D := D.1) (ci := 12) (v := .ref (aT 83)) (C := RX12) (T := TX12) (N := 114) hx hb hts wi_X12 hown X.1 X.2.1 0 rfl rfl 83 (by decide) (hts _ q7_37) (fun _ h9 => h9) (fl_get (by decide)) dX12_jammed_1 ?_
  refine lv_iload_n hx hb dX12_jammed_4 rfl (lv_at hl 1 rfl) ?_
  obtain ⟨h_1, hF⟩ := grd_some hF
  refine va_iald (D := D.1) (f := gIA gT 83) hx hb X.1 X.2.1 57 56 rfl rfl (inB_ok h_1) dX12_jammed_5 ?_
  refine lv_ldcw hx hb hown (hts _ q9_142) dX12_jammed_6 ?_
  refine lv_icmp_ge (tgt := 22) hx hb dX12_jammed_9 (by decide) (fun c => ?_) (fun c => ?_)
  · replace hF := iT c hF
    exact (k_X12_jammed_22 l D hT aT yT) C X (lv_sub hl [0, 1] rfl) hF
  · replace hF := iF c hF
    refine lv_aload_n hx hb dX12_jammed_12 rfl (lv_at hl 0 rfl) ?_
    refine va_get (D := D.1) (ci := 12) (v := .ref (aT 83)) (C := RX12) (T := TX12) (N := 114) hx hb hts wi_X12 hown X.1 X.2.1 0 rfl rfl 83 (by decide) (hts _ q7_37) (fun _ h9 => h9) (fl_get (by decide)) dX12_jammed_13 ?_
    refine lv_iload_n hx hb dX12_jammed_16 rfl (lv_at hl 1 rfl) ?_
    refine lv_dup2_11 hx hb dX12_jammed_17 rfl rfl ?_
    obtain ⟨h_4, hF⟩ := grd_some hF
    refine va_iald (D := D.1) (f := gIA gT 83) hx hb X.1 X.2.1 57 56 rfl rfl (inB_ok h_4) dX12_jammed_18 ?_
    refine lv_iconst (v := (1 : Int32)) hx hb dX12_jammed_19 (by decide) ?_
    refine lv_iadd hx hb dX12_jammed_20 ?_
    obtain ⟨h_5, hF⟩ := grd_some hF
    refine va_iast (D := D.1) (f := gIA gT 83) hx hb X.1 X.2.1 X.2.2.1 X.2.2.2.1 57 56 rfl rfl (inB_ok h_5) dX12_jammed_21 (fun H locs hP hD hS => ?_)
    have X : Hx D (tX12 yT) A s H locs (wX12 hT aT yT (sIA gT 83 (upd (gIA gT 83) x0.toNatClampNeg ((gIA gT 83 x0.toNatClampNeg) + (1 : Int32))))) := Hx_set X (wG_sIA (i := 56) (k := 83) ndX12 rfl rfl) hP hD hS
    exact (k_X12_jammed_22 l D hT aT yT) C X (lv_sub hl [0, 1] rfl) hF
