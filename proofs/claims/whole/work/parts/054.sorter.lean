def kdX8 (k : Nat) : Nat := ([3, 0] : List Nat).getD k 9
def ksX8 : List Nat := [0]
def akX8 (k : Nat) : Nat := ([0, 9] : List Nat).getD k 9
def lnX8 (k : Nat) : Nat := ([512, 0] : List Nat).getD k 0
def tkX8 (k : Nat) : FieldType := ([.int, .int] : List FieldType).getD k .int
abbrev wX8 (h : Nat) (a : Nat → Nat) (y : Nat → ClassId) (g : Gs) : va_W := wG 8 2 kdX8 ksX8 akX8 lnX8 h a y g
abbrev tX8 (y : Nat → ClassId) : List (ClassId × FieldType) := tG ksX8 tkX8 y
theorem ndX8 : va_nd ksX8 = true := by decide
theorem wi_X8 : ∀ w ∈ u_ws RX8 TX8 2, w ∈ lw_all := wi_all (wi_eq rfl (wi_ch tc_2 [224, 226]))
theorem q5_0 : Cond.methodLink RX8 56 Lib.Math.max.name ∈ lw_all := lw_in (tc_5 (List.mem_of_getElem? (i := 0) rfl)) rfl
theorem q2_223 : Cond.fieldLink RX8 15 "TurningHall$Sorter" "height" "I" ∈ lw_all := lw_in (tc_2 (List.mem_of_getElem? (i := 223) rfl)) rfl
theorem q2_222 : Cond.fieldLink RX8 9 "TurningHall$Sorter" "stack" "[I" ∈ lw_all := lw_in (tc_2 (List.mem_of_getElem? (i := 222) rfl)) rfl
theorem q1_220 : Cond.fieldLinkNest RX8 88 "TurningHall$Code" "left" "[I" "TurningHall" ∈ lw_tbl := tc_1 (List.mem_of_getElem? (i := 220) rfl)
theorem q1_208 : Cond.fieldLinkNest RX8 62 "TurningHall$Code" "op" "[I" "TurningHall" ∈ lw_tbl := tc_1 (List.mem_of_getElem? (i := 208) rfl)
theorem q4_228 : Cond.methodLink RX8 68 yX8_give ∈ lw_all := lw_in (tc_4 (List.mem_of_getElem? (i := 228) rfl)) rfl
theorem q4_230 : Cond.instanceMethod yX8_give ∈ lw_all := lw_in (tc_4 (List.mem_of_getElem? (i := 230) rfl)) rfl
theorem q0_43 : Cond.selects RX8 yX8_give yX8_give ∈ lw_all := lw_in (tc_0 (List.mem_of_getElem? (i := 43) rfl)) rfl
theorem q1_11 : Cond.initialized RX8 ∈ lw_all := lw_in (tc_1 (List.mem_of_getElem? (i := 11) rfl)) rfl
theorem q4_231 : Cond.code yX8_give cX8_give 2 (some .boolean) ∈ lw_all := lw_in (tc_4 (List.mem_of_getElem? (i := 231) rfl)) rfl
theorem q1_215 : Cond.fieldLinkNest RX8 65 "TurningHall$Code" "sort" "[I" "TurningHall" ∈ lw_tbl := tc_1 (List.mem_of_getElem? (i := 215) rfl)
theorem q1_225 : Cond.fieldLinkNest RX8 91 "TurningHall$Code" "right" "[I" "TurningHall" ∈ lw_tbl := tc_1 (List.mem_of_getElem? (i := 225) rfl)
theorem q5_5 : Cond.methodLink RX8 94 yX8_joined ∈ lw_all := lw_in (tc_5 (List.mem_of_getElem? (i := 5) rfl)) rfl
theorem q5_6 : Cond.static yX8_joined ∈ lw_all := lw_in (tc_5 (List.mem_of_getElem? (i := 6) rfl)) rfl
theorem q5_7 : Cond.code yX8_joined cX8_joined 2 (some .int) ∈ lw_all := lw_in (tc_5 (List.mem_of_getElem? (i := 7) rfl)) rfl
theorem q1_227 : Cond.fieldLinkNest RX8 72 "TurningHall$Code" "arg" "[I" "TurningHall" ∈ lw_tbl := tc_1 (List.mem_of_getElem? (i := 227) rfl)
theorem q5_8 : Cond.methodLink RX8 85 yX8_settleTwo ∈ lw_all := lw_in (tc_5 (List.mem_of_getElem? (i := 8) rfl)) rfl
theorem q5_10 : Cond.instanceMethod yX8_settleTwo ∈ lw_all := lw_in (tc_5 (List.mem_of_getElem? (i := 10) rfl)) rfl
theorem q0_46 : Cond.selects RX8 yX8_settleTwo yX8_settleTwo ∈ lw_all := lw_in (tc_0 (List.mem_of_getElem? (i := 46) rfl)) rfl
theorem q5_11 : Cond.code yX8_settleTwo cX8_settleTwo 7 (some .boolean) ∈ lw_all := lw_in (tc_5 (List.mem_of_getElem? (i := 11) rfl)) rfl
theorem q4_232 : Cond.methodLink RX8 75 yX4_sortOf ∈ lw_all := lw_in (tc_4 (List.mem_of_getElem? (i := 232) rfl)) rfl
theorem q4_233 : Cond.instanceMethod yX4_sortOf ∈ lw_all := lw_in (tc_4 (List.mem_of_getElem? (i := 233) rfl)) rfl
theorem q4_234 : Cond.selects RX4 yX4_sortOf yX4_sortOf ∈ lw_all := lw_in (tc_4 (List.mem_of_getElem? (i := 234) rfl)) rfl
theorem q4_235 : Cond.code yX4_sortOf cX4_sortOf 2 (some .int) ∈ lw_all := lw_in (tc_4 (List.mem_of_getElem? (i := 235) rfl)) rfl
theorem q4_236 : Cond.methodLink RX8 78 yX8_settleOne ∈ lw_all := lw_in (tc_4 (List.mem_of_getElem? (i := 236) rfl)) rfl
theorem q4_238 : Cond.instanceMethod yX8_settleOne ∈ lw_all := lw_in (tc_4 (List.mem_of_getElem? (i := 238) rfl)) rfl
theorem q0_44 : Cond.selects RX8 yX8_settleOne yX8_settleOne ∈ lw_all := lw_in (tc_0 (List.mem_of_getElem? (i := 44) rfl)) rfl
theorem q4_239 : Cond.code yX8_settleOne cX8_settleOne 4 (some .boolean) ∈ lw_all := lw_in (tc_4 (List.mem_of_getElem? (i := 239) rfl)) rfl
theorem q5_1 : Cond.methodLink RX8 82 yX8_settleQuestion ∈ lw_all := lw_in (tc_5 (List.mem_of_getElem? (i := 1) rfl)) rfl
theorem q5_3 : Cond.instanceMethod yX8_settleQuestion ∈ lw_all := lw_in (tc_5 (List.mem_of_getElem? (i := 3) rfl)) rfl
theorem q0_45 : Cond.selects RX8 yX8_settleQuestion yX8_settleQuestion ∈ lw_all := lw_in (tc_0 (List.mem_of_getElem? (i := 45) rfl)) rfl
theorem q5_4 : Cond.code yX8_settleQuestion cX8_settleQuestion 7 (some .boolean) ∈ lw_all := lw_in (tc_5 (List.mem_of_getElem? (i := 4) rfl)) rfl
theorem q2_25 : Cond.fieldLinkNest RX8 19 "TurningHall$Code" "formulas" "I" "TurningHall" ∈ lw_tbl := tc_2 (List.mem_of_getElem? (i := 25) rfl)
theorem q4_222 : Cond.methodLink RX8 24 yX0_beginOf ∈ lw_all := lw_in (tc_4 (List.mem_of_getElem? (i := 222) rfl)) rfl
theorem q4_223 : Cond.methodLink RX8 28 yX0_endOf ∈ lw_all := lw_in (tc_4 (List.mem_of_getElem? (i := 223) rfl)) rfl
theorem q2_22 : Cond.fieldLinkNest RX8 38 "TurningHall$Code" "result" "[I" "TurningHall" ∈ lw_tbl := tc_2 (List.mem_of_getElem? (i := 22) rfl)
theorem q2_9 : Cond.fieldLinkNest RX8 41 "TurningHall$Code" "owner" "[I" "TurningHall" ∈ lw_tbl := tc_2 (List.mem_of_getElem? (i := 9) rfl)
theorem q5_12 : Cond.methodLink RX8 49 yX8_comesTo ∈ lw_all := lw_in (tc_5 (List.mem_of_getElem? (i := 12) rfl)) rfl
theorem q5_13 : Cond.static yX8_comesTo ∈ lw_all := lw_in (tc_5 (List.mem_of_getElem? (i := 13) rfl)) rfl
theorem q5_14 : Cond.code yX8_comesTo cX8_comesTo 2 (some .boolean) ∈ lw_all := lw_in (tc_5 (List.mem_of_getElem? (i := 14) rfl)) rfl
theorem q2_12 : Cond.fieldLinkNest RX8 53 "TurningHall$Code" "sign" "[I" "TurningHall" ∈ lw_tbl := tc_2 (List.mem_of_getElem? (i := 12) rfl)
theorem q2_96 : Cond.fieldLinkNest RX8 44 "TurningHall$Plan" "sorts" "[I" "TurningHall" ∈ lw_tbl := tc_2 (List.mem_of_getElem? (i := 96) rfl)
theorem q4_224 : Cond.methodLink RX8 31 yX8_settle ∈ lw_all := lw_in (tc_4 (List.mem_of_getElem? (i := 224) rfl)) rfl
theorem q4_226 : Cond.instanceMethod yX8_settle ∈ lw_all := lw_in (tc_4 (List.mem_of_getElem? (i := 226) rfl)) rfl
theorem q0_42 : Cond.selects RX8 yX8_settle yX8_settle ∈ lw_all := lw_in (tc_0 (List.mem_of_getElem? (i := 42) rfl)) rfl
theorem q4_227 : Cond.code yX8_settle cX8_settle 4 (some .boolean) ∈ lw_all := lw_in (tc_4 (List.mem_of_getElem? (i := 227) rfl)) rfl
theorem q1_212 : Cond.fieldLinkNest RX8 35 "TurningHall$Code" "place" "[I" "TurningHall" ∈ lw_tbl := tc_1 (List.mem_of_getElem? (i := 212) rfl)
/-! ### X8_comesTo -/
theorem dX8_comesTo_0 : decode cX8_comesTo 0 = .ok (.iload_n 0, 1) := by decide +kernel
theorem dX8_comesTo_1 : decode cX8_comesTo 1 = .ok (.iload_n 1, 1) := by decide +kernel
theorem dX8_comesTo_2 : decode cX8_comesTo 2 = .ok (.if_icmp .ne 5, 3) := by decide +kernel
theorem dX8_comesTo_5 : decode cX8_comesTo 5 = .ok (.iconst 1, 1) := by decide +kernel
theorem dX8_comesTo_6 : decode cX8_comesTo 6 = .ok (.ireturn, 1) := by decide +kernel
theorem dX8_comesTo_7 : decode cX8_comesTo 7 = .ok (.iload_n 0, 1) := by decide +kernel
theorem dX8_comesTo_8 : decode cX8_comesTo 8 = .ok (.ifCond .eq 12, 3) := by decide +kernel
theorem dX8_comesTo_11 : decode cX8_comesTo 11 = .ok (.iload_n 1, 1) := by decide +kernel
theorem dX8_comesTo_12 : decode cX8_comesTo 12 = .ok (.ifCond .eq 8, 3) := by decide +kernel
theorem dX8_comesTo_15 : decode cX8_comesTo 15 = .ok (.iload_n 0, 1) := by decide +kernel
theorem dX8_comesTo_16 : decode cX8_comesTo 16 = .ok (.iload_n 1, 1) := by decide +kernel
theorem dX8_comesTo_17 : decode cX8_comesTo 17 = .ok (.if_icmp .le 5, 3) := by decide +kernel
theorem dX8_comesTo_20 : decode cX8_comesTo 20 = .ok (.iconst 0, 1) := by decide +kernel
theorem dX8_comesTo_21 : decode cX8_comesTo 21 = .ok (.ireturn, 1) := by decide +kernel
theorem dX8_comesTo_22 : decode cX8_comesTo 22 = .ok (.iload_n 1, 1) := by decide +kernel
theorem dX8_comesTo_23 : decode cX8_comesTo 23 = .ok (.iconst 2, 1) := by decide +kernel
theorem dX8_comesTo_24 : decode cX8_comesTo 24 = .ok (.if_icmp .eq 8, 3) := by decide +kernel
theorem dX8_comesTo_27 : decode cX8_comesTo 27 = .ok (.iload_n 1, 1) := by decide +kernel
theorem dX8_comesTo_28 : decode cX8_comesTo 28 = .ok (.iconst 4, 1) := by decide +kernel
theorem dX8_comesTo_29 : decode cX8_comesTo 29 = .ok (.if_icmp .lt 7, 3) := by decide +kernel
theorem dX8_comesTo_32 : decode cX8_comesTo 32 = .ok (.iconst 1, 1) := by decide +kernel
theorem dX8_comesTo_33 : decode cX8_comesTo 33 = .ok (.goto 4, 3) := by decide +kernel
theorem dX8_comesTo_36 : decode cX8_comesTo 36 = .ok (.iconst 0, 1) := by decide +kernel
theorem dX8_comesTo_37 : decode cX8_comesTo 37 = .ok (.ireturn, 1) := by decide +kernel
abbrev R_X8_comesTo : Room := ({ frames := 0, cells := 0, slots := 0, locals := 0 } : Room)
def f_X8_comesTo (x0 : Int32) (x1 : Int32) : Option (Int32) :=
  if x0 = x1 then (some (1 : Int32)) else (if x0 = 0 then (some (0 : Int32)) else (if x1 = 0 then (some (0 : Int32)) else (if x0 ≤ x1 then (if x1 = (2 : Int32) then (some (1 : Int32)) else (if x1 < (4 : Int32) then (some (0 : Int32)) else (some (1 : Int32)))) else (some (0 : Int32)))))
set_option maxHeartbeats 4000000 in
set_option maxRecDepth 100000 in
theorem c_X8_comesTo (l : Launch) (D : Dx) (x0 : Int32) (x1 : Int32) (q : Int32) (hF : f_X8_comesTo x0 x1 = some q) (sz : Nat) : Met l yX8_comesTo (ws_ yX8_comesTo cX8_comesTo 2 (some .boolean)) R_X8_comesTo (PC D ([]) [.int x0, .int x1] ([]) sz) (QI D (va_A ([]) sz) ([]) q) 0 0 (va_A ([]) sz) := by
  refine Met.ofW (cc := cX8_comesTo) (maxL := 2) (ret := (some .boolean)) (by decide) rfl ?_
  intro p e s m args below meth c s₁ B hml hv
  obtain ⟨rfl, hsz, hP, hK, hD, hN⟩ := hv
  subst hsz
  have C : Cx p s m _ meth c cX8_comesTo (some .boolean) 2 RX8 lw_all := Cx_of B hml
  have X := Hx_start hP hK hD hN
  obtain ⟨hx, hb, hr, -, hown, hts, hlk⟩ := id C
  generalize va_A ([]) s.heap.size = A at X ⊢
  have hl := lv_entry ([.int x0, .int x1]) (n := 2) (Nat.le_of_ble_eq_true rfl)
  rw [lg_entry_eq]
  generalize (lg_sl ([.int x0, .int x1]) ++ List.replicate (2 - (lg_sl ([.int x0, .int x1])).length) Slot.unset).toArray = ls at hl ⊢
  have hl : lv_has ls 2 [(0, .int x0), (1, .int x1)] := hl
  unfold f_X8_comesTo at hF
  refine lv_iload_n hx hb dX8_comesTo_0 rfl (lv_at hl 0 rfl) ?_
  refine lv_iload_n hx hb dX8_comesTo_1 rfl (lv_at hl 1 rfl) ?_
  refine lv_icmp_ne (tgt := 7) hx hb dX8_comesTo_2 (by decide) (fun c => ?_) (fun c => ?_)
  · replace hF := iF c hF
    refine lv_iload_n hx hb dX8_comesTo_7 rfl (lv_at hl 0 rfl) ?_
    refine lv_if_eq (tgt := 20) hx hb dX8_comesTo_8 (by decide) (fun c => ?_) (fun c => ?_)
    · replace hF := iT c hF
      refine lv_iconst (v := (0 : Int32)) hx hb dX8_comesTo_20 (by decide) ?_
      have hq := Option.some.inj hF
      subst hq
      exact rt_z (v := (0 : Int32)) C X (by decide) dX8_comesTo_21
    · replace hF := iF c hF
      refine lv_iload_n hx hb dX8_comesTo_11 rfl (lv_at hl 1 rfl) ?_
      refine lv_if_eq (tgt := 20) hx hb dX8_comesTo_12 (by decide) (fun c => ?_) (fun c => ?_)
      · replace hF := iT c hF
        refine lv_iconst (v := (0 : Int32)) hx hb dX8_comesTo_20 (by decide) ?_
        have hq := Option.some.inj hF
        subst hq
        exact rt_z (v := (0 : Int32)) C X (by decide) dX8_comesTo_21
      · replace hF := iF c hF
        refine lv_iload_n hx hb dX8_comesTo_15 rfl (lv_at hl 0 rfl) ?_
        refine lv_iload_n hx hb dX8_comesTo_16 rfl (lv_at hl 1 rfl) ?_
        refine lv_icmp_le (tgt := 22) hx hb dX8_comesTo_17 (by decide) (fun c => ?_) (fun c => ?_)
        · replace hF := iT c hF
          refine lv_iload_n hx hb dX8_comesTo_22 rfl (lv_at hl 1 rfl) ?_
          refine lv_iconst (v := (2 : Int32)) hx hb dX8_comesTo_23 (by decide) ?_
          refine lv_icmp_eq (tgt := 32) hx hb dX8_comesTo_24 (by decide) (fun c => ?_) (fun c => ?_)
          · replace hF := iT c hF
            refine lv_iconst (v := (1 : Int32)) hx hb dX8_comesTo_32 (by decide) ?_
            refine lv_goto (tgt := 37) hx hb dX8_comesTo_33 (by decide) ?_
            have hq := Option.some.inj hF
            subst hq
            exact rt_z (v := (1 : Int32)) C X (by decide) dX8_comesTo_37
          · replace hF := iF c hF
            refine lv_iload_n hx hb dX8_comesTo_27 rfl (lv_at hl 1 rfl) ?_
            refine lv_iconst (v := (4 : Int32)) hx hb dX8_comesTo_28 (by decide) ?_
            refine lv_icmp_lt (tgt := 36) hx hb dX8_comesTo_29 (by decide) (fun c => ?_) (fun c => ?_)
            · replace hF := iT c hF
              refine lv_iconst (v := (0 : Int32)) hx hb dX8_comesTo_36 (by decide) ?_
              have hq := Option.some.inj hF
              subst hq
              exact rt_z (v := (0 : Int32)) C X (by decide) dX8_comesTo_37
            · replace hF := iF c hF
              refine lv_iconst (v := (1 : Int32)) hx hb dX8_comesTo_32 (by decide) ?_
              refine lv_goto (tgt := 37) hx hb dX8_comesTo_33 (by decide) ?_
              have hq := Option.some.inj hF
              subst hq
              exact rt_z (v := (1 : Int32)) C X (by decide) dX8_comesTo_37
        · replace hF := iF c hF
          refine lv_iconst (v := (0 : Int32)) hx hb dX8_comesTo_20 (by decide) ?_
          have hq := Option.some.inj hF
          subst hq
          exact rt_z (v := (0 : Int32)) C X (by decide) dX8_comesTo_21
  · replace hF := iT c hF
    refine lv_iconst (v := (1 : Int32)) hx hb dX8_comesTo_5 (by decide) ?_
    have hq := Option.some.inj hF
    subst hq
    exact rt_z (v := (1 : Int32)) C X (by decide) dX8_comesTo_6

/-! ### X8_joined -/
theorem dX8_joined_0 : decode cX8_joined 0 = .ok (.iconst 4, 1) := by decide +kernel
theorem dX8_joined_1 : decode cX8_joined 1 = .ok (.iload_n 0, 1) := by decide +kernel
theorem dX8_joined_2 : decode cX8_joined 2 = .ok (.iload_n 1, 1) := by decide +kernel
theorem dX8_joined_3 : decode cX8_joined 3 = .ok (.invokestatic 56, 3) := by decide +kernel
theorem dX8_joined_6 : decode cX8_joined 6 = .ok (.invokestatic 56, 3) := by decide +kernel
theorem dX8_joined_9 : decode cX8_joined 9 = .ok (.ireturn, 1) := by decide +kernel
abbrev R_X8_joined : Room := ({ frames := 1, cells := 0, slots := 0, locals := 64 } : Room)
def f_X8_joined (x0 : Int32) (x1 : Int32) : Option (Int32) :=
  some (if (4 : Int32) < (if x0 < x1 then x1 else x0) then (if x0 < x1 then x1 else x0) else (4 : Int32))
set_option maxHeartbeats 4000000 in
set_option maxRecDepth 100000 in
theorem c_X8_joined (l : Launch) (D : Dx) (x0 : Int32) (x1 : Int32) (q : Int32) (hF : f_X8_joined x0 x1 = some q) (sz : Nat) : Met l yX8_joined (ws_ yX8_joined cX8_joined 2 (some .int)) R_X8_joined (PC D ([]) [.int x0, .int x1] ([]) sz) (QI D (va_A ([]) sz) ([]) q) 0 0 (va_A ([]) sz) := by
  refine Met.ofW (cc := cX8_joined) (maxL := 2) (ret := (some .int)) (by decide) rfl ?_
  intro p e s m args below meth c s₁ B hml hv
  obtain ⟨rfl, hsz, hP, hK, hD, hN⟩ := hv
  subst hsz
  have C : Cx p s m _ meth c cX8_joined (some .int) 2 RX8 lw_all := Cx_of B hml
  have X := Hx_start hP hK hD hN
  obtain ⟨hx, hb, hr, -, hown, hts, hlk⟩ := id C
  generalize va_A ([]) s.heap.size = A at X ⊢
  have hl := lv_entry ([.int x0, .int x1]) (n := 2) (Nat.le_of_ble_eq_true rfl)
  rw [lg_entry_eq]
  generalize (lg_sl ([.int x0, .int x1]) ++ List.replicate (2 - (lg_sl ([.int x0, .int x1])).length) Slot.unset).toArray = ls at hl ⊢
  have hl : lv_has ls 2 [(0, .int x0), (1, .int x1)] := hl
  unfold f_X8_joined at hF
  refine lv_iconst (v := (4 : Int32)) hx hb dX8_joined_0 (by decide) ?_
  refine lv_iload_n hx hb dX8_joined_1 rfl (lv_at hl 0 rfl) ?_
  refine lv_iload_n hx hb dX8_joined_2 rfl (lv_at hl 1 rfl) ?_
  refine va_mmax hx hb (by rw [hml]; exact hl.1.symm) hown (hts _ q5_0) (hts _ q4_13) (hts _ q1_14) (hts _ q4_14) (Nat.le_of_ble_eq_true rfl) (Nat.le_of_ble_eq_true rfl) (Nat.le_of_ble_eq_true rfl) (Nat.le_of_ble_eq_true rfl) dX8_joined_3 ?_
  refine va_mmax hx hb (by rw [hml]; exact hl.1.symm) hown (hts _ q5_0) (hts _ q4_13) (hts _ q1_14) (hts _ q4_14) (Nat.le_of_ble_eq_true rfl) (Nat.le_of_ble_eq_true rfl) (Nat.le_of_ble_eq_true rfl) (Nat.le_of_ble_eq_true rfl) dX8_joined_6 ?_
  have hq := Option.some.inj hF
  subst hq
  exact rt_i C X dX8_joined_9

/-! ### X8_give -/
theorem dX8_give_0 : decode cX8_give 0 = .ok (.aload_n 0, 1) := by decide +kernel
theorem dX8_give_1 : decode cX8_give 1 = .ok (.getfield 15, 3) := by decide +kernel
theorem dX8_give_4 : decode cX8_give 4 = .ok (.sipush 512, 3) := by decide +kernel
theorem dX8_give_7 : decode cX8_give 7 = .ok (.if_icmp .lt 5, 3) := by decide +kernel
theorem dX8_give_10 : decode cX8_give 10 = .ok (.iconst 0, 1) := by decide +kernel
theorem dX8_give_11 : decode cX8_give 11 = .ok (.ireturn, 1) := by decide +kernel
theorem dX8_give_12 : decode cX8_give 12 = .ok (.aload_n 0, 1) := by decide +kernel
theorem dX8_give_13 : decode cX8_give 13 = .ok (.getfield 9, 3) := by decide +kernel
theorem dX8_give_16 : decode cX8_give 16 = .ok (.aload_n 0, 1) := by decide +kernel
theorem dX8_give_17 : decode cX8_give 17 = .ok (.getfield 15, 3) := by decide +kernel
theorem dX8_give_20 : decode cX8_give 20 = .ok (.iload_n 1, 1) := by decide +kernel
theorem dX8_give_21 : decode cX8_give 21 = .ok (.iastore, 1) := by decide +kernel
theorem dX8_give_22 : decode cX8_give 22 = .ok (.aload_n 0, 1) := by decide +kernel
theorem dX8_give_23 : decode cX8_give 23 = .ok (.dup, 1) := by decide +kernel
theorem dX8_give_24 : decode cX8_give 24 = .ok (.getfield 15, 3) := by decide +kernel
theorem dX8_give_27 : decode cX8_give 27 = .ok (.iconst 1, 1) := by decide +kernel
theorem dX8_give_28 : decode cX8_give 28 = .ok (.iadd, 1) := by decide +kernel
theorem dX8_give_29 : decode cX8_give 29 = .ok (.putfield 15, 3) := by decide +kernel
theorem dX8_give_32 : decode cX8_give 32 = .ok (.iconst 1, 1) := by decide +kernel
theorem dX8_give_33 : decode cX8_give 33 = .ok (.ireturn, 1) := by decide +kernel
abbrev R_X8_give : Room := ({ frames := 0, cells := 0, slots := 0, locals := 0 } : Room)
def f_X8_give (gT : Gs) (x0 : Int32) : Option (Int32 × Gs) :=
  if (gI gT 1) < (512 : Int32) then (grd (inB (gI gT 1) 512) (some ((1 : Int32), (sI (sIA gT 0 (upd (gIA gT 0) (gI gT 1).toNatClampNeg x0)) 1 ((gI gT 1) + (1 : Int32)))))) else (some ((0 : Int32), gT))
set_option maxHeartbeats 4000000 in
set_option maxRecDepth 100000 in
theorem c_X8_give (l : Launch) (D : Dx) (hT : Nat) (aT : Nat → Nat) (yT : Nat → ClassId) (gT : Gs) (x0 : Int32) (q : Int32 × Gs) (hF : f_X8_give gT x0 = some q) (sz : Nat) : Met l yX8_give (ws_ yX8_give cX8_give 2 (some .boolean)) R_X8_give (PC D (tX8 yT) [.ref hT, .int x0] (wX8 hT aT yT gT) sz) (QI D (va_A (wX8 hT aT yT gT) sz) (wX8 hT aT yT q.2) q.1) 0 0 (va_A (wX8 hT aT yT gT) sz) := by
  refine Met.ofW (cc := cX8_give) (maxL := 2) (ret := (some .boolean)) (by decide) rfl ?_
  intro p e s m args below meth c s₁ B hml hv
  obtain ⟨rfl, hsz, hP, hK, hD, hN⟩ := hv
  subst hsz
  have C : Cx p s m _ meth c cX8_give (some .boolean) 2 RX8 lw_all := Cx_of B hml
  have X := Hx_start hP hK hD hN
  obtain ⟨hx, hb, hr, -, hown, hts, hlk⟩ := id C
  generalize va_A (wX8 hT aT yT gT) s.heap.size = A at X ⊢
  have hl := lv_entry ([.ref hT, .int x0]) (n := 2) (Nat.le_of_ble_eq_true rfl)
  rw [lg_entry_eq]
  generalize (lg_sl ([.ref hT, .int x0]) ++ List.replicate (2 - (lg_sl ([.ref hT, .int x0])).length) Slot.unset).toArray = ls at hl ⊢
  have hl : lv_has ls 2 [(0, .ref hT), (1, .int x0)] := hl
  unfold f_X8_give at hF
  refine lv_aload_n hx hb dX8_give_0 rfl (lv_at hl 0 rfl) ?_
  refine va_get (D := D.1) (ci := 8) (v := .int (gI gT 1)) (C := RX8) (T := TX8) (N := 2) hx hb hts wi_X8 hown X.1 X.2.1 0 rfl rfl 1 (by decide) (hts _ q2_223) (fun _ h9 => h9) (fl_get (by decide)) dX8_give_1 ?_
  refine lv_sipush (v := (512 : Int32)) hx hb dX8_give_4 (by decide) ?_
  refine lv_icmp_lt (tgt := 12) hx hb dX8_give_7 (by decide) (fun c => ?_) (fun c => ?_)
  · replace hF := iT c hF
    refine lv_aload_n hx hb dX8_give_12 rfl (lv_at hl 0 rfl) ?_
    refine va_get (D := D.1) (ci := 8) (v := .ref (aT 0)) (C := RX8) (T := TX8) (N := 2) hx hb hts wi_X8 hown X.1 X.2.1 0 rfl rfl 0 (by decide) (hts _ q2_222) (fun _ h9 => h9) (fl_get (by decide)) dX8_give_13 ?_
    refine lv_aload_n hx hb dX8_give_16 rfl (lv_at hl 0 rfl) ?_
    refine va_get (D := D.1) (ci := 8) (v := .int (gI gT 1)) (C := RX8) (T := TX8) (N := 2) hx hb hts wi_X8 hown X.1 X.2.1 0 rfl rfl 1 (by decide) (hts _ q2_223) (fun _ h9 => h9) (fl_get (by decide)) dX8_give_17 ?_
    refine lv_iload_n hx hb dX8_give_20 rfl (lv_at hl 1 rfl) ?_
    obtain ⟨h_1, hF⟩ := grd_some hF
    refine va_iast (D := D.1) (f := gIA gT 0) hx hb X.1 X.2.1 X.2.2.1 X.2.2.2.1 1 0 rfl rfl (inB_ok h_1) dX8_give_21 (fun H locs hP hD hS => ?_)
    have X : Hx D (tX8 yT) A s H locs (wX8 hT aT yT (sIA gT 0 (upd (gIA gT 0) (gI gT 1).toNatClampNeg x0))) := Hx_set X (wG_sIA (i := 0) (k := 0) ndX8 rfl rfl) hP hD hS
    refine lv_aload_n hx hb dX8_give_22 rfl (lv_at hl 0 rfl) ?_
    refine lv_dup hx hb dX8_give_23 rfl ?_
    refine va_get (D := D.1) (ci := 8) (v := .int (gI gT 1)) (C := RX8) (T := TX8) (N := 2) hx hb hts wi_X8 hown X.1 X.2.1 0 rfl rfl 1 (by decide) (hts _ q2_223) (fun _ h9 => h9) (fl_get (by decide)) dX8_give_24 ?_
    refine lv_iconst (v := (1 : Int32)) hx hb dX8_give_27 (by decide) ?_
    refine lv_iadd hx hb dX8_give_28 ?_
    refine va_put (D := D.1) (ci := 8) (v := .int ((gI gT 1) + (1 : Int32))) (ty := .int) (C := RX8) (T := TX8) (N := 2) hx hb hts wi_X8 tyX8 tyX8_ok nmX8 hown X.1 X.2.1 X.2.2.1 X.2.2.2.1 0 rfl rfl 1 (by decide) (hts _ q2_223) (fun _ h9 => h9) rfl (by decide +kernel) rfl rfl (by rw [List.length_map, List.length_range]; decide) dX8_give_29 (fun H locs hP hD hS => ?_)
    have X : Hx D (tX8 yT) A s H locs (wX8 hT aT yT (sI (sIA gT 0 (upd (gIA gT 0) (gI gT 1).toNatClampNeg x0)) 1 ((gI gT 1) + (1 : Int32)))) := Hx_set X (wG_sI (k := 1) rfl) hP hD hS
    refine lv_iconst (v := (1 : Int32)) hx hb dX8_give_32 (by decide) ?_
    have hq := Option.some.inj hF
    subst hq
    exact rt_z (v := (1 : Int32)) C X (by decide) dX8_give_33
  · replace hF := iF c hF
    refine lv_iconst (v := (0 : Int32)) hx hb dX8_give_10 (by decide) ?_
    have hq := Option.some.inj hF
    subst hq
    exact rt_z (v := (0 : Int32)) C X (by decide) dX8_give_11

/-! ### X8_settleOne -/
theorem dX8_settleOne_0 : decode cX8_settleOne 0 = .ok (.aload_n 0, 1) := by decide +kernel
theorem dX8_settleOne_1 : decode cX8_settleOne 1 = .ok (.dup, 1) := by decide +kernel
theorem dX8_settleOne_2 : decode cX8_settleOne 2 = .ok (.getfield 15, 3) := by decide +kernel
theorem dX8_settleOne_5 : decode cX8_settleOne 5 = .ok (.iconst 1, 1) := by decide +kernel
theorem dX8_settleOne_6 : decode cX8_settleOne 6 = .ok (.isub, 1) := by decide +kernel
theorem dX8_settleOne_7 : decode cX8_settleOne 7 = .ok (.putfield 15, 3) := by decide +kernel
theorem dX8_settleOne_10 : decode cX8_settleOne 10 = .ok (.aload_n 0, 1) := by decide +kernel
theorem dX8_settleOne_11 : decode cX8_settleOne 11 = .ok (.getfield 9, 3) := by decide +kernel
theorem dX8_settleOne_14 : decode cX8_settleOne 14 = .ok (.aload_n 0, 1) := by decide +kernel
theorem dX8_settleOne_15 : decode cX8_settleOne 15 = .ok (.getfield 15, 3) := by decide +kernel
theorem dX8_settleOne_18 : decode cX8_settleOne 18 = .ok (.iaload, 1) := by decide +kernel
theorem dX8_settleOne_19 : decode cX8_settleOne 19 = .ok (.istore_n 3, 1) := by decide +kernel
theorem dX8_settleOne_20 : decode cX8_settleOne 20 = .ok (.aload_n 1, 1) := by decide +kernel
theorem dX8_settleOne_21 : decode cX8_settleOne 21 = .ok (.getfield 88, 3) := by decide +kernel
theorem dX8_settleOne_24 : decode cX8_settleOne 24 = .ok (.iload_n 2, 1) := by decide +kernel
theorem dX8_settleOne_25 : decode cX8_settleOne 25 = .ok (.iload_n 3, 1) := by decide +kernel
theorem dX8_settleOne_26 : decode cX8_settleOne 26 = .ok (.iastore, 1) := by decide +kernel
theorem dX8_settleOne_27 : decode cX8_settleOne 27 = .ok (.aload_n 1, 1) := by decide +kernel
theorem dX8_settleOne_28 : decode cX8_settleOne 28 = .ok (.getfield 62, 3) := by decide +kernel
theorem dX8_settleOne_31 : decode cX8_settleOne 31 = .ok (.iload_n 2, 1) := by decide +kernel
theorem dX8_settleOne_32 : decode cX8_settleOne 32 = .ok (.iaload, 1) := by decide +kernel
theorem dX8_settleOne_33 : decode cX8_settleOne 33 = .ok (.lookupswitch 173 #[(54, 76), (64, 43), (65, 94), (66, 128)], 43) := by decide +kernel
theorem dX8_settleOne_76 : decode cX8_settleOne 76 = .ok (.aload_n 1, 1) := by decide +kernel
theorem dX8_settleOne_77 : decode cX8_settleOne 77 = .ok (.getfield 65, 3) := by decide +kernel
theorem dX8_settleOne_80 : decode cX8_settleOne 80 = .ok (.iload_n 2, 1) := by decide +kernel
theorem dX8_settleOne_81 : decode cX8_settleOne 81 = .ok (.bipush 7, 2) := by decide +kernel
theorem dX8_settleOne_83 : decode cX8_settleOne 83 = .ok (.iastore, 1) := by decide +kernel
theorem dX8_settleOne_84 : decode cX8_settleOne 84 = .ok (.iload_n 3, 1) := by decide +kernel
theorem dX8_settleOne_85 : decode cX8_settleOne 85 = .ok (.iconst 1, 1) := by decide +kernel
theorem dX8_settleOne_86 : decode cX8_settleOne 86 = .ok (.if_icmp .lt 21, 3) := by decide +kernel
theorem dX8_settleOne_89 : decode cX8_settleOne 89 = .ok (.iload_n 3, 1) := by decide +kernel
theorem dX8_settleOne_90 : decode cX8_settleOne 90 = .ok (.iconst 4, 1) := by decide +kernel
theorem dX8_settleOne_91 : decode cX8_settleOne 91 = .ok (.if_icmp .gt 16, 3) := by decide +kernel
theorem dX8_settleOne_94 : decode cX8_settleOne 94 = .ok (.aload_n 0, 1) := by decide +kernel
theorem dX8_settleOne_95 : decode cX8_settleOne 95 = .ok (.bipush 7, 2) := by decide +kernel
theorem dX8_settleOne_97 : decode cX8_settleOne 97 = .ok (.invokevirtual 68, 3) := by decide +kernel
theorem dX8_settleOne_100 : decode cX8_settleOne 100 = .ok (.ifCond .eq 7, 3) := by decide +kernel
theorem dX8_settleOne_103 : decode cX8_settleOne 103 = .ok (.iconst 1, 1) := by decide +kernel
theorem dX8_settleOne_104 : decode cX8_settleOne 104 = .ok (.goto 4, 3) := by decide +kernel
theorem dX8_settleOne_107 : decode cX8_settleOne 107 = .ok (.iconst 0, 1) := by decide +kernel
theorem dX8_settleOne_108 : decode cX8_settleOne 108 = .ok (.ireturn, 1) := by decide +kernel
theorem dX8_settleOne_109 : decode cX8_settleOne 109 = .ok (.iload_n 3, 1) := by decide +kernel
theorem dX8_settleOne_110 : decode cX8_settleOne 110 = .ok (.ifCond .ne 15, 3) := by decide +kernel
theorem dX8_settleOne_113 : decode cX8_settleOne 113 = .ok (.aload_n 0, 1) := by decide +kernel
theorem dX8_settleOne_114 : decode cX8_settleOne 114 = .ok (.iconst 0, 1) := by decide +kernel
theorem dX8_settleOne_115 : decode cX8_settleOne 115 = .ok (.invokevirtual 68, 3) := by decide +kernel
theorem dX8_settleOne_118 : decode cX8_settleOne 118 = .ok (.ifCond .eq 7, 3) := by decide +kernel
theorem dX8_settleOne_121 : decode cX8_settleOne 121 = .ok (.iconst 1, 1) := by decide +kernel
theorem dX8_settleOne_122 : decode cX8_settleOne 122 = .ok (.goto 4, 3) := by decide +kernel
theorem dX8_settleOne_125 : decode cX8_settleOne 125 = .ok (.iconst 0, 1) := by decide +kernel
theorem dX8_settleOne_126 : decode cX8_settleOne 126 = .ok (.ireturn, 1) := by decide +kernel
theorem dX8_settleOne_127 : decode cX8_settleOne 127 = .ok (.aload_n 1, 1) := by decide +kernel
theorem dX8_settleOne_128 : decode cX8_settleOne 128 = .ok (.getfield 65, 3) := by decide +kernel
theorem dX8_settleOne_131 : decode cX8_settleOne 131 = .ok (.iload_n 2, 1) := by decide +kernel
theorem dX8_settleOne_132 : decode cX8_settleOne 132 = .ok (.iconst 4, 1) := by decide +kernel
theorem dX8_settleOne_133 : decode cX8_settleOne 133 = .ok (.iload_n 3, 1) := by decide +kernel
theorem dX8_settleOne_134 : decode cX8_settleOne 134 = .ok (.invokestatic 56, 3) := by decide +kernel
theorem dX8_settleOne_137 : decode cX8_settleOne 137 = .ok (.iastore, 1) := by decide +kernel
theorem dX8_settleOne_138 : decode cX8_settleOne 138 = .ok (.iload_n 3, 1) := by decide +kernel
theorem dX8_settleOne_139 : decode cX8_settleOne 139 = .ok (.ifCond .eq 20, 3) := by decide +kernel
theorem dX8_settleOne_142 : decode cX8_settleOne 142 = .ok (.aload_n 0, 1) := by decide +kernel
theorem dX8_settleOne_143 : decode cX8_settleOne 143 = .ok (.aload_n 1, 1) := by decide +kernel
theorem dX8_settleOne_144 : decode cX8_settleOne 144 = .ok (.getfield 65, 3) := by decide +kernel
theorem dX8_settleOne_147 : decode cX8_settleOne 147 = .ok (.iload_n 2, 1) := by decide +kernel
theorem dX8_settleOne_148 : decode cX8_settleOne 148 = .ok (.iaload, 1) := by decide +kernel
theorem dX8_settleOne_149 : decode cX8_settleOne 149 = .ok (.invokevirtual 68, 3) := by decide +kernel
theorem dX8_settleOne_152 : decode cX8_settleOne 152 = .ok (.ifCond .eq 7, 3) := by decide +kernel
theorem dX8_settleOne_155 : decode cX8_settleOne 155 = .ok (.iconst 1, 1) := by decide +kernel
theorem dX8_settleOne_156 : decode cX8_settleOne 156 = .ok (.goto 4, 3) := by decide +kernel
theorem dX8_settleOne_159 : decode cX8_settleOne 159 = .ok (.iconst 0, 1) := by decide +kernel
theorem dX8_settleOne_160 : decode cX8_settleOne 160 = .ok (.ireturn, 1) := by decide +kernel
theorem dX8_settleOne_161 : decode cX8_settleOne 161 = .ok (.iload_n 3, 1) := by decide +kernel
theorem dX8_settleOne_162 : decode cX8_settleOne 162 = .ok (.ifCond .ne 7, 3) := by decide +kernel
theorem dX8_settleOne_165 : decode cX8_settleOne 165 = .ok (.iconst 1, 1) := by decide +kernel
theorem dX8_settleOne_166 : decode cX8_settleOne 166 = .ok (.goto 4, 3) := by decide +kernel
theorem dX8_settleOne_169 : decode cX8_settleOne 169 = .ok (.iconst 0, 1) := by decide +kernel
theorem dX8_settleOne_170 : decode cX8_settleOne 170 = .ok (.aload_n 1, 1) := by decide +kernel
theorem dX8_settleOne_171 : decode cX8_settleOne 171 = .ok (.getfield 65, 3) := by decide +kernel
theorem dX8_settleOne_174 : decode cX8_settleOne 174 = .ok (.iload_n 2, 1) := by decide +kernel
theorem dX8_settleOne_175 : decode cX8_settleOne 175 = .ok (.iaload, 1) := by decide +kernel
theorem dX8_settleOne_176 : decode cX8_settleOne 176 = .ok (.ifCond .ne 7, 3) := by decide +kernel
theorem dX8_settleOne_179 : decode cX8_settleOne 179 = .ok (.iconst 1, 1) := by decide +kernel
theorem dX8_settleOne_180 : decode cX8_settleOne 180 = .ok (.goto 4, 3) := by decide +kernel
theorem dX8_settleOne_183 : decode cX8_settleOne 183 = .ok (.iconst 0, 1) := by decide +kernel
theorem dX8_settleOne_184 : decode cX8_settleOne 184 = .ok (.if_icmp .ne 20, 3) := by decide +kernel
theorem dX8_settleOne_187 : decode cX8_settleOne 187 = .ok (.aload_n 0, 1) := by decide +kernel
theorem dX8_settleOne_188 : decode cX8_settleOne 188 = .ok (.aload_n 1, 1) := by decide +kernel
theorem dX8_settleOne_189 : decode cX8_settleOne 189 = .ok (.getfield 65, 3) := by decide +kernel
theorem dX8_settleOne_192 : decode cX8_settleOne 192 = .ok (.iload_n 2, 1) := by decide +kernel
theorem dX8_settleOne_193 : decode cX8_settleOne 193 = .ok (.iaload, 1) := by decide +kernel
theorem dX8_settleOne_194 : decode cX8_settleOne 194 = .ok (.invokevirtual 68, 3) := by decide +kernel
theorem dX8_settleOne_197 : decode cX8_settleOne 197 = .ok (.ifCond .eq 7, 3) := by decide +kernel
theorem dX8_settleOne_200 : decode cX8_settleOne 200 = .ok (.iconst 1, 1) := by decide +kernel
theorem dX8_settleOne_201 : decode cX8_settleOne 201 = .ok (.goto 4, 3) := by decide +kernel
theorem dX8_settleOne_204 : decode cX8_settleOne 204 = .ok (.iconst 0, 1) := by decide +kernel
theorem dX8_settleOne_205 : decode cX8_settleOne 205 = .ok (.ireturn, 1) := by decide +kernel
theorem dX8_settleOne_206 : decode cX8_settleOne 206 = .ok (.aload_n 1, 1) := by decide +kernel
theorem dX8_settleOne_207 : decode cX8_settleOne 207 = .ok (.getfield 65, 3) := by decide +kernel
theorem dX8_settleOne_210 : decode cX8_settleOne 210 = .ok (.iload_n 2, 1) := by decide +kernel
theorem dX8_settleOne_211 : decode cX8_settleOne 211 = .ok (.bipush 7, 2) := by decide +kernel
theorem dX8_settleOne_213 : decode cX8_settleOne 213 = .ok (.iastore, 1) := by decide +kernel
theorem dX8_settleOne_214 : decode cX8_settleOne 214 = .ok (.iload_n 3, 1) := by decide +kernel
theorem dX8_settleOne_215 : decode cX8_settleOne 215 = .ok (.ifCond .eq 16, 3) := by decide +kernel
theorem dX8_settleOne_218 : decode cX8_settleOne 218 = .ok (.aload_n 0, 1) := by decide +kernel
theorem dX8_settleOne_219 : decode cX8_settleOne 219 = .ok (.bipush 7, 2) := by decide +kernel
theorem dX8_settleOne_221 : decode cX8_settleOne 221 = .ok (.invokevirtual 68, 3) := by decide +kernel
theorem dX8_settleOne_224 : decode cX8_settleOne 224 = .ok (.ifCond .eq 7, 3) := by decide +kernel
theorem dX8_settleOne_227 : decode cX8_settleOne 227 = .ok (.iconst 1, 1) := by decide +kernel
theorem dX8_settleOne_228 : decode cX8_settleOne 228 = .ok (.goto 4, 3) := by decide +kernel
theorem dX8_settleOne_231 : decode cX8_settleOne 231 = .ok (.iconst 0, 1) := by decide +kernel
theorem dX8_settleOne_232 : decode cX8_settleOne 232 = .ok (.ireturn, 1) := by decide +kernel
abbrev R_X8_settleOne : Room := ({ frames := 1, cells := 0, slots := 0, locals := 64 } : Room)
def b_X8_settleOne_184 (gT : Gs) (gP0 : Gs) (v2 : Int32) (s0 : Int32) (s1 : Int32) : Option (Int32 × Gs × Gs) :=
  if s1 = s0 then (grd (inB v2 840) (bnd (f_X8_give gT (gIA gP0 2 v2.toNatClampNeg)) (fun q_15 => if q_15.1 = 0 then (some ((0 : Int32), q_15.2, gP0)) else (some ((1 : Int32), q_15.2, gP0))))) else (some ((0 : Int32), gT, gP0))
def b_X8_settleOne_170 (gT : Gs) (gP0 : Gs) (v2 : Int32) (s0 : Int32) : Option (Int32 × Gs × Gs) :=
  grd (inB v2 840) (if (gIA gP0 2 v2.toNatClampNeg) = 0 then (b_X8_settleOne_184 gT gP0 v2 (1 : Int32) s0) else (b_X8_settleOne_184 gT gP0 v2 (0 : Int32) s0))
def f_X8_settleOne (gT : Gs) (gP0 : Gs) (x1 : Int32) : Option (Int32 × Gs × Gs) :=
  grd (inB ((gI gT 1) - (1 : Int32)) 512) (grd (inB x1 840) (grd (inB x1 840) (if (gIA gP0 0 x1.toNatClampNeg) = (54 : Int32) then (if (gIA gT 0 ((gI gT 1) - (1 : Int32)).toNatClampNeg) = 0 then (bnd (f_X8_give (sI gT 1 ((gI gT 1) - (1 : Int32))) (0 : Int32)) (fun q_4 => if q_4.1 = 0 then (some ((0 : Int32), q_4.2, (sIA gP0 3 (upd (gIA gP0 3) x1.toNatClampNeg (gIA gT 0 ((gI gT 1) - (1 : Int32)).toNatClampNeg))))) else (some ((1 : Int32), q_4.2, (sIA gP0 3 (upd (gIA gP0 3) x1.toNatClampNeg (gIA gT 0 ((gI gT 1) - (1 : Int32)).toNatClampNeg))))))) else (some ((0 : Int32), (sI gT 1 ((gI gT 1) - (1 : Int32))), (sIA gP0 3 (upd (gIA gP0 3) x1.toNatClampNeg (gIA gT 0 ((gI gT 1) - (1 : Int32)).toNatClampNeg)))))) else (if (gIA gP0 0 x1.toNatClampNeg) = (64 : Int32) then (grd (inB x1 840) (if (gIA gT 0 ((gI gT 1) - (1 : Int32)).toNatClampNeg) < (1 : Int32) then (some ((0 : Int32), (sI gT 1 ((gI gT 1) - (1 : Int32))), (sIA (sIA gP0 3 (upd (gIA gP0 3) x1.toNatClampNeg (gIA gT 0 ((gI gT 1) - (1 : Int32)).toNatClampNeg))) 2 (upd (gIA gP0 2) x1.toNatClampNeg (7 : Int32))))) else (if (4 : Int32) < (gIA gT 0 ((gI gT 1) - (1 : Int32)).toNatClampNeg) then (some ((0 : Int32), (sI gT 1 ((gI gT 1) - (1 : Int32))), (sIA (sIA gP0 3 (upd (gIA gP0 3) x1.toNatClampNeg (gIA gT 0 ((gI gT 1) - (1 : Int32)).toNatClampNeg))) 2 (upd (gIA gP0 2) x1.toNatClampNeg (7 : Int32))))) else (bnd (f_X8_give (sI gT 1 ((gI gT 1) - (1 : Int32))) (7 : Int32)) (fun q_7 => if q_7.1 = 0 then (some ((0 : Int32), q_7.2, (sIA (sIA gP0 3 (upd (gIA gP0 3) x1.toNatClampNeg (gIA gT 0 ((gI gT 1) - (1 : Int32)).toNatClampNeg))) 2 (upd (gIA gP0 2) x1.toNatClampNeg (7 : Int32))))) else (some ((1 : Int32), q_7.2, (sIA (sIA gP0 3 (upd (gIA gP0 3) x1.toNatClampNeg (gIA gT 0 ((gI gT 1) - (1 : Int32)).toNatClampNeg))) 2 (upd (gIA gP0 2) x1.toNatClampNeg (7 : Int32)))))))))) else (if (gIA gP0 0 x1.toNatClampNeg) = (65 : Int32) then (grd (inB x1 840) (if (gIA gT 0 ((gI gT 1) - (1 : Int32)).toNatClampNeg) = 0 then (some ((0 : Int32), (sI gT 1 ((gI gT 1) - (1 : Int32))), (sIA (sIA gP0 3 (upd (gIA gP0 3) x1.toNatClampNeg (gIA gT 0 ((gI gT 1) - (1 : Int32)).toNatClampNeg))) 2 (upd (gIA gP0 2) x1.toNatClampNeg (if (4 : Int32) < (gIA gT 0 ((gI gT 1) - (1 : Int32)).toNatClampNeg) then (gIA gT 0 ((gI gT 1) - (1 : Int32)).toNatClampNeg) else (4 : Int32)))))) else (grd (inB x1 840) (bnd (f_X8_give (sI gT 1 ((gI gT 1) - (1 : Int32))) ((upd (gIA gP0 2) x1.toNatClampNeg (if (4 : Int32) < (gIA gT 0 ((gI gT 1) - (1 : Int32)).toNatClampNeg) then (gIA gT 0 ((gI gT 1) - (1 : Int32)).toNatClampNeg) else (4 : Int32))) x1.toNatClampNeg)) (fun q_11 => if q_11.1 = 0 then (some ((0 : Int32), q_11.2, (sIA (sIA gP0 3 (upd (gIA gP0 3) x1.toNatClampNeg (gIA gT 0 ((gI gT 1) - (1 : Int32)).toNatClampNeg))) 2 (upd (gIA gP0 2) x1.toNatClampNeg (if (4 : Int32) < (gIA gT 0 ((gI gT 1) - (1 : Int32)).toNatClampNeg) then (gIA gT 0 ((gI gT 1) - (1 : Int32)).toNatClampNeg) else (4 : Int32)))))) else (some ((1 : Int32), q_11.2, (sIA (sIA gP0 3 (upd (gIA gP0 3) x1.toNatClampNeg (gIA gT 0 ((gI gT 1) - (1 : Int32)).toNatClampNeg))) 2 (upd (gIA gP0 2) x1.toNatClampNeg (if (4 : Int32) < (gIA gT 0 ((gI gT 1) - (1 : Int32)).toNatClampNeg) then (gIA gT 0 ((gI gT 1) - (1 : Int32)).toNatClampNeg) else (4 : Int32))))))))))) else (if (gIA gP0 0 x1.toNatClampNeg) = (66 : Int32) then (if (gIA gT 0 ((gI gT 1) - (1 : Int32)).toNatClampNeg) = 0 then (b_X8_settleOne_170 (sI gT 1 ((gI gT 1) - (1 : Int32))) (sIA gP0 3 (upd (gIA gP0 3) x1.toNatClampNeg (gIA gT 0 ((gI gT 1) - (1 : Int32)).toNatClampNeg))) x1 (1 : Int32)) else (b_X8_settleOne_170 (sI gT 1 ((gI gT 1) - (1 : Int32))) (sIA gP0 3 (upd (gIA gP0 3) x1.toNatClampNeg (gIA gT 0 ((gI gT 1) - (1 : Int32)).toNatClampNeg))) x1 (0 : Int32))) else (grd (inB x1 840) (if (gIA gT 0 ((gI gT 1) - (1 : Int32)).toNatClampNeg) = 0 then (some ((0 : Int32), (sI gT 1 ((gI gT 1) - (1 : Int32))), (sIA (sIA gP0 3 (upd (gIA gP0 3) x1.toNatClampNeg (gIA gT 0 ((gI gT 1) - (1 : Int32)).toNatClampNeg))) 2 (upd (gIA gP0 2) x1.toNatClampNeg (7 : Int32))))) else (bnd (f_X8_give (sI gT 1 ((gI gT 1) - (1 : Int32))) (7 : Int32)) (fun q_18 => if q_18.1 = 0 then (some ((0 : Int32), q_18.2, (sIA (sIA gP0 3 (upd (gIA gP0 3) x1.toNatClampNeg (gIA gT 0 ((gI gT 1) - (1 : Int32)).toNatClampNeg))) 2 (upd (gIA gP0 2) x1.toNatClampNeg (7 : Int32))))) else (some ((1 : Int32), q_18.2, (sIA (sIA gP0 3 (upd (gIA gP0 3) x1.toNatClampNeg (gIA gT 0 ((gI gT 1) - (1 : Int32)).toNatClampNeg))) 2 (upd (gIA gP0 2) x1.toNatClampNeg (7 : Int32)))))))))))))))
def S_X8_settleOne_184 (l : Launch) (D : Dx) (hT : Nat) (aT : Nat → Nat) (yT : Nat → ClassId) (hP0 : Nat) (aP0 : Nat → Nat) (yP0 : Nat → ClassId) (fn : Gs → Gs → Int32 → Int32 → Int32 → Option (Int32 × Gs × Gs)) : Prop :=
  ∀ {p : Program} {e : Env} {s : State} {m : MethodId} {args : Array Value} {below : List Frame} {meth : Method} {c : Code} {H : Heap} {locs : List Loc} {A : Nat → Prop} {ls : Array Slot} {gT : Gs} {gP0 : Gs} {v2 : Int32} {s0 : Int32} {s1 : Int32} {q : Int32 × Gs × Gs}, Cx p s m args meth c cX8_settleOne (some .boolean) 4 RX8 lw_all → Hx D (tX8 yT ++ (tX0 yP0)) A s H locs (wX8 hT aT yT gT ++ (wX0 hP0 aP0 yP0 gP0)) → lv_has ls 4 [(0, .ref hT), (1, .ref hP0), (2, .int v2)] → fn gT gP0 v2 s0 s1 = some q → W p l e R_X8_settleOne s m args below meth c H locs 0 0 (MQ below (QI D A (wX8 hT aT yT q.2.1 ++ (wX0 hP0 aP0 yP0 q.2.2)) q.1) args s 0 0 A) (F0 m 184 ls [.int s0, .int s1])
def S_X8_settleOne_170 (l : Launch) (D : Dx) (hT : Nat) (aT : Nat → Nat) (yT : Nat → ClassId) (hP0 : Nat) (aP0 : Nat → Nat) (yP0 : Nat → ClassId) (fn : Gs → Gs → Int32 → Int32 → Option (Int32 × Gs × Gs)) : Prop :=
  ∀ {p : Program} {e : Env} {s : State} {m : MethodId} {args : Array Value} {below : List Frame} {meth : Method} {c : Code} {H : Heap} {locs : List Loc} {A : Nat → Prop} {ls : Array Slot} {gT : Gs} {gP0 : Gs} {v2 : Int32} {s0 : Int32} {q : Int32 × Gs × Gs}, Cx p s m args meth c cX8_settleOne (some .boolean) 4 RX8 lw_all → Hx D (tX8 yT ++ (tX0 yP0)) A s H locs (wX8 hT aT yT gT ++ (wX0 hP0 aP0 yP0 gP0)) → lv_has ls 4 [(0, .ref hT), (1, .ref hP0), (2, .int v2)] → fn gT gP0 v2 s0 = some q → W p l e R_X8_settleOne s m args below meth c H locs 0 0 (MQ below (QI D A (wX8 hT aT yT q.2.1 ++ (wX0 hP0 aP0 yP0 q.2.2)) q.1) args s 0 0 A) (F0 m 170 ls [.int s0])
set_option maxHeartbeats 4000000 in
set_option maxRecDepth 100000 in
theorem k_X8_settleOne_184 (l : Launch) (D : Dx) (hT : Nat) (aT : Nat → Nat) (yT : Nat → ClassId) (hP0 : Nat) (aP0 : Nat → Nat) (yP0 : Nat → ClassId) : S_X8_settleOne_184 l D hT aT yT hP0 aP0 yP0 (b_X8_settleOne_184) := by
  intro p e s m args below meth c H locs A ls gT gP0 v2 s0 s1 q C X hl hF
  obtain ⟨hx, hb, hr, hml, hown, hts, hlk⟩ := id C
  unfold b_X8_settleOne_184 at hF
  refine lv_icmp_ne (tgt := 204) hx hb dX8_settleOne_184 (by decide) (fun c => ?_) (fun c => ?_)
  · replace hF := iF c hF
    refine lv_iconst (v := (0 : Int32)) hx hb dX8_settleOne_204 (by decide) ?_
    have hq := Option.some.inj hF
    subst hq
    exact rt_z (v := (0 : Int32)) C X (by decide) dX8_settleOne_205
  · replace hF := iT c hF
    refine lv_aload_n hx hb dX8_settleOne_187 rfl (lv_at hl 0 rfl) ?_
    refine lv_aload_n hx hb dX8_settleOne_188 rfl (lv_at hl 1 rfl) ?_
    refine va_getN (D := D.1) (ci := 0) (v := .ref (aP0 2)) (C := RX0) (T := TX0) (N := 19) hx hb hts wi_X0 hown X.1 X.2.1 2 rfl rfl 2 (by decide) (X.2.2.2.2.2.1.use q1_215 rfl) (fun _ h9 => h9) (fl_get (by decide)) dX8_settleOne_189 ?_
    refine lv_iload_n hx hb dX8_settleOne_192 rfl (lv_at hl 2 rfl) ?_
    obtain ⟨h_14, hF⟩ := grd_some hF
    refine va_iald (D := D.1) (f := gIA gP0 2) hx hb X.1 X.2.1 5 3 rfl rfl (inB_ok h_14) dX8_settleOne_193 ?_
    obtain ⟨q_15, hc_16, hF⟩ := bnd_some hF
    refine cV_i (As := [.int (gIA gP0 2 v2.toNatClampNeg)]) (rest := []) C X (c_X8_give l D hT aT yT gT (gIA gP0 2 v2.toNatClampNeg) q_15 hc_16 _) (cwV 1 hts (good_V q4_228 q4_230 q0_43 q1_11 q4_231) rfl rfl rfl (by decide +kernel) ⟨Nat.le_of_ble_eq_true rfl, Nat.le_of_ble_eq_true rfl⟩) (va_recv X.1 X.2.1 (ci := 8) (q0 := 0) rfl rfl) (X.1.sub (tys' := tX8 yT) [0] rfl) (X.2.1.sub (ws' := wX8 hT aT yT gT) [0, 1] rfl) (X.2.2.1.sub (ws' := wX8 hT aT yT gT) [0, 1] (by decide) rfl) (free_of (wC := wX8 hT aT yT gT) (isC := [0, 1]) X rfl) hl.1 rfl rfl (Nat.le_of_ble_eq_true rfl) dX8_settleOne_194 ⟨Nat.le_of_ble_eq_true rfl, Nat.le_of_ble_eq_true rfl⟩ (fun t H1 locs1 ht hB hk hS => ?_)
    have X : Hx D (tX8 yT ++ (tX0 yP0)) A s H1 locs1 (wX8 hT aT yT q_15.2 ++ (wX0 hP0 aP0 yP0 gP0)) := Hx_after (isC := [0, 1]) (isR := [2, 3, 4, 5, 6, 7, 8, 9, 10, 11, 12, 13, 14, 15, 16, 17]) (pm := [16, 17, 0, 1, 2, 3, 4, 5, 6, 7, 8, 9, 10, 11, 12, 13, 14, 15]) (wr := wX0 hP0 aP0 yP0 gP0) X ⟨rfl, rfl, by decide, by decide, rfl, by decide⟩ ht hB hk hS
    clear hk hS ht hB
    generalize H1 = H at X ⊢
    generalize locs1 = locs at X ⊢
    refine lv_if_eq (tgt := 204) hx hb dX8_settleOne_197 (by decide) (fun c => ?_) (fun c => ?_)
    · replace hF := iT c hF
      refine lv_iconst (v := (0 : Int32)) hx hb dX8_settleOne_204 (by decide) ?_
      have hq := Option.some.inj hF
      subst hq
      exact rt_z (v := (0 : Int32)) C X (by decide) dX8_settleOne_205
    · replace hF := iF c hF
      refine lv_iconst (v := (1 : Int32)) hx hb dX8_settleOne_200 (by decide) ?_
      refine lv_goto (tgt := 205) hx hb dX8_settleOne_201 (by decide) ?_
      have hq := Option.some.inj hF
      subst hq
      exact rt_z (v := (1 : Int32)) C X (by decide) dX8_settleOne_205
set_option maxHeartbeats 4000000 in
set_option maxRecDepth 100000 in
theorem k_X8_settleOne_170 (l : Launch) (D : Dx) (hT : Nat) (aT : Nat → Nat) (yT : Nat → ClassId) (hP0 : Nat) (aP0 : Nat → Nat) (yP0 : Nat → ClassId) : S_X8_settleOne_170 l D hT aT yT hP0 aP0 yP0 (b_X8_settleOne_170) := by
  intro p e s m args below meth c H locs A ls gT gP0 v2 s0 q C X hl hF
  obtain ⟨hx, hb, hr, hml, hown, hts, hlk⟩ := id C
  unfold b_X8_settleOne_170 at hF
  refine lv_aload_n hx hb dX8_settleOne_170 rfl (lv_at hl 1 rfl) ?_
  refine va_getN (D := D.1) (ci := 0) (v := .ref (aP0 2)) (C := RX0) (T := TX0) (N := 19) hx hb hts wi_X0 hown X.1 X.2.1 2 rfl rfl 2 (by decide) (X.2.2.2.2.2.1.use q1_215 rfl) (fun _ h9 => h9) (fl_get (by decide)) dX8_settleOne_171 ?_
  refine lv_iload_n hx hb dX8_settleOne_174 rfl (lv_at hl 2 rfl) ?_
  obtain ⟨h_13, hF⟩ := grd_some hF
  refine va_iald (D := D.1) (f := gIA gP0 2) hx hb X.1 X.2.1 5 3 rfl rfl (inB_ok h_13) dX8_settleOne_175 ?_
  refine lv_if_ne (tgt := 183) hx hb dX8_settleOne_176 (by decide) (fun c => ?_) (fun c => ?_)
  · replace hF := iF c hF
    refine lv_iconst (v := (0 : Int32)) hx hb dX8_settleOne_183 (by decide) ?_
    exact (k_X8_settleOne_184 l D hT aT yT hP0 aP0 yP0) C X (lv_sub hl [0, 1, 2] rfl) hF
  · replace hF := iT c hF
    refine lv_iconst (v := (1 : Int32)) hx hb dX8_settleOne_179 (by decide) ?_
    refine lv_goto (tgt := 184) hx hb dX8_settleOne_180 (by decide) ?_
    exact (k_X8_settleOne_184 l D hT aT yT hP0 aP0 yP0) C X (lv_sub hl [0, 1, 2] rfl) hF
set_option maxHeartbeats 4000000 in
set_option maxRecDepth 100000 in
theorem c_X8_settleOne (l : Launch) (D : Dx) (hT : Nat) (aT : Nat → Nat) (yT : Nat → ClassId) (hP0 : Nat) (aP0 : Nat → Nat) (yP0 : Nat → ClassId) (gT : Gs) (gP0 : Gs) (x1 : Int32) (q : Int32 × Gs × Gs) (hF : f_X8_settleOne gT gP0 x1 = some q) (sz : Nat) : Met l yX8_settleOne (ws_ yX8_settleOne cX8_settleOne 4 (some .boolean)) R_X8_settleOne (PC D (tX8 yT ++ (tX0 yP0)) [.ref hT, .ref hP0, .int x1] (wX8 hT aT yT gT ++ (wX0 hP0 aP0 yP0 gP0)) sz) (QI D (va_A (wX8 hT aT yT gT ++ (wX0 hP0 aP0 yP0 gP0)) sz) (wX8 hT aT yT q.2.1 ++ (wX0 hP0 aP0 yP0 q.2.2)) q.1) 0 0 (va_A (wX8 hT aT yT gT ++ (wX0 hP0 aP0 yP0 gP0)) sz) := by
  refine Met.ofW (cc := cX8_settleOne) (maxL := 4) (ret := (some .boolean)) (by decide) rfl ?_
  intro p e s m args below meth c s₁ B hml hv
  obtain ⟨rfl, hsz, hP, hK, hD, hN⟩ := hv
  subst hsz
  have C : Cx p s m _ meth c cX8_settleOne (some .boolean) 4 RX8 lw_all := Cx_of B hml
  have X := Hx_start hP hK hD hN
  obtain ⟨hx, hb, hr, -, hown, hts, hlk⟩ := id C
  generalize va_A (wX8 hT aT yT gT ++ (wX0 hP0 aP0 yP0 gP0)) s.heap.size = A at X ⊢
  have hl := lv_entry ([.ref hT, .ref hP0, .int x1]) (n := 4) (Nat.le_of_ble_eq_true rfl)
  rw [lg_entry_eq]
  generalize (lg_sl ([.ref hT, .ref hP0, .int x1]) ++ List.replicate (4 - (lg_sl ([.ref hT, .ref hP0, .int x1])).length) Slot.unset).toArray = ls at hl ⊢
  have hl : lv_has ls 4 [(0, .ref hT), (1, .ref hP0), (2, .int x1)] := hl
  unfold f_X8_settleOne at hF
  refine lv_aload_n hx hb dX8_settleOne_0 rfl (lv_at hl 0 rfl) ?_
  refine lv_dup hx hb dX8_settleOne_1 rfl ?_
  refine va_get (D := D.1) (ci := 8) (v := .int (gI gT 1)) (C := RX8) (T := TX8) (N := 2) hx hb hts wi_X8 hown X.1 X.2.1 0 rfl rfl 1 (by decide) (hts _ q2_223) (fun _ h9 => h9) (fl_get (by decide)) dX8_settleOne_2 ?_
  refine lv_iconst (v := (1 : Int32)) hx hb dX8_settleOne_5 (by decide) ?_
  refine lv_isub hx hb dX8_settleOne_6 ?_
  refine va_put (D := D.1) (ci := 8) (v := .int ((gI gT 1) - (1 : Int32))) (ty := .int) (C := RX8) (T := TX8) (N := 2) hx hb hts wi_X8 tyX8 tyX8_ok nmX8 hown X.1 X.2.1 X.2.2.1 X.2.2.2.1 0 rfl rfl 1 (by decide) (hts _ q2_223) (fun _ h9 => h9) rfl (by decide +kernel) rfl rfl (by rw [List.length_map, List.length_range]; decide) dX8_settleOne_7 (fun H locs hP hD hS => ?_)
  have X : Hx D (tX8 yT ++ (tX0 yP0)) A s H locs (wX8 hT aT yT (sI gT 1 ((gI gT 1) - (1 : Int32))) ++ (wX0 hP0 aP0 yP0 gP0)) := Hx_set X (set_l (by rw [wG_len (m := 2) rfl]; decide) (wG_sI (k := 1) rfl)) hP hD hS
  refine lv_aload_n hx hb dX8_settleOne_10 rfl (lv_at hl 0 rfl) ?_
  refine va_get (D := D.1) (ci := 8) (v := .ref (aT 0)) (C := RX8) (T := TX8) (N := 2) hx hb hts wi_X8 hown X.1 X.2.1 0 rfl rfl 0 (by decide) (hts _ q2_222) (fun _ h9 => h9) (fl_get (by decide)) dX8_settleOne_11 ?_
  refine lv_aload_n hx hb dX8_settleOne_14 rfl (lv_at hl 0 rfl) ?_
  refine va_get (D := D.1) (ci := 8) (v := .int ((gI gT 1) - (1 : Int32))) (C := RX8) (T := TX8) (N := 2) hx hb hts wi_X8 hown X.1 X.2.1 0 rfl rfl 1 (by decide) (hts _ q2_223) (fun _ h9 => h9) (fl_get (by decide)) dX8_settleOne_15 ?_
  obtain ⟨h_1, hF⟩ := grd_some hF
  refine va_iald (D := D.1) (f := gIA gT 0) hx hb X.1 X.2.1 1 0 rfl rfl (inB_ok h_1) dX8_settleOne_18 ?_
  refine lv_istore_n (lv' := [(3, .int (gIA gT 0 ((gI gT 1) - (1 : Int32)).toNatClampNeg)), (0, .ref hT), (1, .ref hP0), (2, .int x1)]) hx hb dX8_settleOne_19 rfl hl (by decide) rfl (fun ls hl => ?_)
  refine lv_aload_n hx hb dX8_settleOne_20 rfl (lv_at hl 2 rfl) ?_
  refine va_getN (D := D.1) (ci := 0) (v := .ref (aP0 3)) (C := RX0) (T := TX0) (N := 19) hx hb hts wi_X0 hown X.1 X.2.1 2 rfl rfl 3 (by decide) (X.2.2.2.2.2.1.use q1_220 rfl) (fun _ h9 => h9) (fl_get (by decide)) dX8_settleOne_21 ?_
  refine lv_iload_n hx hb dX8_settleOne_24 rfl (lv_at hl 3 rfl) ?_
  refine lv_iload_n hx hb dX8_settleOne_25 rfl (lv_at hl 0 rfl) ?_
  obtain ⟨h_2, hF⟩ := grd_some hF
  refine va_iast (D := D.1) (f := gIA gP0 3) hx hb X.1 X.2.1 X.2.2.1 X.2.2.2.1 6 4 rfl rfl (inB_ok h_2) dX8_settleOne_26 (fun H locs hP hD hS => ?_)
  have X : Hx D (tX8 yT ++ (tX0 yP0)) A s H locs (wX8 hT aT yT (sI gT 1 ((gI gT 1) - (1 : Int32))) ++ (wX0 hP0 aP0 yP0 (sIA gP0 3 (upd (gIA gP0 3) x1.toNatClampNeg (gIA gT 0 ((gI gT 1) - (1 : Int32)).toNatClampNeg))))) := Hx_set X (set_r (n := 2) (i := 4) (j := 6) (wG_len rfl) rfl (wG_sIA (i := 3) (k := 3) ndX0 rfl rfl)) hP hD hS
  refine lv_aload_n hx hb dX8_settleOne_27 rfl (lv_at hl 2 rfl) ?_
  refine va_getN (D := D.1) (ci := 0) (v := .ref (aP0 0)) (C := RX0) (T := TX0) (N := 19) hx hb hts wi_X0 hown X.1 X.2.1 2 rfl rfl 0 (by decide) (X.2.2.2.2.2.1.use q1_208 rfl) (fun _ h9 => h9) (fl_get (by decide)) dX8_settleOne_28 ?_
  refine lv_iload_n hx hb dX8_settleOne_31 rfl (lv_at hl 3 rfl) ?_
  obtain ⟨h_3, hF⟩ := grd_some hF
  refine va_iald (D := D.1) (f := gIA gP0 0) hx hb X.1 X.2.1 3 1 rfl rfl (inB_ok h_3) dX8_settleOne_32 ?_
  by_cases c54 : (gIA gP0 0 x1.toNatClampNeg) = (54 : Int32)
  · replace hF := iT c54 hF
    refine lv_lookup (tgt := 109) (off := 76) hx hb dX8_settleOne_33 (by decide) (by rw [c54]; rfl) (by decide) ?_
    refine lv_iload_n hx hb dX8_settleOne_109 rfl (lv_at hl 0 rfl) ?_
    refine lv_if_ne (tgt := 125) hx hb dX8_settleOne_110 (by decide) (fun c => ?_) (fun c => ?_)
    · replace hF := iF c hF
      refine lv_iconst (v := (0 : Int32)) hx hb dX8_settleOne_125 (by decide) ?_
      have hq := Option.some.inj hF
      subst hq
      exact rt_z (v := (0 : Int32)) C X (by decide) dX8_settleOne_126
    · replace hF := iT c hF
      refine lv_aload_n hx hb dX8_settleOne_113 rfl (lv_at hl 1 rfl) ?_
      refine lv_iconst (v := (0 : Int32)) hx hb dX8_settleOne_114 (by decide) ?_
      obtain ⟨q_4, hc_5, hF⟩ := bnd_some hF
      refine cV_i (As := [.int (0 : Int32)]) (rest := []) C X (c_X8_give l D hT aT yT (sI gT 1 ((gI gT 1) - (1 : Int32))) (0 : Int32) q_4 hc_5 _) (cwV 1 hts (good_V q4_228 q4_230 q0_43 q1_11 q4_231) rfl rfl rfl (by decide +kernel) ⟨Nat.le_of_ble_eq_true rfl, Nat.le_of_ble_eq_true rfl⟩) (va_recv X.1 X.2.1 (ci := 8) (q0 := 0) rfl rfl) (X.1.sub (tys' := tX8 yT) [0] rfl) (X.2.1.sub (ws' := wX8 hT aT yT (sI gT 1 ((gI gT 1) - (1 : Int32)))) [0, 1] rfl) (X.2.2.1.sub (ws' := wX8 hT aT yT (sI gT 1 ((gI gT 1) - (1 : Int32)))) [0, 1] (by decide) rfl) (free_of (wC := wX8 hT aT yT (sI gT 1 ((gI gT 1) - (1 : Int32)))) (isC := [0, 1]) X rfl) hl.1 rfl rfl (Nat.le_of_ble_eq_true rfl) dX8_settleOne_115 ⟨Nat.le_of_ble_eq_true rfl, Nat.le_of_ble_eq_true rfl⟩ (fun t H1 locs1 ht hB hk hS => ?_)
      have X : Hx D (tX8 yT ++ (tX0 yP0)) A s H1 locs1 (wX8 hT aT yT q_4.2 ++ (wX0 hP0 aP0 yP0 (sIA gP0 3 (upd (gIA gP0 3) x1.toNatClampNeg (gIA gT 0 ((gI gT 1) - (1 : Int32)).toNatClampNeg))))) := Hx_after (isC := [0, 1]) (isR := [2, 3, 4, 5, 6, 7, 8, 9, 10, 11, 12, 13, 14, 15, 16, 17]) (pm := [16, 17, 0, 1, 2, 3, 4, 5, 6, 7, 8, 9, 10, 11, 12, 13, 14, 15]) (wr := wX0 hP0 aP0 yP0 (sIA gP0 3 (upd (gIA gP0 3) x1.toNatClampNeg (gIA gT 0 ((gI gT 1) - (1 : Int32)).toNatClampNeg)))) X ⟨rfl, rfl, by decide, by decide, rfl, by decide⟩ ht hB hk hS
      clear hk hS ht hB
      generalize H1 = H at X ⊢
      generalize locs1 = locs at X ⊢
      refine lv_if_eq (tgt := 125) hx hb dX8_settleOne_118 (by decide) (fun c => ?_) (fun c => ?_)
      · replace hF := iT c hF
        refine lv_iconst (v := (0 : Int32)) hx hb dX8_settleOne_125 (by decide) ?_
        have hq := Option.some.inj hF
        subst hq
        exact rt_z (v := (0 : Int32)) C X (by decide) dX8_settleOne_126
      · replace hF := iF c hF
        refine lv_iconst (v := (1 : Int32)) hx hb dX8_settleOne_121 (by decide) ?_
        refine lv_goto (tgt := 126) hx hb dX8_settleOne_122 (by decide) ?_
        have hq := Option.some.inj hF
        subst hq
        exact rt_z (v := (1 : Int32)) C X (by decide) dX8_settleOne_126
  · replace hF := iF c54 hF
    by_cases c64 : (gIA gP0 0 x1.toNatClampNeg) = (64 : Int32)
    · replace hF := iT c64 hF
      refine lv_lookup (tgt := 76) (off := 43) hx hb dX8_settleOne_33 (by decide) (by rw [c64]; rfl) (by decide) ?_
      refine lv_aload_n hx hb dX8_settleOne_76 rfl (lv_at hl 2 rfl) ?_
      refine va_getN (D := D.1) (ci := 0) (v := .ref (aP0 2)) (C := RX0) (T := TX0) (N := 19) hx hb hts wi_X0 hown X.1 X.2.1 2 rfl rfl 2 (by decide) (X.2.2.2.2.2.1.use q1_215 rfl) (fun _ h9 => h9) (fl_get (by decide)) dX8_settleOne_77 ?_
      refine lv_iload_n hx hb dX8_settleOne_80 rfl (lv_at hl 3 rfl) ?_
      refine lv_bipush (v := (7 : Int32)) hx hb dX8_settleOne_81 (by decide) ?_
      obtain ⟨h_6, hF⟩ := grd_some hF
      refine va_iast (D := D.1) (f := gIA gP0 2) hx hb X.1 X.2.1 X.2.2.1 X.2.2.2.1 5 3 rfl rfl (inB_ok h_6) dX8_settleOne_83 (fun H locs hP hD hS => ?_)
      have X : Hx D (tX8 yT ++ (tX0 yP0)) A s H locs (wX8 hT aT yT (sI gT 1 ((gI gT 1) - (1 : Int32))) ++ (wX0 hP0 aP0 yP0 (sIA (sIA gP0 3 (upd (gIA gP0 3) x1.toNatClampNeg (gIA gT 0 ((gI gT 1) - (1 : Int32)).toNatClampNeg))) 2 (upd (gIA gP0 2) x1.toNatClampNeg (7 : Int32))))) := Hx_set X (set_r (n := 2) (i := 3) (j := 5) (wG_len rfl) rfl (wG_sIA (i := 2) (k := 2) ndX0 rfl rfl)) hP hD hS
      refine lv_iload_n hx hb dX8_settleOne_84 rfl (lv_at hl 0 rfl) ?_
      refine lv_iconst (v := (1 : Int32)) hx hb dX8_settleOne_85 (by decide) ?_
      refine lv_icmp_lt (tgt := 107) hx hb dX8_settleOne_86 (by decide) (fun c => ?_) (fun c => ?_)
      · replace hF := iT c hF
        refine lv_iconst (v := (0 : Int32)) hx hb dX8_settleOne_107 (by decide) ?_
        have hq := Option.some.inj hF
        subst hq
        exact rt_z (v := (0 : Int32)) C X (by decide) dX8_settleOne_108
      · replace hF := iF c hF
        refine lv_iload_n hx hb dX8_settleOne_89 rfl (lv_at hl 0 rfl) ?_
        refine lv_iconst (v := (4 : Int32)) hx hb dX8_settleOne_90 (by decide) ?_
        refine lv_icmp_gt (tgt := 107) hx hb dX8_settleOne_91 (by decide) (fun c => ?_) (fun c => ?_)
        · replace hF := iT c hF
          refine lv_iconst (v := (0 : Int32)) hx hb dX8_settleOne_107 (by decide) ?_
          have hq := Option.some.inj hF
          subst hq
          exact rt_z (v := (0 : Int32)) C X (by decide) dX8_settleOne_108
        · replace hF := iF c hF
          refine lv_aload_n hx hb dX8_settleOne_94 rfl (lv_at hl 1 rfl) ?_
          refine lv_bipush (v := (7 : Int32)) hx hb dX8_settleOne_95 (by decide) ?_
          obtain ⟨q_7, hc_8, hF⟩ := bnd_some hF
          refine cV_i (As := [.int (7 : Int32)]) (rest := []) C X (c_X8_give l D hT aT yT (sI gT 1 ((gI gT 1) - (1 : Int32))) (7 : Int32) q_7 hc_8 _) (cwV 1 hts (good_V q4_228 q4_230 q0_43 q1_11 q4_231) rfl rfl rfl (by decide +kernel) ⟨Nat.le_of_ble_eq_true rfl, Nat.le_of_ble_eq_true rfl⟩) (va_recv X.1 X.2.1 (ci := 8) (q0 := 0) rfl rfl) (X.1.sub (tys' := tX8 yT) [0] rfl) (X.2.1.sub (ws' := wX8 hT aT yT (sI gT 1 ((gI gT 1) - (1 : Int32)))) [0, 1] rfl) (X.2.2.1.sub (ws' := wX8 hT aT yT (sI gT 1 ((gI gT 1) - (1 : Int32)))) [0, 1] (by decide) rfl) (free_of (wC := wX8 hT aT yT (sI gT 1 ((gI gT 1) - (1 : Int32)))) (isC := [0, 1]) X rfl) hl.1 rfl rfl (Nat.le_of_ble_eq_true rfl) dX8_settleOne_97 ⟨Nat.le_of_ble_eq_true rfl, Nat.le_of_ble_eq_true rfl⟩ (fun t H1 locs1 ht hB hk hS => ?_)
          have X : Hx D (tX8 yT ++ (tX0 yP0)) A s H1 locs1 (wX8 hT aT yT q_7.2 ++ (wX0 hP0 aP0 yP0 (sIA (sIA gP0 3 (upd (gIA gP0 3) x1.toNatClampNeg (gIA gT 0 ((gI gT 1) - (1 : Int32)).toNatClampNeg))) 2 (upd (gIA gP0 2) x1.toNatClampNeg (7 : Int32))))) := Hx_after (isC := [0, 1]) (isR := [2, 3, 4, 5, 6, 7, 8, 9, 10, 11, 12, 13, 14, 15, 16, 17]) (pm := [16, 17, 0, 1, 2, 3, 4, 5, 6, 7, 8, 9, 10, 11, 12, 13, 14, 15]) (wr := wX0 hP0 aP0 yP0 (sIA (sIA gP0 3 (upd (gIA gP0 3) x1.toNatClampNeg (gIA gT 0 ((gI gT 1) - (1 : Int32)).toNatClampNeg))) 2 (upd (gIA gP0 2) x1.toNatClampNeg (7 : Int32)))) X ⟨rfl, rfl, by decide, by decide, rfl, by decide⟩ ht hB hk hS
          clear hk hS ht hB
          generalize H1 = H at X ⊢
          generalize locs1 = locs at X ⊢
          refine lv_if_eq (tgt := 107) hx hb dX8_settleOne_100 (by decide) (fun c => ?_) (fun c => ?_)
          · replace hF := iT c hF
            refine lv_iconst (v := (0 : Int32)) hx hb dX8_settleOne_107 (by decide) ?_
            have hq := Option.some.inj hF
            subst hq
            exact rt_z (v := (0 : Int32)) C X (by decide) dX8_settleOne_108
          · replace hF := iF c hF
            refine lv_iconst (v := (1 : Int32)) hx hb dX8_settleOne_103 (by decide) ?_
            refine lv_goto (tgt := 108) hx hb dX8_settleOne_104 (by decide) ?_
            have hq := Option.some.inj hF
            subst hq
            exact rt_z (v := (1 : Int32)) C X (by decide) dX8_settleOne_108
    · replace hF := iF c64 hF
      by_cases c65 : (gIA gP0 0 x1.toNatClampNeg) = (65 : Int32)
      · replace hF := iT c65 hF
        refine lv_lookup (tgt := 127) (off := 94) hx hb dX8_settleOne_33 (by decide) (by rw [c65]; rfl) (by decide) ?_
        refine lv_aload_n hx hb dX8_settleOne_127 rfl (lv_at hl 2 rfl) ?_
        refine va_getN (D := D.1) (ci := 0) (v := .ref (aP0 2)) (C := RX0) (T := TX0) (N := 19) hx hb hts wi_X0 hown X.1 X.2.1 2 rfl rfl 2 (by decide) (X.2.2.2.2.2.1.use q1_215 rfl) (fun _ h9 => h9) (fl_get (by decide)) dX8_settleOne_128 ?_
        refine lv_iload_n hx hb dX8_settleOne_131 rfl (lv_at hl 3 rfl) ?_
        refine lv_iconst (v := (4 : Int32)) hx hb dX8_settleOne_132 (by decide) ?_
        refine lv_iload_n hx hb dX8_settleOne_133 rfl (lv_at hl 0 rfl) ?_
        refine va_mmax hx hb (by rw [hml]; exact hl.1.symm) hown (hts _ q5_0) (hts _ q4_13) (hts _ q1_14) (hts _ q4_14) (Nat.le_of_ble_eq_true rfl) (Nat.le_of_ble_eq_true rfl) (Nat.le_of_ble_eq_true rfl) (Nat.le_of_ble_eq_true rfl) dX8_settleOne_134 ?_
        obtain ⟨h_9, hF⟩ := grd_some hF
        refine va_iast (D := D.1) (f := gIA gP0 2) hx hb X.1 X.2.1 X.2.2.1 X.2.2.2.1 5 3 rfl rfl (inB_ok h_9) dX8_settleOne_137 (fun H locs hP hD hS => ?_)
        have X : Hx D (tX8 yT ++ (tX0 yP0)) A s H locs (wX8 hT aT yT (sI gT 1 ((gI gT 1) - (1 : Int32))) ++ (wX0 hP0 aP0 yP0 (sIA (sIA gP0 3 (upd (gIA gP0 3) x1.toNatClampNeg (gIA gT 0 ((gI gT 1) - (1 : Int32)).toNatClampNeg))) 2 (upd (gIA gP0 2) x1.toNatClampNeg (if (4 : Int32) < (gIA gT 0 ((gI gT 1) - (1 : Int32)).toNatClampNeg) then (gIA gT 0 ((gI gT 1) - (1 : Int32)).toNatClampNeg) else (4 : Int32)))))) := Hx_set X (set_r (n := 2) (i := 3) (j := 5) (wG_len rfl) rfl (wG_sIA (i := 2) (k := 2) ndX0 rfl rfl)) hP hD hS
        refine lv_iload_n hx hb dX8_settleOne_138 rfl (lv_at hl 0 rfl) ?_
        refine lv_if_eq (tgt := 159) hx hb dX8_settleOne_139 (by decide) (fun c => ?_) (fun c => ?_)
        · replace hF := iT c hF
          refine lv_iconst (v := (0 : Int32)) hx hb dX8_settleOne_159 (by decide) ?_
          have hq := Option.some.inj hF
          subst hq
          exact rt_z (v := (0 : Int32)) C X (by decide) dX8_settleOne_160
        · replace hF := iF c hF
          refine lv_aload_n hx hb dX8_settleOne_142 rfl (lv_at hl 1 rfl) ?_
          refine lv_aload_n hx hb dX8_settleOne_143 rfl (lv_at hl 2 rfl) ?_
          refine va_getN (D := D.1) (ci := 0) (v := .ref (aP0 2)) (C := RX0) (T := TX0) (N := 19) hx hb hts wi_X0 hown X.1 X.2.1 2 rfl rfl 2 (by decide) (X.2.2.2.2.2.1.use q1_215 rfl) (fun _ h9 => h9) (fl_get (by decide)) dX8_settleOne_144 ?_
          refine lv_iload_n hx hb dX8_settleOne_147 rfl (lv_at hl 3 rfl) ?_
          obtain ⟨h_10, hF⟩ := grd_some hF
          refine va_iald (D := D.1) (f := upd (gIA gP0 2) x1.toNatClampNeg (if (4 : Int32) < (gIA gT 0 ((gI gT 1) - (1 : Int32)).toNatClampNeg) then (gIA gT 0 ((gI gT 1) - (1 : Int32)).toNatClampNeg) else (4 : Int32))) hx hb X.1 X.2.1 5 3 rfl rfl (inB_ok h_10) dX8_settleOne_148 ?_
          obtain ⟨q_11, hc_12, hF⟩ := bnd_some hF
          refine cV_i (As := [.int ((upd (gIA gP0 2) x1.toNatClampNeg (if (4 : Int32) < (gIA gT 0 ((gI gT 1) - (1 : Int32)).toNatClampNeg) then (gIA gT 0 ((gI gT 1) - (1 : Int32)).toNatClampNeg) else (4 : Int32))) x1.toNatClampNeg)]) (rest := []) C X (c_X8_give l D hT aT yT (sI gT 1 ((gI gT 1) - (1 : Int32))) ((upd (gIA gP0 2) x1.toNatClampNeg (if (4 : Int32) < (gIA gT 0 ((gI gT 1) - (1 : Int32)).toNatClampNeg) then (gIA gT 0 ((gI gT 1) - (1 : Int32)).toNatClampNeg) else (4 : Int32))) x1.toNatClampNeg) q_11 hc_12 _) (cwV 1 hts (good_V q4_228 q4_230 q0_43 q1_11 q4_231) rfl rfl rfl (by decide +kernel) ⟨Nat.le_of_ble_eq_true rfl, Nat.le_of_ble_eq_true rfl⟩) (va_recv X.1 X.2.1 (ci := 8) (q0 := 0) rfl rfl) (X.1.sub (tys' := tX8 yT) [0] rfl) (X.2.1.sub (ws' := wX8 hT aT yT (sI gT 1 ((gI gT 1) - (1 : Int32)))) [0, 1] rfl) (X.2.2.1.sub (ws' := wX8 hT aT yT (sI gT 1 ((gI gT 1) - (1 : Int32)))) [0, 1] (by decide) rfl) (free_of (wC := wX8 hT aT yT (sI gT 1 ((gI gT 1) - (1 : Int32)))) (isC := [0, 1]) X rfl) hl.1 rfl rfl (Nat.le_of_ble_eq_true rfl) dX8_settleOne_149 ⟨Nat.le_of_ble_eq_true rfl, Nat.le_of_ble_eq_true rfl⟩ (fun t H1 locs1 ht hB hk hS => ?_)
          have X : Hx D (tX8 yT ++ (tX0 yP0)) A s H1 locs1 (wX8 hT aT yT q_11.2 ++ (wX0 hP0 aP0 yP0 (sIA (sIA gP0 3 (upd (gIA gP0 3) x1.toNatClampNeg (gIA gT 0 ((gI gT 1) - (1 : Int32)).toNatClampNeg))) 2 (upd (gIA gP0 2) x1.toNatClampNeg (if (4 : Int32) < (gIA gT 0 ((gI gT 1) - (1 : Int32)).toNatClampNeg) then (gIA gT 0 ((gI gT 1) - (1 : Int32)).toNatClampNeg) else (4 : Int32)))))) := Hx_after (isC := [0, 1]) (isR := [2, 3, 4, 5, 6, 7, 8, 9, 10, 11, 12, 13, 14, 15, 16, 17]) (pm := [16, 17, 0, 1, 2, 3, 4, 5, 6, 7, 8, 9, 10, 11, 12, 13, 14, 15]) (wr := wX0 hP0 aP0 yP0 (sIA (sIA gP0 3 (upd (gIA gP0 3) x1.toNatClampNeg (gIA gT 0 ((gI gT 1) - (1 : Int32)).toNatClampNeg))) 2 (upd (gIA gP0 2) x1.toNatClampNeg (if (4 : Int32) < (gIA gT 0 ((gI gT 1) - (1 : Int32)).toNatClampNeg) then (gIA gT 0 ((gI gT 1) - (1 : Int32)).toNatClampNeg) else (4 : Int32))))) X ⟨rfl, rfl, by decide, by decide, rfl, by decide⟩ ht hB hk hS
          clear hk hS ht hB
          generalize H1 = H at X ⊢
          generalize locs1 = locs at X ⊢
          refine lv_if_eq (tgt := 159) hx hb dX8_settleOne_152 (by decide) (fun c => ?_) (fun c => ?_)
          · replace hF := iT c hF
            refine lv_iconst (v := (0 : Int32)) hx hb dX8_settleOne_159 (by decide) ?_
            have hq := Option.some.inj hF
            subst hq
            exact rt_z (v := (0 : Int32)) C X (by decide) dX8_settleOne_160
          · replace hF := iF c hF
            refine lv_iconst (v := (1 : Int32)) hx hb dX8_settleOne_155 (by decide) ?_
            refine lv_goto (tgt := 160) hx hb dX8_settleOne_156 (by decide) ?_
            have hq := Option.some.inj hF
            subst hq
            exact rt_z (v := (1 : Int32)) C X (by decide) dX8_settleOne_160
      · replace hF := iF c65 hF
        by_cases c66 : (gIA gP0 0 x1.toNatClampNeg) = (66 : Int32)
        · replace hF := iT c66 hF
          refine lv_lookup (tgt := 161) (off := 128) hx hb dX8_settleOne_33 (by decide) (by rw [c66]; rfl) (by decide) ?_
          refine lv_iload_n hx hb dX8_settleOne_161 rfl (lv_at hl 0 rfl) ?_
          refine lv_if_ne (tgt := 169) hx hb dX8_settleOne_162 (by decide) (fun c => ?_) (fun c => ?_)
          · replace hF := iF c hF
            refine lv_iconst (v := (0 : Int32)) hx hb dX8_settleOne_169 (by decide) ?_
            exact (k_X8_settleOne_170 l D hT aT yT hP0 aP0 yP0) C X (lv_sub hl [1, 2, 3] rfl) hF
          · replace hF := iT c hF
            refine lv_iconst (v := (1 : Int32)) hx hb dX8_settleOne_165 (by decide) ?_
            refine lv_goto (tgt := 170) hx hb dX8_settleOne_166 (by decide) ?_
            exact (k_X8_settleOne_170 l D hT aT yT hP0 aP0 yP0) C X (lv_sub hl [1, 2, 3] rfl) hF
        · replace hF := iF c66 hF
          refine lv_lookup (tgt := 206) (off := 173) hx hb dX8_settleOne_33 (by decide) (lkc (tneS c54 (by decide)) (lkc (tneS c64 (by decide)) (lkc (tneS c65 (by decide)) (lkc (tneS c66 (by decide)) lkn)))) (by decide) ?_
          refine lv_aload_n hx hb dX8_settleOne_206 rfl (lv_at hl 2 rfl) ?_
          refine va_getN (D := D.1) (ci := 0) (v := .ref (aP0 2)) (C := RX0) (T := TX0) (N := 19) hx hb hts wi_X0 hown X.1 X.2.1 2 rfl rfl 2 (by decide) (X.2.2.2.2.2.1.use q1_215 rfl) (fun _ h9 => h9) (fl_get (by decide)) dX8_settleOne_207 ?_
          refine lv_iload_n hx hb dX8_settleOne_210 rfl (lv_at hl 3 rfl) ?_
          refine lv_bipush (v := (7 : Int32)) hx hb dX8_settleOne_211 (by decide) ?_
          obtain ⟨h_17, hF⟩ := grd_some hF
          refine va_iast (D := D.1) (f := gIA gP0 2) hx hb X.1 X.2.1 X.2.2.1 X.2.2.2.1 5 3 rfl rfl (inB_ok h_17) dX8_settleOne_213 (fun H locs hP hD hS => ?_)
          have X : Hx D (tX8 yT ++ (tX0 yP0)) A s H locs (wX8 hT aT yT (sI gT 1 ((gI gT 1) - (1 : Int32))) ++ (wX0 hP0 aP0 yP0 (sIA (sIA gP0 3 (upd (gIA gP0 3) x1.toNatClampNeg (gIA gT 0 ((gI gT 1) - (1 : Int32)).toNatClampNeg))) 2 (upd (gIA gP0 2) x1.toNatClampNeg (7 : Int32))))) := Hx_set X (set_r (n := 2) (i := 3) (j := 5) (wG_len rfl) rfl (wG_sIA (i := 2) (k := 2) ndX0 rfl rfl)) hP hD hS
          refine lv_iload_n hx hb dX8_settleOne_214 rfl (lv_at hl 0 rfl) ?_
          refine lv_if_eq (tgt := 231) hx hb dX8_settleOne_215 (by decide) (fun c => ?_) (fun c => ?_)
          · replace hF := iT c hF
            refine lv_iconst (v := (0 : Int32)) hx hb dX8_settleOne_231 (by decide) ?_
            have hq := Option.some.inj hF
            subst hq
            exact rt_z (v := (0 : Int32)) C X (by decide) dX8_settleOne_232
          · replace hF := iF c hF
            refine lv_aload_n hx hb dX8_settleOne_218 rfl (lv_at hl 1 rfl) ?_
            refine lv_bipush (v := (7 : Int32)) hx hb dX8_settleOne_219 (by decide) ?_
            obtain ⟨q_18, hc_19, hF⟩ := bnd_some hF
            refine cV_i (As := [.int (7 : Int32)]) (rest := []) C X (c_X8_give l D hT aT yT (sI gT 1 ((gI gT 1) - (1 : Int32))) (7 : Int32) q_18 hc_19 _) (cwV 1 hts (good_V q4_228 q4_230 q0_43 q1_11 q4_231) rfl rfl rfl (by decide +kernel) ⟨Nat.le_of_ble_eq_true rfl, Nat.le_of_ble_eq_true rfl⟩) (va_recv X.1 X.2.1 (ci := 8) (q0 := 0) rfl rfl) (X.1.sub (tys' := tX8 yT) [0] rfl) (X.2.1.sub (ws' := wX8 hT aT yT (sI gT 1 ((gI gT 1) - (1 : Int32)))) [0, 1] rfl) (X.2.2.1.sub (ws' := wX8 hT aT yT (sI gT 1 ((gI gT 1) - (1 : Int32)))) [0, 1] (by decide) rfl) (free_of (wC := wX8 hT aT yT (sI gT 1 ((gI gT 1) - (1 : Int32)))) (isC := [0, 1]) X rfl) hl.1 rfl rfl (Nat.le_of_ble_eq_true rfl) dX8_settleOne_221 ⟨Nat.le_of_ble_eq_true rfl, Nat.le_of_ble_eq_true rfl⟩ (fun t H1 locs1 ht hB hk hS => ?_)
            have X : Hx D (tX8 yT ++ (tX0 yP0)) A s H1 locs1 (wX8 hT aT yT q_18.2 ++ (wX0 hP0 aP0 yP0 (sIA (sIA gP0 3 (upd (gIA gP0 3) x1.toNatClampNeg (gIA gT 0 ((gI gT 1) - (1 : Int32)).toNatClampNeg))) 2 (upd (gIA gP0 2) x1.toNatClampNeg (7 : Int32))))) := Hx_after (isC := [0, 1]) (isR := [2, 3, 4, 5, 6, 7, 8, 9, 10, 11, 12, 13, 14, 15, 16, 17]) (pm := [16, 17, 0, 1, 2, 3, 4, 5, 6, 7, 8, 9, 10, 11, 12, 13, 14, 15]) (wr := wX0 hP0 aP0 yP0 (sIA (sIA gP0 3 (upd (gIA gP0 3) x1.toNatClampNeg (gIA gT 0 ((gI gT 1) - (1 : Int32)).toNatClampNeg))) 2 (upd (gIA gP0 2) x1.toNatClampNeg (7 : Int32)))) X ⟨rfl, rfl, by decide, by decide, rfl, by decide⟩ ht hB hk hS
            clear hk hS ht hB
            generalize H1 = H at X ⊢
            generalize locs1 = locs at X ⊢
            refine lv_if_eq (tgt := 231) hx hb dX8_settleOne_224 (by decide) (fun c => ?_) (fun c => ?_)
            · replace hF := iT c hF
              refine lv_iconst (v := (0 : Int32)) hx hb dX8_settleOne_231 (by decide) ?_
              have hq := Option.some.inj hF
              subst hq
              exact rt_z (v := (0 : Int32)) C X (by decide) dX8_settleOne_232
            · replace hF := iF c hF
              refine lv_iconst (v := (1 : Int32)) hx hb dX8_settleOne_227 (by decide) ?_
              refine lv_goto (tgt := 232) hx hb dX8_settleOne_228 (by decide) ?_
              have hq := Option.some.inj hF
              subst hq
              exact rt_z (v := (1 : Int32)) C X (by decide) dX8_settleOne_232

/-! ### X8_settleTwo -/
theorem dX8_settleTwo_0 : decode cX8_settleTwo 0 = .ok (.aload_n 0, 1) := by decide +kernel
theorem dX8_settleTwo_1 : decode cX8_settleTwo 1 = .ok (.dup, 1) := by decide +kernel
theorem dX8_settleTwo_2 : decode cX8_settleTwo 2 = .ok (.getfield 15, 3) := by decide +kernel
theorem dX8_settleTwo_5 : decode cX8_settleTwo 5 = .ok (.iconst 2, 1) := by decide +kernel
theorem dX8_settleTwo_6 : decode cX8_settleTwo 6 = .ok (.isub, 1) := by decide +kernel
theorem dX8_settleTwo_7 : decode cX8_settleTwo 7 = .ok (.putfield 15, 3) := by decide +kernel
theorem dX8_settleTwo_10 : decode cX8_settleTwo 10 = .ok (.aload_n 0, 1) := by decide +kernel
theorem dX8_settleTwo_11 : decode cX8_settleTwo 11 = .ok (.getfield 9, 3) := by decide +kernel
theorem dX8_settleTwo_14 : decode cX8_settleTwo 14 = .ok (.aload_n 0, 1) := by decide +kernel
theorem dX8_settleTwo_15 : decode cX8_settleTwo 15 = .ok (.getfield 15, 3) := by decide +kernel
theorem dX8_settleTwo_18 : decode cX8_settleTwo 18 = .ok (.iaload, 1) := by decide +kernel
theorem dX8_settleTwo_19 : decode cX8_settleTwo 19 = .ok (.istore_n 3, 1) := by decide +kernel
theorem dX8_settleTwo_20 : decode cX8_settleTwo 20 = .ok (.aload_n 0, 1) := by decide +kernel
theorem dX8_settleTwo_21 : decode cX8_settleTwo 21 = .ok (.getfield 9, 3) := by decide +kernel
theorem dX8_settleTwo_24 : decode cX8_settleTwo 24 = .ok (.aload_n 0, 1) := by decide +kernel
theorem dX8_settleTwo_25 : decode cX8_settleTwo 25 = .ok (.getfield 15, 3) := by decide +kernel
theorem dX8_settleTwo_28 : decode cX8_settleTwo 28 = .ok (.iconst 1, 1) := by decide +kernel
theorem dX8_settleTwo_29 : decode cX8_settleTwo 29 = .ok (.iadd, 1) := by decide +kernel
theorem dX8_settleTwo_30 : decode cX8_settleTwo 30 = .ok (.iaload, 1) := by decide +kernel
theorem dX8_settleTwo_31 : decode cX8_settleTwo 31 = .ok (.istore 4, 2) := by decide +kernel
theorem dX8_settleTwo_33 : decode cX8_settleTwo 33 = .ok (.aload_n 1, 1) := by decide +kernel
theorem dX8_settleTwo_34 : decode cX8_settleTwo 34 = .ok (.getfield 88, 3) := by decide +kernel
theorem dX8_settleTwo_37 : decode cX8_settleTwo 37 = .ok (.iload_n 2, 1) := by decide +kernel
theorem dX8_settleTwo_38 : decode cX8_settleTwo 38 = .ok (.iload_n 3, 1) := by decide +kernel
theorem dX8_settleTwo_39 : decode cX8_settleTwo 39 = .ok (.iastore, 1) := by decide +kernel
theorem dX8_settleTwo_40 : decode cX8_settleTwo 40 = .ok (.aload_n 1, 1) := by decide +kernel
theorem dX8_settleTwo_41 : decode cX8_settleTwo 41 = .ok (.getfield 91, 3) := by decide +kernel
theorem dX8_settleTwo_44 : decode cX8_settleTwo 44 = .ok (.iload_n 2, 1) := by decide +kernel
theorem dX8_settleTwo_45 : decode cX8_settleTwo 45 = .ok (.iload 4, 2) := by decide +kernel
theorem dX8_settleTwo_47 : decode cX8_settleTwo 47 = .ok (.iastore, 1) := by decide +kernel
theorem dX8_settleTwo_48 : decode cX8_settleTwo 48 = .ok (.iload_n 3, 1) := by decide +kernel
theorem dX8_settleTwo_49 : decode cX8_settleTwo 49 = .ok (.ifCond .ne 12, 3) := by decide +kernel
theorem dX8_settleTwo_52 : decode cX8_settleTwo 52 = .ok (.iload 4, 2) := by decide +kernel
theorem dX8_settleTwo_54 : decode cX8_settleTwo 54 = .ok (.ifCond .ne 7, 3) := by decide +kernel
theorem dX8_settleTwo_57 : decode cX8_settleTwo 57 = .ok (.iconst 1, 1) := by decide +kernel
theorem dX8_settleTwo_58 : decode cX8_settleTwo 58 = .ok (.goto 4, 3) := by decide +kernel
theorem dX8_settleTwo_61 : decode cX8_settleTwo 61 = .ok (.iconst 0, 1) := by decide +kernel
theorem dX8_settleTwo_62 : decode cX8_settleTwo 62 = .ok (.istore 5, 2) := by decide +kernel
theorem dX8_settleTwo_64 : decode cX8_settleTwo 64 = .ok (.iload_n 3, 1) := by decide +kernel
theorem dX8_settleTwo_65 : decode cX8_settleTwo 65 = .ok (.ifCond .eq 12, 3) := by decide +kernel
theorem dX8_settleTwo_68 : decode cX8_settleTwo 68 = .ok (.iload 4, 2) := by decide +kernel
theorem dX8_settleTwo_70 : decode cX8_settleTwo 70 = .ok (.ifCond .eq 7, 3) := by decide +kernel
theorem dX8_settleTwo_73 : decode cX8_settleTwo 73 = .ok (.iconst 1, 1) := by decide +kernel
theorem dX8_settleTwo_74 : decode cX8_settleTwo 74 = .ok (.goto 4, 3) := by decide +kernel
theorem dX8_settleTwo_77 : decode cX8_settleTwo 77 = .ok (.iconst 0, 1) := by decide +kernel
theorem dX8_settleTwo_78 : decode cX8_settleTwo 78 = .ok (.istore 6, 2) := by decide +kernel
theorem dX8_settleTwo_80 : decode cX8_settleTwo 80 = .ok (.aload_n 1, 1) := by decide +kernel
theorem dX8_settleTwo_81 : decode cX8_settleTwo 81 = .ok (.getfield 65, 3) := by decide +kernel
theorem dX8_settleTwo_84 : decode cX8_settleTwo 84 = .ok (.iload_n 2, 1) := by decide +kernel
theorem dX8_settleTwo_85 : decode cX8_settleTwo 85 = .ok (.iload 5, 2) := by decide +kernel
theorem dX8_settleTwo_87 : decode cX8_settleTwo 87 = .ok (.ifCond .eq 7, 3) := by decide +kernel
theorem dX8_settleTwo_90 : decode cX8_settleTwo 90 = .ok (.iconst 0, 1) := by decide +kernel
theorem dX8_settleTwo_91 : decode cX8_settleTwo 91 = .ok (.goto 9, 3) := by decide +kernel
theorem dX8_settleTwo_94 : decode cX8_settleTwo 94 = .ok (.iload_n 3, 1) := by decide +kernel
theorem dX8_settleTwo_95 : decode cX8_settleTwo 95 = .ok (.iload 4, 2) := by decide +kernel
theorem dX8_settleTwo_97 : decode cX8_settleTwo 97 = .ok (.invokestatic 94, 3) := by decide +kernel
theorem dX8_settleTwo_100 : decode cX8_settleTwo 100 = .ok (.iastore, 1) := by decide +kernel
theorem dX8_settleTwo_101 : decode cX8_settleTwo 101 = .ok (.aload_n 1, 1) := by decide +kernel
theorem dX8_settleTwo_102 : decode cX8_settleTwo 102 = .ok (.getfield 62, 3) := by decide +kernel
theorem dX8_settleTwo_105 : decode cX8_settleTwo 105 = .ok (.iload_n 2, 1) := by decide +kernel
theorem dX8_settleTwo_106 : decode cX8_settleTwo 106 = .ok (.iaload, 1) := by decide +kernel
theorem dX8_settleTwo_107 : decode cX8_settleTwo 107 = .ok (.lookupswitch 171 #[(25, 143), (55, 124), (56, 124), (57, 124), (58, 124), (59, 100), (60, 100), (61, 81), (62, 81)], 81) := by decide +kernel
theorem dX8_settleTwo_188 : decode cX8_settleTwo 188 = .ok (.iload 5, 2) := by decide +kernel
theorem dX8_settleTwo_190 : decode cX8_settleTwo 190 = .ok (.ifCond .eq 15, 3) := by decide +kernel
theorem dX8_settleTwo_193 : decode cX8_settleTwo 193 = .ok (.aload_n 0, 1) := by decide +kernel
theorem dX8_settleTwo_194 : decode cX8_settleTwo 194 = .ok (.iconst 0, 1) := by decide +kernel
theorem dX8_settleTwo_195 : decode cX8_settleTwo 195 = .ok (.invokevirtual 68, 3) := by decide +kernel
theorem dX8_settleTwo_198 : decode cX8_settleTwo 198 = .ok (.ifCond .eq 7, 3) := by decide +kernel
theorem dX8_settleTwo_201 : decode cX8_settleTwo 201 = .ok (.iconst 1, 1) := by decide +kernel
theorem dX8_settleTwo_202 : decode cX8_settleTwo 202 = .ok (.goto 4, 3) := by decide +kernel
theorem dX8_settleTwo_205 : decode cX8_settleTwo 205 = .ok (.iconst 0, 1) := by decide +kernel
theorem dX8_settleTwo_206 : decode cX8_settleTwo 206 = .ok (.ireturn, 1) := by decide +kernel
theorem dX8_settleTwo_207 : decode cX8_settleTwo 207 = .ok (.iload 5, 2) := by decide +kernel
theorem dX8_settleTwo_209 : decode cX8_settleTwo 209 = .ok (.ifCond .ne 8, 3) := by decide +kernel
theorem dX8_settleTwo_212 : decode cX8_settleTwo 212 = .ok (.iload 6, 2) := by decide +kernel
theorem dX8_settleTwo_214 : decode cX8_settleTwo 214 = .ok (.ifCond .eq 15, 3) := by decide +kernel
theorem dX8_settleTwo_217 : decode cX8_settleTwo 217 = .ok (.aload_n 0, 1) := by decide +kernel
theorem dX8_settleTwo_218 : decode cX8_settleTwo 218 = .ok (.iconst 0, 1) := by decide +kernel
theorem dX8_settleTwo_219 : decode cX8_settleTwo 219 = .ok (.invokevirtual 68, 3) := by decide +kernel
theorem dX8_settleTwo_222 : decode cX8_settleTwo 222 = .ok (.ifCond .eq 7, 3) := by decide +kernel
theorem dX8_settleTwo_225 : decode cX8_settleTwo 225 = .ok (.iconst 1, 1) := by decide +kernel
theorem dX8_settleTwo_226 : decode cX8_settleTwo 226 = .ok (.goto 4, 3) := by decide +kernel
theorem dX8_settleTwo_229 : decode cX8_settleTwo 229 = .ok (.iconst 0, 1) := by decide +kernel
theorem dX8_settleTwo_230 : decode cX8_settleTwo 230 = .ok (.ireturn, 1) := by decide +kernel
theorem dX8_settleTwo_231 : decode cX8_settleTwo 231 = .ok (.iload 6, 2) := by decide +kernel
theorem dX8_settleTwo_233 : decode cX8_settleTwo 233 = .ok (.ifCond .eq 15, 3) := by decide +kernel
theorem dX8_settleTwo_236 : decode cX8_settleTwo 236 = .ok (.aload_n 0, 1) := by decide +kernel
theorem dX8_settleTwo_237 : decode cX8_settleTwo 237 = .ok (.iconst 0, 1) := by decide +kernel
theorem dX8_settleTwo_238 : decode cX8_settleTwo 238 = .ok (.invokevirtual 68, 3) := by decide +kernel
theorem dX8_settleTwo_241 : decode cX8_settleTwo 241 = .ok (.ifCond .eq 7, 3) := by decide +kernel
theorem dX8_settleTwo_244 : decode cX8_settleTwo 244 = .ok (.iconst 1, 1) := by decide +kernel
theorem dX8_settleTwo_245 : decode cX8_settleTwo 245 = .ok (.goto 4, 3) := by decide +kernel
theorem dX8_settleTwo_248 : decode cX8_settleTwo 248 = .ok (.iconst 0, 1) := by decide +kernel
theorem dX8_settleTwo_249 : decode cX8_settleTwo 249 = .ok (.ireturn, 1) := by decide +kernel
theorem dX8_settleTwo_250 : decode cX8_settleTwo 250 = .ok (.aload_n 1, 1) := by decide +kernel
theorem dX8_settleTwo_251 : decode cX8_settleTwo 251 = .ok (.getfield 65, 3) := by decide +kernel
theorem dX8_settleTwo_254 : decode cX8_settleTwo 254 = .ok (.iload_n 2, 1) := by decide +kernel
theorem dX8_settleTwo_255 : decode cX8_settleTwo 255 = .ok (.bipush 7, 2) := by decide +kernel
theorem dX8_settleTwo_257 : decode cX8_settleTwo 257 = .ok (.iastore, 1) := by decide +kernel
theorem dX8_settleTwo_258 : decode cX8_settleTwo 258 = .ok (.iload 6, 2) := by decide +kernel
theorem dX8_settleTwo_260 : decode cX8_settleTwo 260 = .ok (.ifCond .eq 16, 3) := by decide +kernel
theorem dX8_settleTwo_263 : decode cX8_settleTwo 263 = .ok (.aload_n 0, 1) := by decide +kernel
theorem dX8_settleTwo_264 : decode cX8_settleTwo 264 = .ok (.bipush 7, 2) := by decide +kernel
theorem dX8_settleTwo_266 : decode cX8_settleTwo 266 = .ok (.invokevirtual 68, 3) := by decide +kernel
theorem dX8_settleTwo_269 : decode cX8_settleTwo 269 = .ok (.ifCond .eq 7, 3) := by decide +kernel
theorem dX8_settleTwo_272 : decode cX8_settleTwo 272 = .ok (.iconst 1, 1) := by decide +kernel
theorem dX8_settleTwo_273 : decode cX8_settleTwo 273 = .ok (.goto 4, 3) := by decide +kernel
theorem dX8_settleTwo_276 : decode cX8_settleTwo 276 = .ok (.iconst 0, 1) := by decide +kernel
theorem dX8_settleTwo_277 : decode cX8_settleTwo 277 = .ok (.ireturn, 1) := by decide +kernel
theorem dX8_settleTwo_278 : decode cX8_settleTwo 278 = .ok (.iload 6, 2) := by decide +kernel
theorem dX8_settleTwo_280 : decode cX8_settleTwo 280 = .ok (.ifCond .eq 20, 3) := by decide +kernel
theorem dX8_settleTwo_283 : decode cX8_settleTwo 283 = .ok (.aload_n 0, 1) := by decide +kernel
theorem dX8_settleTwo_284 : decode cX8_settleTwo 284 = .ok (.aload_n 1, 1) := by decide +kernel
theorem dX8_settleTwo_285 : decode cX8_settleTwo 285 = .ok (.getfield 65, 3) := by decide +kernel
theorem dX8_settleTwo_288 : decode cX8_settleTwo 288 = .ok (.iload_n 2, 1) := by decide +kernel
theorem dX8_settleTwo_289 : decode cX8_settleTwo 289 = .ok (.iaload, 1) := by decide +kernel
theorem dX8_settleTwo_290 : decode cX8_settleTwo 290 = .ok (.invokevirtual 68, 3) := by decide +kernel
theorem dX8_settleTwo_293 : decode cX8_settleTwo 293 = .ok (.ifCond .eq 7, 3) := by decide +kernel
theorem dX8_settleTwo_296 : decode cX8_settleTwo 296 = .ok (.iconst 1, 1) := by decide +kernel
theorem dX8_settleTwo_297 : decode cX8_settleTwo 297 = .ok (.goto 4, 3) := by decide +kernel
theorem dX8_settleTwo_300 : decode cX8_settleTwo 300 = .ok (.iconst 0, 1) := by decide +kernel
theorem dX8_settleTwo_301 : decode cX8_settleTwo 301 = .ok (.ireturn, 1) := by decide +kernel
abbrev R_X8_settleTwo : Room := ({ frames := 2, cells := 0, slots := 0, locals := 85 } : Room)
def b_X8_settleTwo_231 (gT : Gs) (gP0 : Gs) (v6 : Int32) : Option (Int32 × Gs × Gs) :=
  if v6 = 0 then (some ((0 : Int32), gT, gP0)) else (bnd (f_X8_give gT (0 : Int32)) (fun q_12 => if q_12.1 = 0 then (some ((0 : Int32), q_12.2, gP0)) else (some ((1 : Int32), q_12.2, gP0))))
def b_X8_settleTwo_217 (gT : Gs) (gP0 : Gs) : Option (Int32 × Gs × Gs) :=
  bnd (f_X8_give gT (0 : Int32)) (fun q_14 => if q_14.1 = 0 then (some ((0 : Int32), q_14.2, gP0)) else (some ((1 : Int32), q_14.2, gP0)))
def b_X8_settleTwo_207 (gT : Gs) (gP0 : Gs) (v5 : Int32) (v6 : Int32) : Option (Int32 × Gs × Gs) :=
  if v5 = 0 then (if v6 = 0 then (some ((0 : Int32), gT, gP0)) else (b_X8_settleTwo_217 gT gP0)) else (b_X8_settleTwo_217 gT gP0)
def b_X8_settleTwo_188 (gT : Gs) (gP0 : Gs) (v5 : Int32) : Option (Int32 × Gs × Gs) :=
  if v5 = 0 then (some ((0 : Int32), gT, gP0)) else (bnd (f_X8_give gT (0 : Int32)) (fun q_16 => if q_16.1 = 0 then (some ((0 : Int32), q_16.2, gP0)) else (some ((1 : Int32), q_16.2, gP0))))
def b_X8_settleTwo_100 (gT : Gs) (gP0 : Gs) (v2 : Int32) (v5 : Int32) (v6 : Int32) (s0 : Int32) (s1 : Int32) : Option (Int32 × Gs × Gs) :=
  grd (inB s1 840) (grd (inB v2 840) (if (gIA gP0 0 v2.toNatClampNeg) = (25 : Int32) then (grd (inB v2 840) (if v6 = 0 then (some ((0 : Int32), gT, (sIA (sIA gP0 2 (upd (gIA gP0 2) s1.toNatClampNeg s0)) 2 (upd (upd (gIA gP0 2) s1.toNatClampNeg s0) v2.toNatClampNeg (7 : Int32))))) else (bnd (f_X8_give gT (7 : Int32)) (fun q_10 => if q_10.1 = 0 then (some ((0 : Int32), q_10.2, (sIA (sIA gP0 2 (upd (gIA gP0 2) s1.toNatClampNeg s0)) 2 (upd (upd (gIA gP0 2) s1.toNatClampNeg s0) v2.toNatClampNeg (7 : Int32))))) else (some ((1 : Int32), q_10.2, (sIA (sIA gP0 2 (upd (gIA gP0 2) s1.toNatClampNeg s0)) 2 (upd (upd (gIA gP0 2) s1.toNatClampNeg s0) v2.toNatClampNeg (7 : Int32))))))))) else (if (gIA gP0 0 v2.toNatClampNeg) = (55 : Int32) then (b_X8_settleTwo_231 gT (sIA gP0 2 (upd (gIA gP0 2) s1.toNatClampNeg s0)) v6) else (if (gIA gP0 0 v2.toNatClampNeg) = (56 : Int32) then (b_X8_settleTwo_231 gT (sIA gP0 2 (upd (gIA gP0 2) s1.toNatClampNeg s0)) v6) else (if (gIA gP0 0 v2.toNatClampNeg) = (57 : Int32) then (b_X8_settleTwo_231 gT (sIA gP0 2 (upd (gIA gP0 2) s1.toNatClampNeg s0)) v6) else (if (gIA gP0 0 v2.toNatClampNeg) = (58 : Int32) then (b_X8_settleTwo_231 gT (sIA gP0 2 (upd (gIA gP0 2) s1.toNatClampNeg s0)) v6) else (if (gIA gP0 0 v2.toNatClampNeg) = (59 : Int32) then (b_X8_settleTwo_207 gT (sIA gP0 2 (upd (gIA gP0 2) s1.toNatClampNeg s0)) v5 v6) else (if (gIA gP0 0 v2.toNatClampNeg) = (60 : Int32) then (b_X8_settleTwo_207 gT (sIA gP0 2 (upd (gIA gP0 2) s1.toNatClampNeg s0)) v5 v6) else (if (gIA gP0 0 v2.toNatClampNeg) = (61 : Int32) then (b_X8_settleTwo_188 gT (sIA gP0 2 (upd (gIA gP0 2) s1.toNatClampNeg s0)) v5) else (if (gIA gP0 0 v2.toNatClampNeg) = (62 : Int32) then (b_X8_settleTwo_188 gT (sIA gP0 2 (upd (gIA gP0 2) s1.toNatClampNeg s0)) v5) else (if v6 = 0 then (some ((0 : Int32), gT, (sIA gP0 2 (upd (gIA gP0 2) s1.toNatClampNeg s0)))) else (grd (inB v2 840) (bnd (f_X8_give gT ((upd (gIA gP0 2) s1.toNatClampNeg s0) v2.toNatClampNeg)) (fun q_19 => if q_19.1 = 0 then (some ((0 : Int32), q_19.2, (sIA gP0 2 (upd (gIA gP0 2) s1.toNatClampNeg s0)))) else (some ((1 : Int32), q_19.2, (sIA gP0 2 (upd (gIA gP0 2) s1.toNatClampNeg s0))))))))))))))))))
def b_X8_settleTwo_78 (gT : Gs) (gP0 : Gs) (v2 : Int32) (v3 : Int32) (v4 : Int32) (v5 : Int32) (s0 : Int32) : Option (Int32 × Gs × Gs) :=
  if v5 = 0 then (bnd (f_X8_joined v3 v4) (fun q_5 => b_X8_settleTwo_100 gT gP0 v2 v5 s0 q_5 v2)) else (b_X8_settleTwo_100 gT gP0 v2 v5 s0 (0 : Int32) v2)
def b_X8_settleTwo_77 (gT : Gs) (gP0 : Gs) (v2 : Int32) (v3 : Int32) (v4 : Int32) (v5 : Int32) : Option (Int32 × Gs × Gs) :=
  b_X8_settleTwo_78 gT gP0 v2 v3 v4 v5 (0 : Int32)
def b_X8_settleTwo_62 (gT : Gs) (gP0 : Gs) (v2 : Int32) (v3 : Int32) (v4 : Int32) (s0 : Int32) : Option (Int32 × Gs × Gs) :=
  if v3 = 0 then (b_X8_settleTwo_77 gT gP0 v2 v3 v4 s0) else (if v4 = 0 then (b_X8_settleTwo_77 gT gP0 v2 v3 v4 s0) else (b_X8_settleTwo_78 gT gP0 v2 v3 v4 s0 (1 : Int32)))
def b_X8_settleTwo_61 (gT : Gs) (gP0 : Gs) (v2 : Int32) (v3 : Int32) (v4 : Int32) : Option (Int32 × Gs × Gs) :=
  b_X8_settleTwo_62 gT gP0 v2 v3 v4 (0 : Int32)
def f_X8_settleTwo (gT : Gs) (gP0 : Gs) (x1 : Int32) : Option (Int32 × Gs × Gs) :=
  grd (inB ((gI gT 1) - (2 : Int32)) 512) (grd (inB (((gI gT 1) - (2 : Int32)) + (1 : Int32)) 512) (grd (inB x1 840) (grd (inB x1 840) (if (gIA gT 0 ((gI gT 1) - (2 : Int32)).toNatClampNeg) = 0 then (if (gIA gT 0 (((gI gT 1) - (2 : Int32)) + (1 : Int32)).toNatClampNeg) = 0 then (b_X8_settleTwo_62 (sI gT 1 ((gI gT 1) - (2 : Int32))) (sIA (sIA gP0 3 (upd (gIA gP0 3) x1.toNatClampNeg (gIA gT 0 ((gI gT 1) - (2 : Int32)).toNatClampNeg))) 4 (upd (gIA gP0 4) x1.toNatClampNeg (gIA gT 0 (((gI gT 1) - (2 : Int32)) + (1 : Int32)).toNatClampNeg))) x1 (gIA gT 0 ((gI gT 1) - (2 : Int32)).toNatClampNeg) (gIA gT 0 (((gI gT 1) - (2 : Int32)) + (1 : Int32)).toNatClampNeg) (1 : Int32)) else (b_X8_settleTwo_61 (sI gT 1 ((gI gT 1) - (2 : Int32))) (sIA (sIA gP0 3 (upd (gIA gP0 3) x1.toNatClampNeg (gIA gT 0 ((gI gT 1) - (2 : Int32)).toNatClampNeg))) 4 (upd (gIA gP0 4) x1.toNatClampNeg (gIA gT 0 (((gI gT 1) - (2 : Int32)) + (1 : Int32)).toNatClampNeg))) x1 (gIA gT 0 ((gI gT 1) - (2 : Int32)).toNatClampNeg) (gIA gT 0 (((gI gT 1) - (2 : Int32)) + (1 : Int32)).toNatClampNeg))) else (b_X8_settleTwo_61 (sI gT 1 ((gI gT 1) - (2 : Int32))) (sIA (sIA gP0 3 (upd (gIA gP0 3) x1.toNatClampNeg (gIA gT 0 ((gI gT 1) - (2 : Int32)).toNatClampNeg))) 4 (upd (gIA gP0 4) x1.toNatClampNeg (gIA gT 0 (((gI gT 1) - (2 : Int32)) + (1 : Int32)).toNatClampNeg))) x1 (gIA gT 0 ((gI gT 1) - (2 : Int32)).toNatClampNeg) (gIA gT 0 (((gI gT 1) - (2 : Int32)) + (1 : Int32)).toNatClampNeg))))))
def S_X8_settleTwo_231 (l : Launch) (D : Dx) (hT : Nat) (aT : Nat → Nat) (yT : Nat → ClassId) (hP0 : Nat) (aP0 : Nat → Nat) (yP0 : Nat → ClassId) (fn : Gs → Gs → Int32 → Option (Int32 × Gs × Gs)) : Prop :=
  ∀ {p : Program} {e : Env} {s : State} {m : MethodId} {args : Array Value} {below : List Frame} {meth : Method} {c : Code} {H : Heap} {locs : List Loc} {A : Nat → Prop} {ls : Array Slot} {gT : Gs} {gP0 : Gs} {v6 : Int32} {q : Int32 × Gs × Gs}, Cx p s m args meth c cX8_settleTwo (some .boolean) 7 RX8 lw_all → Hx D (tX8 yT ++ (tX0 yP0)) A s H locs (wX8 hT aT yT gT ++ (wX0 hP0 aP0 yP0 gP0)) → lv_has ls 7 [(0, .ref hT), (6, .int v6)] → fn gT gP0 v6 = some q → W p l e R_X8_settleTwo s m args below meth c H locs 0 0 (MQ below (QI D A (wX8 hT aT yT q.2.1 ++ (wX0 hP0 aP0 yP0 q.2.2)) q.1) args s 0 0 A) (F0 m 231 ls [])
def S_X8_settleTwo_217 (l : Launch) (D : Dx) (hT : Nat) (aT : Nat → Nat) (yT : Nat → ClassId) (hP0 : Nat) (aP0 : Nat → Nat) (yP0 : Nat → ClassId) (fn : Gs → Gs → Option (Int32 × Gs × Gs)) : Prop :=
  ∀ {p : Program} {e : Env} {s : State} {m : MethodId} {args : Array Value} {below : List Frame} {meth : Method} {c : Code} {H : Heap} {locs : List Loc} {A : Nat → Prop} {ls : Array Slot} {gT : Gs} {gP0 : Gs} {q : Int32 × Gs × Gs}, Cx p s m args meth c cX8_settleTwo (some .boolean) 7 RX8 lw_all → Hx D (tX8 yT ++ (tX0 yP0)) A s H locs (wX8 hT aT yT gT ++ (wX0 hP0 aP0 yP0 gP0)) → lv_has ls 7 [(0, .ref hT)] → fn gT gP0 = some q → W p l e R_X8_settleTwo s m args below meth c H locs 0 0 (MQ below (QI D A (wX8 hT aT yT q.2.1 ++ (wX0 hP0 aP0 yP0 q.2.2)) q.1) args s 0 0 A) (F0 m 217 ls [])
def S_X8_settleTwo_207 (l : Launch) (D : Dx) (hT : Nat) (aT : Nat → Nat) (yT : Nat → ClassId) (hP0 : Nat) (aP0 : Nat → Nat) (yP0 : Nat → ClassId) (fn : Gs → Gs → Int32 → Int32 → Option (Int32 × Gs × Gs)) : Prop :=
  ∀ {p : Program} {e : Env} {s : State} {m : MethodId} {args : Array Value} {below : List Frame} {meth : Method} {c : Code} {H : Heap} {locs : List Loc} {A : Nat → Prop} {ls : Array Slot} {gT : Gs} {gP0 : Gs} {v5 : Int32} {v6 : Int32} {q : Int32 × Gs × Gs}, Cx p s m args meth c cX8_settleTwo (some .boolean) 7 RX8 lw_all → Hx D (tX8 yT ++ (tX0 yP0)) A s H locs (wX8 hT aT yT gT ++ (wX0 hP0 aP0 yP0 gP0)) → lv_has ls 7 [(0, .ref hT), (5, .int v5), (6, .int v6)] → fn gT gP0 v5 v6 = some q → W p l e R_X8_settleTwo s m args below meth c H locs 0 0 (MQ below (QI D A (wX8 hT aT yT q.2.1 ++ (wX0 hP0 aP0 yP0 q.2.2)) q.1) args s 0 0 A) (F0 m 207 ls [])
def S_X8_settleTwo_188 (l : Launch) (D : Dx) (hT : Nat) (aT : Nat → Nat) (yT : Nat → ClassId) (hP0 : Nat) (aP0 : Nat → Nat) (yP0 : Nat → ClassId) (fn : Gs → Gs → Int32 → Option (Int32 × Gs × Gs)) : Prop :=
  ∀ {p : Program} {e : Env} {s : State} {m : MethodId} {args : Array Value} {below : List Frame} {meth : Method} {c : Code} {H : Heap} {locs : List Loc} {A : Nat → Prop} {ls : Array Slot} {gT : Gs} {gP0 : Gs} {v5 : Int32} {q : Int32 × Gs × Gs}, Cx p s m args meth c cX8_settleTwo (some .boolean) 7 RX8 lw_all → Hx D (tX8 yT ++ (tX0 yP0)) A s H locs (wX8 hT aT yT gT ++ (wX0 hP0 aP0 yP0 gP0)) → lv_has ls 7 [(0, .ref hT), (5, .int v5)] → fn gT gP0 v5 = some q → W p l e R_X8_settleTwo s m args below meth c H locs 0 0 (MQ below (QI D A (wX8 hT aT yT q.2.1 ++ (wX0 hP0 aP0 yP0 q.2.2)) q.1) args s 0 0 A) (F0 m 188 ls [])
def S_X8_settleTwo_100 (l : Launch) (D : Dx) (hT : Nat) (aT : Nat → Nat) (yT : Nat → ClassId) (hP0 : Nat) (aP0 : Nat → Nat) (yP0 : Nat → ClassId) (fn : Gs → Gs → Int32 → Int32 → Int32 → Int32 → Int32 → Option (Int32 × Gs × Gs)) : Prop :=
  ∀ {p : Program} {e : Env} {s : State} {m : MethodId} {args : Array Value} {below : List Frame} {meth : Method} {c : Code} {H : Heap} {locs : List Loc} {A : Nat → Prop} {ls : Array Slot} {gT : Gs} {gP0 : Gs} {v2 : Int32} {v5 : Int32} {v6 : Int32} {s0 : Int32} {s1 : Int32} {q : Int32 × Gs × Gs}, Cx p s m args meth c cX8_settleTwo (some .boolean) 7 RX8 lw_all → Hx D (tX8 yT ++ (tX0 yP0)) A s H locs (wX8 hT aT yT gT ++ (wX0 hP0 aP0 yP0 gP0)) → lv_has ls 7 [(0, .ref hT), (1, .ref hP0), (2, .int v2), (5, .int v5), (6, .int v6)] → fn gT gP0 v2 v5 v6 s0 s1 = some q → W p l e R_X8_settleTwo s m args below meth c H locs 0 0 (MQ below (QI D A (wX8 hT aT yT q.2.1 ++ (wX0 hP0 aP0 yP0 q.2.2)) q.1) args s 0 0 A) (F0 m 100 ls [.int s0, .int s1, .ref (aP0 2)])
def S_X8_settleTwo_78 (l : Launch) (D : Dx) (hT : Nat) (aT : Nat → Nat) (yT : Nat → ClassId) (hP0 : Nat) (aP0 : Nat → Nat) (yP0 : Nat → ClassId) (fn : Gs → Gs → Int32 → Int32 → Int32 → Int32 → Int32 → Option (Int32 × Gs × Gs)) : Prop :=
  ∀ {p : Program} {e : Env} {s : State} {m : MethodId} {args : Array Value} {below : List Frame} {meth : Method} {c : Code} {H : Heap} {locs : List Loc} {A : Nat → Prop} {ls : Array Slot} {gT : Gs} {gP0 : Gs} {v2 : Int32} {v3 : Int32} {v4 : Int32} {v5 : Int32} {s0 : Int32} {q : Int32 × Gs × Gs}, Cx p s m args meth c cX8_settleTwo (some .boolean) 7 RX8 lw_all → Hx D (tX8 yT ++ (tX0 yP0)) A s H locs (wX8 hT aT yT gT ++ (wX0 hP0 aP0 yP0 gP0)) → lv_has ls 7 [(0, .ref hT), (1, .ref hP0), (2, .int v2), (3, .int v3), (4, .int v4), (5, .int v5)] → fn gT gP0 v2 v3 v4 v5 s0 = some q → W p l e R_X8_settleTwo s m args below meth c H locs 0 0 (MQ below (QI D A (wX8 hT aT yT q.2.1 ++ (wX0 hP0 aP0 yP0 q.2.2)) q.1) args s 0 0 A) (F0 m 78 ls [.int s0])
def S_X8_settleTwo_77 (l : Launch) (D : Dx) (hT : Nat) (aT : Nat → Nat) (yT : Nat → ClassId) (hP0 : Nat) (aP0 : Nat → Nat) (yP0 : Nat → ClassId) (fn : Gs → Gs → Int32 → Int32 → Int32 → Int32 → Option (Int32 × Gs × Gs)) : Prop :=
  ∀ {p : Program} {e : Env} {s : State} {m : MethodId} {args : Array Value} {below : List Frame} {meth : Method} {c : Code} {H : Heap} {locs : List Loc} {A : Nat → Prop} {ls : Array Slot} {gT : Gs} {gP0 : Gs} {v2 : Int32} {v3 : Int32} {v4 : Int32} {v5 : Int32} {q : Int32 × Gs × Gs}, Cx p s m args meth c cX8_settleTwo (some .boolean) 7 RX8 lw_all → Hx D (tX8 yT ++ (tX0 yP0)) A s H locs (wX8 hT aT yT gT ++ (wX0 hP0 aP0 yP0 gP0)) → lv_has ls 7 [(0, .ref hT), (1, .ref hP0), (2, .int v2), (3, .int v3), (4, .int v4), (5, .int v5)] → fn gT gP0 v2 v3 v4 v5 = some q → W p l e R_X8_settleTwo s m args below meth c H locs 0 0 (MQ below (QI D A (wX8 hT aT yT q.2.1 ++ (wX0 hP0 aP0 yP0 q.2.2)) q.1) args s 0 0 A) (F0 m 77 ls [])
def S_X8_settleTwo_62 (l : Launch) (D : Dx) (hT : Nat) (aT : Nat → Nat) (yT : Nat → ClassId) (hP0 : Nat) (aP0 : Nat → Nat) (yP0 : Nat → ClassId) (fn : Gs → Gs → Int32 → Int32 → Int32 → Int32 → Option (Int32 × Gs × Gs)) : Prop :=
  ∀ {p : Program} {e : Env} {s : State} {m : MethodId} {args : Array Value} {below : List Frame} {meth : Method} {c : Code} {H : Heap} {locs : List Loc} {A : Nat → Prop} {ls : Array Slot} {gT : Gs} {gP0 : Gs} {v2 : Int32} {v3 : Int32} {v4 : Int32} {s0 : Int32} {q : Int32 × Gs × Gs}, Cx p s m args meth c cX8_settleTwo (some .boolean) 7 RX8 lw_all → Hx D (tX8 yT ++ (tX0 yP0)) A s H locs (wX8 hT aT yT gT ++ (wX0 hP0 aP0 yP0 gP0)) → lv_has ls 7 [(0, .ref hT), (1, .ref hP0), (2, .int v2), (3, .int v3), (4, .int v4)] → fn gT gP0 v2 v3 v4 s0 = some q → W p l e R_X8_settleTwo s m args below meth c H locs 0 0 (MQ below (QI D A (wX8 hT aT yT q.2.1 ++ (wX0 hP0 aP0 yP0 q.2.2)) q.1) args s 0 0 A) (F0 m 62 ls [.int s0])
def S_X8_settleTwo_61 (l : Launch) (D : Dx) (hT : Nat) (aT : Nat → Nat) (yT : Nat → ClassId) (hP0 : Nat) (aP0 : Nat → Nat) (yP0 : Nat → ClassId) (fn : Gs → Gs → Int32 → Int32 → Int32 → Option (Int32 × Gs × Gs)) : Prop :=
  ∀ {p : Program} {e : Env} {s : State} {m : MethodId} {args : Array Value} {below : List Frame} {meth : Method} {c : Code} {H : Heap} {locs : List Loc} {A : Nat → Prop} {ls : Array Slot} {gT : Gs} {gP0 : Gs} {v2 : Int32} {v3 : Int32} {v4 : Int32} {q : Int32 × Gs × Gs}, Cx p s m args meth c cX8_settleTwo (some .boolean) 7 RX8 lw_all → Hx D (tX8 yT ++ (tX0 yP0)) A s H locs (wX8 hT aT yT gT ++ (wX0 hP0 aP0 yP0 gP0)) → lv_has ls 7 [(0, .ref hT), (1, .ref hP0), (2, .int v2), (3, .int v3), (4, .int v4)] → fn gT gP0 v2 v3 v4 = some q → W p l e R_X8_settleTwo s m args below meth c H locs 0 0 (MQ below (QI D A (wX8 hT aT yT q.2.1 ++ (wX0 hP0 aP0 yP0 q.2.2)) q.1) args s 0 0 A) (F0 m 61 ls [])
set_option maxHeartbeats 4000000 in
set_option maxRecDepth 100000 in
theorem k_X8_settleTwo_231 (l : Launch) (D : Dx) (hT : Nat) (aT : Nat → Nat) (yT : Nat → ClassId) (hP0 : Nat) (aP0 : Nat → Nat) (yP0 : Nat → ClassId) : S_X8_settleTwo_231 l D hT aT yT hP0 aP0 yP0 (b_X8_settleTwo_231) := by
  intro p e s m args below meth c H locs A ls gT gP0 v6 q C X hl hF
  obtain ⟨hx, hb, hr, hml, hown, hts, hlk⟩ := id C
  unfold b_X8_settleTwo_231 at hF
  refine lv_iload hx hb dX8_settleTwo_231 (lv_at hl 1 rfl) ?_
  refine lv_if_eq (tgt := 248) hx hb dX8_settleTwo_233 (by decide) (fun c => ?_) (fun c => ?_)
  · replace hF := iT c hF
    refine lv_iconst (v := (0 : Int32)) hx hb dX8_settleTwo_248 (by decide) ?_
    have hq := Option.some.inj hF
    subst hq
    exact rt_z (v := (0 : Int32)) C X (by decide) dX8_settleTwo_249
  · replace hF := iF c hF
    refine lv_aload_n hx hb dX8_settleTwo_236 rfl (lv_at hl 0 rfl) ?_
    refine lv_iconst (v := (0 : Int32)) hx hb dX8_settleTwo_237 (by decide) ?_
    obtain ⟨q_12, hc_13, hF⟩ := bnd_some hF
    refine cV_i (As := [.int (0 : Int32)]) (rest := []) C X (c_X8_give l D hT aT yT gT (0 : Int32) q_12 hc_13 _) (cwV 1 hts (good_V q4_228 q4_230 q0_43 q1_11 q4_231) rfl rfl rfl (by decide +kernel) ⟨Nat.le_of_ble_eq_true rfl, Nat.le_of_ble_eq_true rfl⟩) (va_recv X.1 X.2.1 (ci := 8) (q0 := 0) rfl rfl) (X.1.sub (tys' := tX8 yT) [0] rfl) (X.2.1.sub (ws' := wX8 hT aT yT gT) [0, 1] rfl) (X.2.2.1.sub (ws' := wX8 hT aT yT gT) [0, 1] (by decide) rfl) (free_of (wC := wX8 hT aT yT gT) (isC := [0, 1]) X rfl) hl.1 rfl rfl (Nat.le_of_ble_eq_true rfl) dX8_settleTwo_238 ⟨Nat.le_of_ble_eq_true rfl, Nat.le_of_ble_eq_true rfl⟩ (fun t H1 locs1 ht hB hk hS => ?_)
    have X : Hx D (tX8 yT ++ (tX0 yP0)) A s H1 locs1 (wX8 hT aT yT q_12.2 ++ (wX0 hP0 aP0 yP0 gP0)) := Hx_after (isC := [0, 1]) (isR := [2, 3, 4, 5, 6, 7, 8, 9, 10, 11, 12, 13, 14, 15, 16, 17]) (pm := [16, 17, 0, 1, 2, 3, 4, 5, 6, 7, 8, 9, 10, 11, 12, 13, 14, 15]) (wr := wX0 hP0 aP0 yP0 gP0) X ⟨rfl, rfl, by decide, by decide, rfl, by decide⟩ ht hB hk hS
    clear hk hS ht hB
    generalize H1 = H at X ⊢
    generalize locs1 = locs at X ⊢
    refine lv_if_eq (tgt := 248) hx hb dX8_settleTwo_241 (by decide) (fun c => ?_) (fun c => ?_)
    · replace hF := iT c hF
      refine lv_iconst (v := (0 : Int32)) hx hb dX8_settleTwo_248 (by decide) ?_
      have hq := Option.some.inj hF
      subst hq
      exact rt_z (v := (0 : Int32)) C X (by decide) dX8_settleTwo_249
    · replace hF := iF c hF
      refine lv_iconst (v := (1 : Int32)) hx hb dX8_settleTwo_244 (by decide) ?_
      refine lv_goto (tgt := 249) hx hb dX8_settleTwo_245 (by decide) ?_
      have hq := Option.some.inj hF
      subst hq
      exact rt_z (v := (1 : Int32)) C X (by decide) dX8_settleTwo_249
set_option maxHeartbeats 4000000 in
set_option maxRecDepth 100000 in
theorem k_X8_settleTwo_217 (l : Launch) (D : Dx) (hT : Nat) (aT : Nat → Nat) (yT : Nat → ClassId) (hP0 : Nat) (aP0 : Nat → Nat) (yP0 : Nat → ClassId) : S_X8_settleTwo_217 l D hT aT yT hP0 aP0 yP0 (b_X8_settleTwo_217) := by
  intro p e s m args below meth c H locs A ls gT gP0 q C X hl hF
  obtain ⟨hx, hb, hr, hml, hown, hts, hlk⟩ := id C
  unfold b_X8_settleTwo_217 at hF
  refine lv_aload_n hx hb dX8_settleTwo_217 rfl (lv_at hl 0 rfl) ?_
  refine lv_iconst (v := (0 : Int32)) hx hb dX8_settleTwo_218 (by decide) ?_
  obtain ⟨q_14, hc_15, hF⟩ := bnd_some hF
  refine cV_i (As := [.int (0 : Int32)]) (rest := []) C X (c_X8_give l D hT aT yT gT (0 : Int32) q_14 hc_15 _) (cwV 1 hts (good_V q4_228 q4_230 q0_43 q1_11 q4_231) rfl rfl rfl (by decide +kernel) ⟨Nat.le_of_ble_eq_true rfl, Nat.le_of_ble_eq_true rfl⟩) (va_recv X.1 X.2.1 (ci := 8) (q0 := 0) rfl rfl) (X.1.sub (tys' := tX8 yT) [0] rfl) (X.2.1.sub (ws' := wX8 hT aT yT gT) [0, 1] rfl) (X.2.2.1.sub (ws' := wX8 hT aT yT gT) [0, 1] (by decide) rfl) (free_of (wC := wX8 hT aT yT gT) (isC := [0, 1]) X rfl) hl.1 rfl rfl (Nat.le_of_ble_eq_true rfl) dX8_settleTwo_219 ⟨Nat.le_of_ble_eq_true rfl, Nat.le_of_ble_eq_true rfl⟩ (fun t H1 locs1 ht hB hk hS => ?_)
  have X : Hx D (tX8 yT ++ (tX0 yP0)) A s H1 locs1 (wX8 hT aT yT q_14.2 ++ (wX0 hP0 aP0 yP0 gP0)) := Hx_after (isC := [0, 1]) (isR := [2, 3, 4, 5, 6, 7, 8, 9, 10, 11, 12, 13, 14, 15, 16, 17]) (pm := [16, 17, 0, 1, 2, 3, 4, 5, 6, 7, 8, 9, 10, 11, 12, 13, 14, 15]) (wr := wX0 hP0 aP0 yP0 gP0) X ⟨rfl, rfl, by decide, by decide, rfl, by decide⟩ ht hB hk hS
  clear hk hS ht hB
  generalize H1 = H at X ⊢
  generalize locs1 = locs at X ⊢
  refine lv_if_eq (tgt := 229) hx hb dX8_settleTwo_222 (by decide) (fun c => ?_) (fun c => ?_)
  · replace hF := iT c hF
    refine lv_iconst (v := (0 : Int32)) hx hb dX8_settleTwo_229 (by decide) ?_
    have hq := Option.some.inj hF
    subst hq
    exact rt_z (v := (0 : Int32)) C X (by decide) dX8_settleTwo_230
  · replace hF := iF c hF
    refine lv_iconst (v := (1 : Int32)) hx hb dX8_settleTwo_225 (by decide) ?_
    refine lv_goto (tgt := 230) hx hb dX8_settleTwo_226 (by decide) ?_
    have hq := Option.some.inj hF
    subst hq
    exact rt_z (v := (1 : Int32)) C X (by decide) dX8_settleTwo_230
set_option maxHeartbeats 4000000 in
set_option maxRecDepth 100000 in
theorem k_X8_settleTwo_207 (l : Launch) (D : Dx) (hT : Nat) (aT : Nat → Nat) (yT : Nat → ClassId) (hP0 : Nat) (aP0 : Nat → Nat) (yP0 : Nat → ClassId) : S_X8_settleTwo_207 l D hT aT yT hP0 aP0 yP0 (b_X8_settleTwo_207) := by
  intro p e s m args below meth c H locs A ls gT gP0 v5 v6 q C X hl hF
  obtain ⟨hx, hb, hr, hml, hown, hts, hlk⟩ := id C
  unfold b_X8_settleTwo_207 at hF
  refine lv_iload hx hb dX8_settleTwo_207 (lv_at hl 1 rfl) ?_
  refine lv_if_ne (tgt := 217) hx hb dX8_settleTwo_209 (by decide) (fun c => ?_) (fun c => ?_)
  · replace hF := iF c hF
    exact (k_X8_settleTwo_217 l D hT aT yT hP0 aP0 yP0) C X (lv_sub hl [0] rfl) hF
  · replace hF := iT c hF
    refine lv_iload hx hb dX8_settleTwo_212 (lv_at hl 2 rfl) ?_
    refine lv_if_eq (tgt := 229) hx hb dX8_settleTwo_214 (by decide) (fun c => ?_) (fun c => ?_)
    · replace hF := iT c hF
      refine lv_iconst (v := (0 : Int32)) hx hb dX8_settleTwo_229 (by decide) ?_
      have hq := Option.some.inj hF
      subst hq
      exact rt_z (v := (0 : Int32)) C X (by decide) dX8_settleTwo_230
    · replace hF := iF c hF
      exact (k_X8_settleTwo_217 l D hT aT yT hP0 aP0 yP0) C X (lv_sub hl [0] rfl) hF
set_option maxHeartbeats 4000000 in
set_option maxRecDepth 100000 in
theorem k_X8_settleTwo_188 (l : Launch) (D : Dx) (hT : Nat) (aT : Nat → Nat) (yT : Nat → ClassId) (hP0 : Nat) (aP0 : Nat → Nat) (yP0 : Nat → ClassId) : S_X8_settleTwo_188 l D hT aT yT hP0 aP0 yP0 (b_X8_settleTwo_188) := by
  intro p e s m args below meth c H locs A ls gT gP0 v5 q C X hl hF
  obtain ⟨hx, hb, hr, hml, hown, hts, hlk⟩ := id C
  unfold b_X8_settleTwo_188 at hF
  refine lv_iload hx hb dX8_settleTwo_188 (lv_at hl 1 rfl) ?_
  refine lv_if_eq (tgt := 205) hx hb dX8_settleTwo_190 (by decide) (fun c => ?_) (fun c => ?_)
  · replace hF := iT c hF
    refine lv_iconst (v := (0 : Int32)) hx hb dX8_settleTwo_205 (by decide) ?_
    have hq := Option.some.inj hF
    subst hq
    exact rt_z (v := (0 : Int32)) C X (by decide) dX8_settleTwo_206
  · replace hF := iF c hF
    refine lv_aload_n hx hb dX8_settleTwo_193 rfl (lv_at hl 0 rfl) ?_
    refine lv_iconst (v := (0 : Int32)) hx hb dX8_settleTwo_194 (by decide) ?_
    obtain ⟨q_16, hc_17, hF⟩ := bnd_some hF
    refine cV_i (As := [.int (0 : Int32)]) (rest := []) C X (c_X8_give l D hT aT yT gT (0 : Int32) q_16 hc_17 _) (cwV 1 hts (good_V q4_228 q4_230 q0_43 q1_11 q4_231) rfl rfl rfl (by decide +kernel) ⟨Nat.le_of_ble_eq_true rfl, Nat.le_of_ble_eq_true rfl⟩) (va_recv X.1 X.2.1 (ci := 8) (q0 := 0) rfl rfl) (X.1.sub (tys' := tX8 yT) [0] rfl) (X.2.1.sub (ws' := wX8 hT aT yT gT) [0, 1] rfl) (X.2.2.1.sub (ws' := wX8 hT aT yT gT) [0, 1] (by decide) rfl) (free_of (wC := wX8 hT aT yT gT) (isC := [0, 1]) X rfl) hl.1 rfl rfl (Nat.le_of_ble_eq_true rfl) dX8_settleTwo_195 ⟨Nat.le_of_ble_eq_true rfl, Nat.le_of_ble_eq_true rfl⟩ (fun t H1 locs1 ht hB hk hS => ?_)
    have X : Hx D (tX8 yT ++ (tX0 yP0)) A s H1 locs1 (wX8 hT aT yT q_16.2 ++ (wX0 hP0 aP0 yP0 gP0)) := Hx_after (isC := [0, 1]) (isR := [2, 3, 4, 5, 6, 7, 8, 9, 10, 11, 12, 13, 14, 15, 16, 17]) (pm := [16, 17, 0, 1, 2, 3, 4, 5, 6, 7, 8, 9, 10, 11, 12, 13, 14, 15]) (wr := wX0 hP0 aP0 yP0 gP0) X ⟨rfl, rfl, by decide, by decide, rfl, by decide⟩ ht hB hk hS
    clear hk hS ht hB
    generalize H1 = H at X ⊢
    generalize locs1 = locs at X ⊢
    refine lv_if_eq (tgt := 205) hx hb dX8_settleTwo_198 (by decide) (fun c => ?_) (fun c => ?_)
    · replace hF := iT c hF
      refine lv_iconst (v := (0 : Int32)) hx hb dX8_settleTwo_205 (by decide) ?_
      have hq := Option.some.inj hF
      subst hq
      exact rt_z (v := (0 : Int32)) C X (by decide) dX8_settleTwo_206
    · replace hF := iF c hF
      refine lv_iconst (v := (1 : Int32)) hx hb dX8_settleTwo_201 (by decide) ?_
      refine lv_goto (tgt := 206) hx hb dX8_settleTwo_202 (by decide) ?_
      have hq := Option.some.inj hF
      subst hq
      exact rt_z (v := (1 : Int32)) C X (by decide) dX8_settleTwo_206
set_option maxHeartbeats 4000000 in
set_option maxRecDepth 100000 in
theorem k_X8_settleTwo_100 (l : Launch) (D : Dx) (hT : Nat) (aT : Nat → Nat) (yT : Nat → ClassId) (hP0 : Nat) (aP0 : Nat → Nat) (yP0 : Nat → ClassId) : S_X8_settleTwo_100 l D hT aT yT hP0 aP0 yP0 (b_X8_settleTwo_100) := by
  intro p e s m args below meth c H locs A ls gT gP0 v2 v5 v6 s0 s1 q C X hl hF
  obtain ⟨hx, hb, hr, hml, hown, hts, hlk⟩ := id C
  unfold b_X8_settleTwo_100 at hF
  obtain ⟨h_7, hF⟩ := grd_some hF
  refine va_iast (D := D.1) (f := gIA gP0 2) hx hb X.1 X.2.1 X.2.2.1 X.2.2.2.1 5 3 rfl rfl (inB_ok h_7) dX8_settleTwo_100 (fun H locs hP hD hS => ?_)
  have X : Hx D (tX8 yT ++ (tX0 yP0)) A s H locs (wX8 hT aT yT gT ++ (wX0 hP0 aP0 yP0 (sIA gP0 2 (upd (gIA gP0 2) s1.toNatClampNeg s0)))) := Hx_set X (set_r (n := 2) (i := 3) (j := 5) (wG_len rfl) rfl (wG_sIA (i := 2) (k := 2) ndX0 rfl rfl)) hP hD hS
  refine lv_aload_n hx hb dX8_settleTwo_101 rfl (lv_at hl 1 rfl) ?_
  refine va_getN (D := D.1) (ci := 0) (v := .ref (aP0 0)) (C := RX0) (T := TX0) (N := 19) hx hb hts wi_X0 hown X.1 X.2.1 2 rfl rfl 0 (by decide) (X.2.2.2.2.2.1.use q1_208 rfl) (fun _ h9 => h9) (fl_get (by decide)) dX8_settleTwo_102 ?_
  refine lv_iload_n hx hb dX8_settleTwo_105 rfl (lv_at hl 2 rfl) ?_
  obtain ⟨h_8, hF⟩ := grd_some hF
  refine va_iald (D := D.1) (f := gIA gP0 0) hx hb X.1 X.2.1 3 1 rfl rfl (inB_ok h_8) dX8_settleTwo_106 ?_
  by_cases c25 : (gIA gP0 0 v2.toNatClampNeg) = (25 : Int32)
  · replace hF := iT c25 hF
    refine lv_lookup (tgt := 250) (off := 143) hx hb dX8_settleTwo_107 (by decide) (by rw [c25]; rfl) (by decide) ?_
    refine lv_aload_n hx hb dX8_settleTwo_250 rfl (lv_at hl 1 rfl) ?_
    refine va_getN (D := D.1) (ci := 0) (v := .ref (aP0 2)) (C := RX0) (T := TX0) (N := 19) hx hb hts wi_X0 hown X.1 X.2.1 2 rfl rfl 2 (by decide) (X.2.2.2.2.2.1.use q1_215 rfl) (fun _ h9 => h9) (fl_get (by decide)) dX8_settleTwo_251 ?_
    refine lv_iload_n hx hb dX8_settleTwo_254 rfl (lv_at hl 2 rfl) ?_
    refine lv_bipush (v := (7 : Int32)) hx hb dX8_settleTwo_255 (by decide) ?_
    obtain ⟨h_9, hF⟩ := grd_some hF
    refine va_iast (D := D.1) (f := upd (gIA gP0 2) s1.toNatClampNeg s0) hx hb X.1 X.2.1 X.2.2.1 X.2.2.2.1 5 3 rfl rfl (inB_ok h_9) dX8_settleTwo_257 (fun H locs hP hD hS => ?_)
    have X : Hx D (tX8 yT ++ (tX0 yP0)) A s H locs (wX8 hT aT yT gT ++ (wX0 hP0 aP0 yP0 (sIA (sIA gP0 2 (upd (gIA gP0 2) s1.toNatClampNeg s0)) 2 (upd (upd (gIA gP0 2) s1.toNatClampNeg s0) v2.toNatClampNeg (7 : Int32))))) := Hx_set X (set_r (n := 2) (i := 3) (j := 5) (wG_len rfl) rfl (wG_sIA (i := 2) (k := 2) ndX0 rfl rfl)) hP hD hS
    refine lv_iload hx hb dX8_settleTwo_258 (lv_at hl 4 rfl) ?_
    refine lv_if_eq (tgt := 276) hx hb dX8_settleTwo_260 (by decide) (fun c => ?_) (fun c => ?_)
    · replace hF := iT c hF
      refine lv_iconst (v := (0 : Int32)) hx hb dX8_settleTwo_276 (by decide) ?_
      have hq := Option.some.inj hF
      subst hq
      exact rt_z (v := (0 : Int32)) C X (by decide) dX8_settleTwo_277
    · replace hF := iF c hF
      refine lv_aload_n hx hb dX8_settleTwo_263 rfl (lv_at hl 0 rfl) ?_
      refine lv_bipush (v := (7 : Int32)) hx hb dX8_settleTwo_264 (by decide) ?_
      obtain ⟨q_10, hc_11, hF⟩ := bnd_some hF
      refine cV_i (As := [.int (7 : Int32)]) (rest := []) C X (c_X8_give l D hT aT yT gT (7 : Int32) q_10 hc_11 _) (cwV 1 hts (good_V q4_228 q4_230 q0_43 q1_11 q4_231) rfl rfl rfl (by decide +kernel) ⟨Nat.le_of_ble_eq_true rfl, Nat.le_of_ble_eq_true rfl⟩) (va_recv X.1 X.2.1 (ci := 8) (q0 := 0) rfl rfl) (X.1.sub (tys' := tX8 yT) [0] rfl) (X.2.1.sub (ws' := wX8 hT aT yT gT) [0, 1] rfl) (X.2.2.1.sub (ws' := wX8 hT aT yT gT) [0, 1] (by decide) rfl) (free_of (wC := wX8 hT aT yT gT) (isC := [0, 1]) X rfl) hl.1 rfl rfl (Nat.le_of_ble_eq_true rfl) dX8_settleTwo_266 ⟨Nat.le_of_ble_eq_true rfl, Nat.le_of_ble_eq_true rfl⟩ (fun t H1 locs1 ht hB hk hS => ?_)
      have X : Hx D (tX8 yT ++ (tX0 yP0)) A s H1 locs1 (wX8 hT aT yT q_10.2 ++ (wX0 hP0 aP0 yP0 (sIA (sIA gP0 2 (upd (gIA gP0 2) s1.toNatClampNeg s0)) 2 (upd (upd (gIA gP0 2) s1.toNatClampNeg s0) v2.toNatClampNeg (7 : Int32))))) := Hx_after (isC := [0, 1]) (isR := [2, 3, 4, 5, 6, 7, 8, 9, 10, 11, 12, 13, 14, 15, 16, 17]) (pm := [16, 17, 0, 1, 2, 3, 4, 5, 6, 7, 8, 9, 10, 11, 12, 13, 14, 15]) (wr := wX0 hP0 aP0 yP0 (sIA (sIA gP0 2 (upd (gIA gP0 2) s1.toNatClampNeg s0)) 2 (upd (upd (gIA gP0 2) s1.toNatClampNeg s0) v2.toNatClampNeg (7 : Int32)))) X ⟨rfl, rfl, by decide, by decide, rfl, by decide⟩ ht hB hk hS
      clear hk hS ht hB
      generalize H1 = H at X ⊢
      generalize locs1 = locs at X ⊢
      refine lv_if_eq (tgt := 276) hx hb dX8_settleTwo_269 (by decide) (fun c => ?_) (fun c => ?_)
      · replace hF := iT c hF
        refine lv_iconst (v := (0 : Int32)) hx hb dX8_settleTwo_276 (by decide) ?_
        have hq := Option.some.inj hF
        subst hq
        exact rt_z (v := (0 : Int32)) C X (by decide) dX8_settleTwo_277
      · replace hF := iF c hF
        refine lv_iconst (v := (1 : Int32)) hx hb dX8_settleTwo_272 (by decide) ?_
        refine lv_goto (tgt := 277) hx hb dX8_settleTwo_273 (by decide) ?_
        have hq := Option.some.inj hF
        subst hq
        exact rt_z (v := (1 : Int32)) C X (by decide) dX8_settleTwo_277
  · replace hF := iF c25 hF
    by_cases c55 : (gIA gP0 0 v2.toNatClampNeg) = (55 : Int32)
    · replace hF := iT c55 hF
      refine lv_lookup (tgt := 231) (off := 124) hx hb dX8_settleTwo_107 (by decide) (by rw [c55]; rfl) (by decide) ?_
      exact (k_X8_settleTwo_231 l D hT aT yT hP0 aP0 yP0) C X (lv_sub hl [0, 4] rfl) hF
    · replace hF := iF c55 hF
      by_cases c56 : (gIA gP0 0 v2.toNatClampNeg) = (56 : Int32)
      · replace hF := iT c56 hF
        refine lv_lookup (tgt := 231) (off := 124) hx hb dX8_settleTwo_107 (by decide) (by rw [c56]; rfl) (by decide) ?_
        exact (k_X8_settleTwo_231 l D hT aT yT hP0 aP0 yP0) C X (lv_sub hl [0, 4] rfl) hF
      · replace hF := iF c56 hF
        by_cases c57 : (gIA gP0 0 v2.toNatClampNeg) = (57 : Int32)
        · replace hF := iT c57 hF
          refine lv_lookup (tgt := 231) (off := 124) hx hb dX8_settleTwo_107 (by decide) (by rw [c57]; rfl) (by decide) ?_
          exact (k_X8_settleTwo_231 l D hT aT yT hP0 aP0 yP0) C X (lv_sub hl [0, 4] rfl) hF
        · replace hF := iF c57 hF
          by_cases c58 : (gIA gP0 0 v2.toNatClampNeg) = (58 : Int32)
          · replace hF := iT c58 hF
            refine lv_lookup (tgt := 231) (off := 124) hx hb dX8_settleTwo_107 (by decide) (by rw [c58]; rfl) (by decide) ?_
            exact (k_X8_settleTwo_231 l D hT aT yT hP0 aP0 yP0) C X (lv_sub hl [0, 4] rfl) hF
          · replace hF := iF c58 hF
            by_cases c59 : (gIA gP0 0 v2.toNatClampNeg) = (59 : Int32)
            · replace hF := iT c59 hF
              refine lv_lookup (tgt := 207) (off := 100) hx hb dX8_settleTwo_107 (by decide) (by rw [c59]; rfl) (by decide) ?_
              exact (k_X8_settleTwo_207 l D hT aT yT hP0 aP0 yP0) C X (lv_sub hl [0, 3, 4] rfl) hF
            · replace hF := iF c59 hF
              by_cases c60 : (gIA gP0 0 v2.toNatClampNeg) = (60 : Int32)
              · replace hF := iT c60 hF
                refine lv_lookup (tgt := 207) (off := 100) hx hb dX8_settleTwo_107 (by decide) (by rw [c60]; rfl) (by decide) ?_
                exact (k_X8_settleTwo_207 l D hT aT yT hP0 aP0 yP0) C X (lv_sub hl [0, 3, 4] rfl) hF
              · replace hF := iF c60 hF
                by_cases c61 : (gIA gP0 0 v2.toNatClampNeg) = (61 : Int32)
                · replace hF := iT c61 hF
                  refine lv_lookup (tgt := 188) (off := 81) hx hb dX8_settleTwo_107 (by decide) (by rw [c61]; rfl) (by decide) ?_
                  exact (k_X8_settleTwo_188 l D hT aT yT hP0 aP0 yP0) C X (lv_sub hl [0, 3] rfl) hF
                · replace hF := iF c61 hF
                  by_cases c62 : (gIA gP0 0 v2.toNatClampNeg) = (62 : Int32)
                  · replace hF := iT c62 hF
                    refine lv_lookup (tgt := 188) (off := 81) hx hb dX8_settleTwo_107 (by decide) (by rw [c62]; rfl) (by decide) ?_
                    exact (k_X8_settleTwo_188 l D hT aT yT hP0 aP0 yP0) C X (lv_sub hl [0, 3] rfl) hF
                  · replace hF := iF c62 hF
                    refine lv_lookup (tgt := 278) (off := 171) hx hb dX8_settleTwo_107 (by decide) (lkc (tneS c25 (by decide)) (lkc (tneS c55 (by decide)) (lkc (tneS c56 (by decide)) (lkc (tneS c57 (by decide)) (lkc (tneS c58 (by decide)) (lkc (tneS c59 (by decide)) (lkc (tneS c60 (by decide)) (lkc (tneS c61 (by decide)) (lkc (tneS c62 (by decide)) lkn))))))))) (by decide) ?_
                    refine lv_iload hx hb dX8_settleTwo_278 (lv_at hl 4 rfl) ?_
                    refine lv_if_eq (tgt := 300) hx hb dX8_settleTwo_280 (by decide) (fun c => ?_) (fun c => ?_)
                    · replace hF := iT c hF
                      refine lv_iconst (v := (0 : Int32)) hx hb dX8_settleTwo_300 (by decide) ?_
                      have hq := Option.some.inj hF
                      subst hq
                      exact rt_z (v := (0 : Int32)) C X (by decide) dX8_settleTwo_301
                    · replace hF := iF c hF
                      refine lv_aload_n hx hb dX8_settleTwo_283 rfl (lv_at hl 0 rfl) ?_
                      refine lv_aload_n hx hb dX8_settleTwo_284 rfl (lv_at hl 1 rfl) ?_
                      refine va_getN (D := D.1) (ci := 0) (v := .ref (aP0 2)) (C := RX0) (T := TX0) (N := 19) hx hb hts wi_X0 hown X.1 X.2.1 2 rfl rfl 2 (by decide) (X.2.2.2.2.2.1.use q1_215 rfl) (fun _ h9 => h9) (fl_get (by decide)) dX8_settleTwo_285 ?_
                      refine lv_iload_n hx hb dX8_settleTwo_288 rfl (lv_at hl 2 rfl) ?_
                      obtain ⟨h_18, hF⟩ := grd_some hF
                      refine va_iald (D := D.1) (f := upd (gIA gP0 2) s1.toNatClampNeg s0) hx hb X.1 X.2.1 5 3 rfl rfl (inB_ok h_18) dX8_settleTwo_289 ?_
                      obtain ⟨q_19, hc_20, hF⟩ := bnd_some hF
                      refine cV_i (As := [.int ((upd (gIA gP0 2) s1.toNatClampNeg s0) v2.toNatClampNeg)]) (rest := []) C X (c_X8_give l D hT aT yT gT ((upd (gIA gP0 2) s1.toNatClampNeg s0) v2.toNatClampNeg) q_19 hc_20 _) (cwV 1 hts (good_V q4_228 q4_230 q0_43 q1_11 q4_231) rfl rfl rfl (by decide +kernel) ⟨Nat.le_of_ble_eq_true rfl, Nat.le_of_ble_eq_true rfl⟩) (va_recv X.1 X.2.1 (ci := 8) (q0 := 0) rfl rfl) (X.1.sub (tys' := tX8 yT) [0] rfl) (X.2.1.sub (ws' := wX8 hT aT yT gT) [0, 1] rfl) (X.2.2.1.sub (ws' := wX8 hT aT yT gT) [0, 1] (by decide) rfl) (free_of (wC := wX8 hT aT yT gT) (isC := [0, 1]) X rfl) hl.1 rfl rfl (Nat.le_of_ble_eq_true rfl) dX8_settleTwo_290 ⟨Nat.le_of_ble_eq_true rfl, Nat.le_of_ble_eq_true rfl⟩ (fun t H1 locs1 ht hB hk hS => ?_)
                      have X : Hx D (tX8 yT ++ (tX0 yP0)) A s H1 locs1 (wX8 hT aT yT q_19.2 ++ (wX0 hP0 aP0 yP0 (sIA gP0 2 (upd (gIA gP0 2) s1.toNatClampNeg s0)))) := Hx_after (isC := [0, 1]) (isR := [2, 3, 4, 5, 6, 7, 8, 9, 10, 11, 12, 13, 14, 15, 16, 17]) (pm := [16, 17, 0, 1, 2, 3, 4, 5, 6, 7, 8, 9, 10, 11, 12, 13, 14, 15]) (wr := wX0 hP0 aP0 yP0 (sIA gP0 2 (upd (gIA gP0 2) s1.toNatClampNeg s0))) X ⟨rfl, rfl, by decide, by decide, rfl, by decide⟩ ht hB hk hS
                      clear hk hS ht hB
                      generalize H1 = H at X ⊢
                      generalize locs1 = locs at X ⊢
                      refine lv_if_eq (tgt := 300) hx hb dX8_settleTwo_293 (by decide) (fun c => ?_) (fun c => ?_)
                      · replace hF := iT c hF
                        refine lv_iconst (v := (0 : Int32)) hx hb dX8_settleTwo_300 (by decide) ?_
                        have hq := Option.some.inj hF
                        subst hq
                        exact rt_z (v := (0 : Int32)) C X (by decide) dX8_settleTwo_301
                      · replace hF := iF c hF
                        refine lv_iconst (v := (1 : Int32)) hx hb dX8_settleTwo_296 (by decide) ?_
                        refine lv_goto (tgt := 301) hx hb dX8_settleTwo_297 (by decide) ?_
                        have hq := Option.some.inj hF
                        subst hq
                        exact rt_z (v := (1 : Int32)) C X (by decide) dX8_settleTwo_301
set_option maxHeartbeats 4000000 in
set_option maxRecDepth 100000 in
theorem k_X8_settleTwo_78 (l : Launch) (D : Dx) (hT : Nat) (aT : Nat → Nat) (yT : Nat → ClassId) (hP0 : Nat) (aP0 : Nat → Nat) (yP0 : Nat → ClassId) : S_X8_settleTwo_78 l D hT aT yT hP0 aP0 yP0 (b_X8_settleTwo_78) := by
  intro p e s m args below meth c H locs A ls gT gP0 v2 v3 v4 v5 s0 q C X hl hF
  obtain ⟨hx, hb, hr, hml, hown, hts, hlk⟩ := id C
  unfold b_X8_settleTwo_78 at hF
  refine lv_istore (lv' := [(6, .int s0), (0, .ref hT), (1, .ref hP0), (2, .int v2), (3, .int v3), (4, .int v4), (5, .int v5)]) hx hb dX8_settleTwo_78 hl (by decide) rfl (fun ls hl => ?_)
  refine lv_aload_n hx hb dX8_settleTwo_80 rfl (lv_at hl 2 rfl) ?_
  refine va_getN (D := D.1) (ci := 0) (v := .ref (aP0 2)) (C := RX0) (T := TX0) (N := 19) hx hb hts wi_X0 hown X.1 X.2.1 2 rfl rfl 2 (by decide) (X.2.2.2.2.2.1.use q1_215 rfl) (fun _ h9 => h9) (fl_get (by decide)) dX8_settleTwo_81 ?_
  refine lv_iload_n hx hb dX8_settleTwo_84 rfl (lv_at hl 3 rfl) ?_
  refine lv_iload hx hb dX8_settleTwo_85 (lv_at hl 6 rfl) ?_
  refine lv_if_eq (tgt := 94) hx hb dX8_settleTwo_87 (by decide) (fun c => ?_) (fun c => ?_)
  · replace hF := iT c hF
    refine lv_iload_n hx hb dX8_settleTwo_94 rfl (lv_at hl 4 rfl) ?_
    refine lv_iload hx hb dX8_settleTwo_95 (lv_at hl 5 rfl) ?_
    obtain ⟨q_5, hc_6, hF⟩ := bnd_some hF
    refine cS_i (As := [.int v3, .int v4]) (rest := [.int v2, .ref (aP0 2)]) C X (c_X8_joined l D  v3 v4 q_5 hc_6 _) (va_cwS 2 hts (good_S q5_5 q5_6 q1_11 q5_7) rfl rfl rfl (by decide +kernel) ⟨Nat.le_of_ble_eq_true rfl, Nat.le_of_ble_eq_true rfl⟩) (eK X) eP (eD (A := A)) (eF X) hl.1 rfl rfl (Nat.le_of_ble_eq_true rfl) dX8_settleTwo_97 ⟨Nat.le_of_ble_eq_true rfl, Nat.le_of_ble_eq_true rfl⟩ (fun t H1 locs1 ht hB hk hS => ?_)
    have X := Hx_after_none X hk hS
    clear hk hS ht hB
    generalize H1 = H at X ⊢
    generalize locs1 = locs at X ⊢
    exact (k_X8_settleTwo_100 l D hT aT yT hP0 aP0 yP0) C X (lv_sub hl [1, 2, 3, 6, 0] rfl) hF
  · replace hF := iF c hF
    refine lv_iconst (v := (0 : Int32)) hx hb dX8_settleTwo_90 (by decide) ?_
    refine lv_goto (tgt := 100) hx hb dX8_settleTwo_91 (by decide) ?_
    exact (k_X8_settleTwo_100 l D hT aT yT hP0 aP0 yP0) C X (lv_sub hl [1, 2, 3, 6, 0] rfl) hF
set_option maxHeartbeats 4000000 in
set_option maxRecDepth 100000 in
theorem k_X8_settleTwo_77 (l : Launch) (D : Dx) (hT : Nat) (aT : Nat → Nat) (yT : Nat → ClassId) (hP0 : Nat) (aP0 : Nat → Nat) (yP0 : Nat → ClassId) : S_X8_settleTwo_77 l D hT aT yT hP0 aP0 yP0 (b_X8_settleTwo_77) := by
  intro p e s m args below meth c H locs A ls gT gP0 v2 v3 v4 v5 q C X hl hF
  obtain ⟨hx, hb, hr, hml, hown, hts, hlk⟩ := id C
  unfold b_X8_settleTwo_77 at hF
  refine lv_iconst (v := (0 : Int32)) hx hb dX8_settleTwo_77 (by decide) ?_
  exact (k_X8_settleTwo_78 l D hT aT yT hP0 aP0 yP0) C X (lv_sub hl [0, 1, 2, 3, 4, 5] rfl) hF
set_option maxHeartbeats 4000000 in
set_option maxRecDepth 100000 in
theorem k_X8_settleTwo_62 (l : Launch) (D : Dx) (hT : Nat) (aT : Nat → Nat) (yT : Nat → ClassId) (hP0 : Nat) (aP0 : Nat → Nat) (yP0 : Nat → ClassId) : S_X8_settleTwo_62 l D hT aT yT hP0 aP0 yP0 (b_X8_settleTwo_62) := by
  intro p e s m args below meth c H locs A ls gT gP0 v2 v3 v4 s0 q C X hl hF
  obtain ⟨hx, hb, hr, hml, hown, hts, hlk⟩ := id C
  unfold b_X8_settleTwo_62 at hF
  refine lv_istore (lv' := [(5, .int s0), (0, .ref hT), (1, .ref hP0), (2, .int v2), (3, .int v3), (4, .int v4)]) hx hb dX8_settleTwo_62 hl (by decide) rfl (fun ls hl => ?_)
  refine lv_iload_n hx hb dX8_settleTwo_64 rfl (lv_at hl 4 rfl) ?_
  refine lv_if_eq (tgt := 77) hx hb dX8_settleTwo_65 (by decide) (fun c => ?_) (fun c => ?_)
  · replace hF := iT c hF
    exact (k_X8_settleTwo_77 l D hT aT yT hP0 aP0 yP0) C X (lv_sub hl [1, 2, 3, 4, 5, 0] rfl) hF
  · replace hF := iF c hF
    refine lv_iload hx hb dX8_settleTwo_68 (lv_at hl 5 rfl) ?_
    refine lv_if_eq (tgt := 77) hx hb dX8_settleTwo_70 (by decide) (fun c => ?_) (fun c => ?_)
    · replace hF := iT c hF
      exact (k_X8_settleTwo_77 l D hT aT yT hP0 aP0 yP0) C X (lv_sub hl [1, 2, 3, 4, 5, 0] rfl) hF
    · replace hF := iF c hF
      refine lv_iconst (v := (1 : Int32)) hx hb dX8_settleTwo_73 (by decide) ?_
      refine lv_goto (tgt := 78) hx hb dX8_settleTwo_74 (by decide) ?_
      exact (k_X8_settleTwo_78 l D hT aT yT hP0 aP0 yP0) C X (lv_sub hl [1, 2, 3, 4, 5, 0] rfl) hF
set_option maxHeartbeats 4000000 in
set_option maxRecDepth 100000 in
theorem k_X8_settleTwo_61 (l : Launch) (D : Dx) (hT : Nat) (aT : Nat → Nat) (yT : Nat → ClassId) (hP0 : Nat) (aP0 : Nat → Nat) (yP0 : Nat → ClassId) : S_X8_settleTwo_61 l D hT aT yT hP0 aP0 yP0 (b_X8_settleTwo_61) := by
  intro p e s m args below meth c H locs A ls gT gP0 v2 v3 v4 q C X hl hF
  obtain ⟨hx, hb, hr, hml, hown, hts, hlk⟩ := id C
  unfold b_X8_settleTwo_61 at hF
  refine lv_iconst (v := (0 : Int32)) hx hb dX8_settleTwo_61 (by decide) ?_
  exact (k_X8_settleTwo_62 l D hT aT yT hP0 aP0 yP0) C X (lv_sub hl [0, 1, 2, 3, 4] rfl) hF
set_option maxHeartbeats 4000000 in
set_option maxRecDepth 100000 in
theorem c_X8_settleTwo (l : Launch) (D : Dx) (hT : Nat) (aT : Nat → Nat) (yT : Nat → ClassId) (hP0 : Nat) (aP0 : Nat → Nat) (yP0 : Nat → ClassId) (gT : Gs) (gP0 : Gs) (x1 : Int32) (q : Int32 × Gs × Gs) (hF : f_X8_settleTwo gT gP0 x1 = some q) (sz : Nat) : Met l yX8_settleTwo (ws_ yX8_settleTwo cX8_settleTwo 7 (some .boolean)) R_X8_settleTwo (PC D (tX8 yT ++ (tX0 yP0)) [.ref hT, .ref hP0, .int x1] (wX8 hT aT yT gT ++ (wX0 hP0 aP0 yP0 gP0)) sz) (QI D (va_A (wX8 hT aT yT gT ++ (wX0 hP0 aP0 yP0 gP0)) sz) (wX8 hT aT yT q.2.1 ++ (wX0 hP0 aP0 yP0 q.2.2)) q.1) 0 0 (va_A (wX8 hT aT yT gT ++ (wX0 hP0 aP0 yP0 gP0)) sz) := by
  refine Met.ofW (cc := cX8_settleTwo) (maxL := 7) (ret := (some .boolean)) (by decide) rfl ?_
  intro p e s m args below meth c s₁ B hml hv
  obtain ⟨rfl, hsz, hP, hK, hD, hN⟩ := hv
  subst hsz
  have C : Cx p s m _ meth c cX8_settleTwo (some .boolean) 7 RX8 lw_all := Cx_of B hml
  have X := Hx_start hP hK hD hN
  obtain ⟨hx, hb, hr, -, hown, hts, hlk⟩ := id C
  generalize va_A (wX8 hT aT yT gT ++ (wX0 hP0 aP0 yP0 gP0)) s.heap.size = A at X ⊢
  have hl := lv_entry ([.ref hT, .ref hP0, .int x1]) (n := 7) (Nat.le_of_ble_eq_true rfl)
  rw [lg_entry_eq]
  generalize (lg_sl ([.ref hT, .ref hP0, .int x1]) ++ List.replicate (7 - (lg_sl ([.ref hT, .ref hP0, .int x1])).length) Slot.unset).toArray = ls at hl ⊢
  have hl : lv_has ls 7 [(0, .ref hT), (1, .ref hP0), (2, .int x1)] := hl
  unfold f_X8_settleTwo at hF
  refine lv_aload_n hx hb dX8_settleTwo_0 rfl (lv_at hl 0 rfl) ?_
  refine lv_dup hx hb dX8_settleTwo_1 rfl ?_
  refine va_get (D := D.1) (ci := 8) (v := .int (gI gT 1)) (C := RX8) (T := TX8) (N := 2) hx hb hts wi_X8 hown X.1 X.2.1 0 rfl rfl 1 (by decide) (hts _ q2_223) (fun _ h9 => h9) (fl_get (by decide)) dX8_settleTwo_2 ?_
  refine lv_iconst (v := (2 : Int32)) hx hb dX8_settleTwo_5 (by decide) ?_
  refine lv_isub hx hb dX8_settleTwo_6 ?_
  refine va_put (D := D.1) (ci := 8) (v := .int ((gI gT 1) - (2 : Int32))) (ty := .int) (C := RX8) (T := TX8) (N := 2) hx hb hts wi_X8 tyX8 tyX8_ok nmX8 hown X.1 X.2.1 X.2.2.1 X.2.2.2.1 0 rfl rfl 1 (by decide) (hts _ q2_223) (fun _ h9 => h9) rfl (by decide +kernel) rfl rfl (by rw [List.length_map, List.length_range]; decide) dX8_settleTwo_7 (fun H locs hP hD hS => ?_)
  have X : Hx D (tX8 yT ++ (tX0 yP0)) A s H locs (wX8 hT aT yT (sI gT 1 ((gI gT 1) - (2 : Int32))) ++ (wX0 hP0 aP0 yP0 gP0)) := Hx_set X (set_l (by rw [wG_len (m := 2) rfl]; decide) (wG_sI (k := 1) rfl)) hP hD hS
  refine lv_aload_n hx hb dX8_settleTwo_10 rfl (lv_at hl 0 rfl) ?_
  refine va_get (D := D.1) (ci := 8) (v := .ref (aT 0)) (C := RX8) (T := TX8) (N := 2) hx hb hts wi_X8 hown X.1 X.2.1 0 rfl rfl 0 (by decide) (hts _ q2_222) (fun _ h9 => h9) (fl_get (by decide)) dX8_settleTwo_11 ?_
  refine lv_aload_n hx hb dX8_settleTwo_14 rfl (lv_at hl 0 rfl) ?_
  refine va_get (D := D.1) (ci := 8) (v := .int ((gI gT 1) - (2 : Int32))) (C := RX8) (T := TX8) (N := 2) hx hb hts wi_X8 hown X.1 X.2.1 0 rfl rfl 1 (by decide) (hts _ q2_223) (fun _ h9 => h9) (fl_get (by decide)) dX8_settleTwo_15 ?_
  obtain ⟨h_1, hF⟩ := grd_some hF
  refine va_iald (D := D.1) (f := gIA gT 0) hx hb X.1 X.2.1 1 0 rfl rfl (inB_ok h_1) dX8_settleTwo_18 ?_
  refine lv_istore_n (lv' := [(3, .int (gIA gT 0 ((gI gT 1) - (2 : Int32)).toNatClampNeg)), (0, .ref hT), (1, .ref hP0), (2, .int x1)]) hx hb dX8_settleTwo_19 rfl hl (by decide) rfl (fun ls hl => ?_)
  refine lv_aload_n hx hb dX8_settleTwo_20 rfl (lv_at hl 1 rfl) ?_
  refine va_get (D := D.1) (ci := 8) (v := .ref (aT 0)) (C := RX8) (T := TX8) (N := 2) hx hb hts wi_X8 hown X.1 X.2.1 0 rfl rfl 0 (by decide) (hts _ q2_222) (fun _ h9 => h9) (fl_get (by decide)) dX8_settleTwo_21 ?_
  refine lv_aload_n hx hb dX8_settleTwo_24 rfl (lv_at hl 1 rfl) ?_
  refine va_get (D := D.1) (ci := 8) (v := .int ((gI gT 1) - (2 : Int32))) (C := RX8) (T := TX8) (N := 2) hx hb hts wi_X8 hown X.1 X.2.1 0 rfl rfl 1 (by decide) (hts _ q2_223) (fun _ h9 => h9) (fl_get (by decide)) dX8_settleTwo_25 ?_
  refine lv_iconst (v := (1 : Int32)) hx hb dX8_settleTwo_28 (by decide) ?_
  refine lv_iadd hx hb dX8_settleTwo_29 ?_
  obtain ⟨h_2, hF⟩ := grd_some hF
  refine va_iald (D := D.1) (f := gIA gT 0) hx hb X.1 X.2.1 1 0 rfl rfl (inB_ok h_2) dX8_settleTwo_30 ?_
  refine lv_istore (lv' := [(4, .int (gIA gT 0 (((gI gT 1) - (2 : Int32)) + (1 : Int32)).toNatClampNeg)), (3, .int (gIA gT 0 ((gI gT 1) - (2 : Int32)).toNatClampNeg)), (0, .ref hT), (1, .ref hP0), (2, .int x1)]) hx hb dX8_settleTwo_31 hl (by decide) rfl (fun ls hl => ?_)
  refine lv_aload_n hx hb dX8_settleTwo_33 rfl (lv_at hl 3 rfl) ?_
  refine va_getN (D := D.1) (ci := 0) (v := .ref (aP0 3)) (C := RX0) (T := TX0) (N := 19) hx hb hts wi_X0 hown X.1 X.2.1 2 rfl rfl 3 (by decide) (X.2.2.2.2.2.1.use q1_220 rfl) (fun _ h9 => h9) (fl_get (by decide)) dX8_settleTwo_34 ?_
  refine lv_iload_n hx hb dX8_settleTwo_37 rfl (lv_at hl 4 rfl) ?_
  refine lv_iload_n hx hb dX8_settleTwo_38 rfl (lv_at hl 1 rfl) ?_
  obtain ⟨h_3, hF⟩ := grd_some hF
  refine va_iast (D := D.1) (f := gIA gP0 3) hx hb X.1 X.2.1 X.2.2.1 X.2.2.2.1 6 4 rfl rfl (inB_ok h_3) dX8_settleTwo_39 (fun H locs hP hD hS => ?_)
  have X : Hx D (tX8 yT ++ (tX0 yP0)) A s H locs (wX8 hT aT yT (sI gT 1 ((gI gT 1) - (2 : Int32))) ++ (wX0 hP0 aP0 yP0 (sIA gP0 3 (upd (gIA gP0 3) x1.toNatClampNeg (gIA gT 0 ((gI gT 1) - (2 : Int32)).toNatClampNeg))))) := Hx_set X (set_r (n := 2) (i := 4) (j := 6) (wG_len rfl) rfl (wG_sIA (i := 3) (k := 3) ndX0 rfl rfl)) hP hD hS
  refine lv_aload_n hx hb dX8_settleTwo_40 rfl (lv_at hl 3 rfl) ?_
  refine va_getN (D := D.1) (ci := 0) (v := .ref (aP0 4)) (C := RX0) (T := TX0) (N := 19) hx hb hts wi_X0 hown X.1 X.2.1 2 rfl rfl 4 (by decide) (X.2.2.2.2.2.1.use q1_225 rfl) (fun _ h9 => h9) (fl_get (by decide)) dX8_settleTwo_41 ?_
  refine lv_iload_n hx hb dX8_settleTwo_44 rfl (lv_at hl 4 rfl) ?_
  refine lv_iload hx hb dX8_settleTwo_45 (lv_at hl 0 rfl) ?_
  obtain ⟨h_4, hF⟩ := grd_some hF
  refine va_iast (D := D.1) (f := gIA gP0 4) hx hb X.1 X.2.1 X.2.2.1 X.2.2.2.1 7 5 rfl rfl (inB_ok h_4) dX8_settleTwo_47 (fun H locs hP hD hS => ?_)
  have X : Hx D (tX8 yT ++ (tX0 yP0)) A s H locs (wX8 hT aT yT (sI gT 1 ((gI gT 1) - (2 : Int32))) ++ (wX0 hP0 aP0 yP0 (sIA (sIA gP0 3 (upd (gIA gP0 3) x1.toNatClampNeg (gIA gT 0 ((gI gT 1) - (2 : Int32)).toNatClampNeg))) 4 (upd (gIA gP0 4) x1.toNatClampNeg (gIA gT 0 (((gI gT 1) - (2 : Int32)) + (1 : Int32)).toNatClampNeg))))) := Hx_set X (set_r (n := 2) (i := 5) (j := 7) (wG_len rfl) rfl (wG_sIA (i := 4) (k := 4) ndX0 rfl rfl)) hP hD hS
  refine lv_iload_n hx hb dX8_settleTwo_48 rfl (lv_at hl 1 rfl) ?_
  refine lv_if_ne (tgt := 61) hx hb dX8_settleTwo_49 (by decide) (fun c => ?_) (fun c => ?_)
  · replace hF := iF c hF
    exact (k_X8_settleTwo_61 l D hT aT yT hP0 aP0 yP0) C X (lv_sub hl [2, 3, 4, 1, 0] rfl) hF
  · replace hF := iT c hF
    refine lv_iload hx hb dX8_settleTwo_52 (lv_at hl 0 rfl) ?_
    refine lv_if_ne (tgt := 61) hx hb dX8_settleTwo_54 (by decide) (fun c => ?_) (fun c => ?_)
    · replace hF := iF c hF
      exact (k_X8_settleTwo_61 l D hT aT yT hP0 aP0 yP0) C X (lv_sub hl [2, 3, 4, 1, 0] rfl) hF
    · replace hF := iT c hF
      refine lv_iconst (v := (1 : Int32)) hx hb dX8_settleTwo_57 (by decide) ?_
      refine lv_goto (tgt := 62) hx hb dX8_settleTwo_58 (by decide) ?_
      exact (k_X8_settleTwo_62 l D hT aT yT hP0 aP0 yP0) C X (lv_sub hl [2, 3, 4, 1, 0] rfl) hF

/-! ### X8_settleQuestion -/
theorem dX8_settleQuestion_0 : decode cX8_settleQuestion 0 = .ok (.aload_n 0, 1) := by decide +kernel
theorem dX8_settleQuestion_1 : decode cX8_settleQuestion 1 = .ok (.dup, 1) := by decide +kernel
theorem dX8_settleQuestion_2 : decode cX8_settleQuestion 2 = .ok (.getfield 15, 3) := by decide +kernel
theorem dX8_settleQuestion_5 : decode cX8_settleQuestion 5 = .ok (.iconst 3, 1) := by decide +kernel
theorem dX8_settleQuestion_6 : decode cX8_settleQuestion 6 = .ok (.isub, 1) := by decide +kernel
theorem dX8_settleQuestion_7 : decode cX8_settleQuestion 7 = .ok (.putfield 15, 3) := by decide +kernel
theorem dX8_settleQuestion_10 : decode cX8_settleQuestion 10 = .ok (.aload_n 0, 1) := by decide +kernel
theorem dX8_settleQuestion_11 : decode cX8_settleQuestion 11 = .ok (.getfield 9, 3) := by decide +kernel
theorem dX8_settleQuestion_14 : decode cX8_settleQuestion 14 = .ok (.aload_n 0, 1) := by decide +kernel
theorem dX8_settleQuestion_15 : decode cX8_settleQuestion 15 = .ok (.getfield 15, 3) := by decide +kernel
theorem dX8_settleQuestion_18 : decode cX8_settleQuestion 18 = .ok (.iconst 1, 1) := by decide +kernel
theorem dX8_settleQuestion_19 : decode cX8_settleQuestion 19 = .ok (.iadd, 1) := by decide +kernel
theorem dX8_settleQuestion_20 : decode cX8_settleQuestion 20 = .ok (.iaload, 1) := by decide +kernel
theorem dX8_settleQuestion_21 : decode cX8_settleQuestion 21 = .ok (.istore_n 3, 1) := by decide +kernel
theorem dX8_settleQuestion_22 : decode cX8_settleQuestion 22 = .ok (.aload_n 0, 1) := by decide +kernel
theorem dX8_settleQuestion_23 : decode cX8_settleQuestion 23 = .ok (.getfield 9, 3) := by decide +kernel
theorem dX8_settleQuestion_26 : decode cX8_settleQuestion 26 = .ok (.aload_n 0, 1) := by decide +kernel
theorem dX8_settleQuestion_27 : decode cX8_settleQuestion 27 = .ok (.getfield 15, 3) := by decide +kernel
theorem dX8_settleQuestion_30 : decode cX8_settleQuestion 30 = .ok (.iconst 2, 1) := by decide +kernel
theorem dX8_settleQuestion_31 : decode cX8_settleQuestion 31 = .ok (.iadd, 1) := by decide +kernel
theorem dX8_settleQuestion_32 : decode cX8_settleQuestion 32 = .ok (.iaload, 1) := by decide +kernel
theorem dX8_settleQuestion_33 : decode cX8_settleQuestion 33 = .ok (.istore 4, 2) := by decide +kernel
theorem dX8_settleQuestion_35 : decode cX8_settleQuestion 35 = .ok (.aload_n 0, 1) := by decide +kernel
theorem dX8_settleQuestion_36 : decode cX8_settleQuestion 36 = .ok (.getfield 9, 3) := by decide +kernel
theorem dX8_settleQuestion_39 : decode cX8_settleQuestion 39 = .ok (.aload_n 0, 1) := by decide +kernel
theorem dX8_settleQuestion_40 : decode cX8_settleQuestion 40 = .ok (.getfield 15, 3) := by decide +kernel
theorem dX8_settleQuestion_43 : decode cX8_settleQuestion 43 = .ok (.iaload, 1) := by decide +kernel
theorem dX8_settleQuestion_44 : decode cX8_settleQuestion 44 = .ok (.ifCond .ne 25, 3) := by decide +kernel
theorem dX8_settleQuestion_47 : decode cX8_settleQuestion 47 = .ok (.iload_n 3, 1) := by decide +kernel
theorem dX8_settleQuestion_48 : decode cX8_settleQuestion 48 = .ok (.ifCond .ne 7, 3) := by decide +kernel
theorem dX8_settleQuestion_51 : decode cX8_settleQuestion 51 = .ok (.iconst 1, 1) := by decide +kernel
theorem dX8_settleQuestion_52 : decode cX8_settleQuestion 52 = .ok (.goto 4, 3) := by decide +kernel
theorem dX8_settleQuestion_55 : decode cX8_settleQuestion 55 = .ok (.iconst 0, 1) := by decide +kernel
theorem dX8_settleQuestion_56 : decode cX8_settleQuestion 56 = .ok (.iload 4, 2) := by decide +kernel
theorem dX8_settleQuestion_58 : decode cX8_settleQuestion 58 = .ok (.ifCond .ne 7, 3) := by decide +kernel
theorem dX8_settleQuestion_61 : decode cX8_settleQuestion 61 = .ok (.iconst 1, 1) := by decide +kernel
theorem dX8_settleQuestion_62 : decode cX8_settleQuestion 62 = .ok (.goto 4, 3) := by decide +kernel
theorem dX8_settleQuestion_65 : decode cX8_settleQuestion 65 = .ok (.iconst 0, 1) := by decide +kernel
theorem dX8_settleQuestion_66 : decode cX8_settleQuestion 66 = .ok (.if_icmp .eq 5, 3) := by decide +kernel
theorem dX8_settleQuestion_69 : decode cX8_settleQuestion 69 = .ok (.iconst 0, 1) := by decide +kernel
theorem dX8_settleQuestion_70 : decode cX8_settleQuestion 70 = .ok (.ireturn, 1) := by decide +kernel
theorem dX8_settleQuestion_71 : decode cX8_settleQuestion 71 = .ok (.iload_n 3, 1) := by decide +kernel
theorem dX8_settleQuestion_72 : decode cX8_settleQuestion 72 = .ok (.ifCond .ne 7, 3) := by decide +kernel
theorem dX8_settleQuestion_75 : decode cX8_settleQuestion 75 = .ok (.iconst 0, 1) := by decide +kernel
theorem dX8_settleQuestion_76 : decode cX8_settleQuestion 76 = .ok (.goto 9, 3) := by decide +kernel
theorem dX8_settleQuestion_79 : decode cX8_settleQuestion 79 = .ok (.iload_n 3, 1) := by decide +kernel
theorem dX8_settleQuestion_80 : decode cX8_settleQuestion 80 = .ok (.iload 4, 2) := by decide +kernel
theorem dX8_settleQuestion_82 : decode cX8_settleQuestion 82 = .ok (.invokestatic 94, 3) := by decide +kernel
theorem dX8_settleQuestion_85 : decode cX8_settleQuestion 85 = .ok (.istore 5, 2) := by decide +kernel
theorem dX8_settleQuestion_87 : decode cX8_settleQuestion 87 = .ok (.aload_n 1, 1) := by decide +kernel
theorem dX8_settleQuestion_88 : decode cX8_settleQuestion 88 = .ok (.getfield 91, 3) := by decide +kernel
theorem dX8_settleQuestion_91 : decode cX8_settleQuestion 91 = .ok (.iload_n 2, 1) := by decide +kernel
theorem dX8_settleQuestion_92 : decode cX8_settleQuestion 92 = .ok (.iload 4, 2) := by decide +kernel
theorem dX8_settleQuestion_94 : decode cX8_settleQuestion 94 = .ok (.iastore, 1) := by decide +kernel
theorem dX8_settleQuestion_95 : decode cX8_settleQuestion 95 = .ok (.aload_n 1, 1) := by decide +kernel
theorem dX8_settleQuestion_96 : decode cX8_settleQuestion 96 = .ok (.getfield 65, 3) := by decide +kernel
theorem dX8_settleQuestion_99 : decode cX8_settleQuestion 99 = .ok (.iload_n 2, 1) := by decide +kernel
theorem dX8_settleQuestion_100 : decode cX8_settleQuestion 100 = .ok (.iload 5, 2) := by decide +kernel
theorem dX8_settleQuestion_102 : decode cX8_settleQuestion 102 = .ok (.iastore, 1) := by decide +kernel
theorem dX8_settleQuestion_103 : decode cX8_settleQuestion 103 = .ok (.aload_n 1, 1) := by decide +kernel
theorem dX8_settleQuestion_104 : decode cX8_settleQuestion 104 = .ok (.getfield 72, 3) := by decide +kernel
theorem dX8_settleQuestion_107 : decode cX8_settleQuestion 107 = .ok (.iload_n 2, 1) := by decide +kernel
theorem dX8_settleQuestion_108 : decode cX8_settleQuestion 108 = .ok (.iaload, 1) := by decide +kernel
theorem dX8_settleQuestion_109 : decode cX8_settleQuestion 109 = .ok (.istore 6, 2) := by decide +kernel
theorem dX8_settleQuestion_111 : decode cX8_settleQuestion 111 = .ok (.iload 6, 2) := by decide +kernel
theorem dX8_settleQuestion_113 : decode cX8_settleQuestion 113 = .ok (.ifCond .lt 26, 3) := by decide +kernel
theorem dX8_settleQuestion_116 : decode cX8_settleQuestion 116 = .ok (.iload 6, 2) := by decide +kernel
theorem dX8_settleQuestion_118 : decode cX8_settleQuestion 118 = .ok (.iload_n 2, 1) := by decide +kernel
theorem dX8_settleQuestion_119 : decode cX8_settleQuestion 119 = .ok (.if_icmp .ge 20, 3) := by decide +kernel
theorem dX8_settleQuestion_122 : decode cX8_settleQuestion 122 = .ok (.aload_n 1, 1) := by decide +kernel
theorem dX8_settleQuestion_123 : decode cX8_settleQuestion 123 = .ok (.getfield 88, 3) := by decide +kernel
theorem dX8_settleQuestion_126 : decode cX8_settleQuestion 126 = .ok (.iload 6, 2) := by decide +kernel
theorem dX8_settleQuestion_128 : decode cX8_settleQuestion 128 = .ok (.iload_n 3, 1) := by decide +kernel
theorem dX8_settleQuestion_129 : decode cX8_settleQuestion 129 = .ok (.iastore, 1) := by decide +kernel
theorem dX8_settleQuestion_130 : decode cX8_settleQuestion 130 = .ok (.aload_n 1, 1) := by decide +kernel
theorem dX8_settleQuestion_131 : decode cX8_settleQuestion 131 = .ok (.getfield 65, 3) := by decide +kernel
theorem dX8_settleQuestion_134 : decode cX8_settleQuestion 134 = .ok (.iload 6, 2) := by decide +kernel
theorem dX8_settleQuestion_136 : decode cX8_settleQuestion 136 = .ok (.iload 5, 2) := by decide +kernel
theorem dX8_settleQuestion_138 : decode cX8_settleQuestion 138 = .ok (.iastore, 1) := by decide +kernel
theorem dX8_settleQuestion_139 : decode cX8_settleQuestion 139 = .ok (.aload_n 0, 1) := by decide +kernel
theorem dX8_settleQuestion_140 : decode cX8_settleQuestion 140 = .ok (.iload 5, 2) := by decide +kernel
theorem dX8_settleQuestion_142 : decode cX8_settleQuestion 142 = .ok (.invokevirtual 68, 3) := by decide +kernel
theorem dX8_settleQuestion_145 : decode cX8_settleQuestion 145 = .ok (.ireturn, 1) := by decide +kernel
abbrev R_X8_settleQuestion : Room := ({ frames := 2, cells := 0, slots := 0, locals := 85 } : Room)
def b_X8_settleQuestion_139 (gT : Gs) (gP0 : Gs) (v5 : Int32) : Option (Int32 × Gs × Gs) :=
  bnd (f_X8_give gT v5) (fun q_9 => grd (zB q_9.1) (some (q_9.1, q_9.2, gP0)))
def b_X8_settleQuestion_85 (gT : Gs) (gP0 : Gs) (v2 : Int32) (v3 : Int32) (v4 : Int32) (s0 : Int32) : Option (Int32 × Gs × Gs) :=
  grd (inB v2 840) (grd (inB v2 840) (grd (inB v2 840) (if (gIA gP0 5 v2.toNatClampNeg) < 0 then (b_X8_settleQuestion_139 gT (sIA (sIA gP0 4 (upd (gIA gP0 4) v2.toNatClampNeg v4)) 2 (upd (gIA gP0 2) v2.toNatClampNeg s0)) s0) else (if v2 ≤ (gIA gP0 5 v2.toNatClampNeg) then (b_X8_settleQuestion_139 gT (sIA (sIA gP0 4 (upd (gIA gP0 4) v2.toNatClampNeg v4)) 2 (upd (gIA gP0 2) v2.toNatClampNeg s0)) s0) else (grd (inB (gIA gP0 5 v2.toNatClampNeg) 840) (grd (inB (gIA gP0 5 v2.toNatClampNeg) 840) (b_X8_settleQuestion_139 gT (sIA (sIA (sIA (sIA gP0 4 (upd (gIA gP0 4) v2.toNatClampNeg v4)) 2 (upd (gIA gP0 2) v2.toNatClampNeg s0)) 3 (upd (gIA gP0 3) (gIA gP0 5 v2.toNatClampNeg).toNatClampNeg v3)) 2 (upd (upd (gIA gP0 2) v2.toNatClampNeg s0) (gIA gP0 5 v2.toNatClampNeg).toNatClampNeg s0)) s0)))))))
def b_X8_settleQuestion_66 (gT : Gs) (gP0 : Gs) (v2 : Int32) (v3 : Int32) (v4 : Int32) (s0 : Int32) (s1 : Int32) : Option (Int32 × Gs × Gs) :=
  if s1 = s0 then (if v3 = 0 then (b_X8_settleQuestion_85 gT gP0 v2 v3 v4 (0 : Int32)) else (bnd (f_X8_joined v3 v4) (fun q_4 => b_X8_settleQuestion_85 gT gP0 v2 v3 v4 q_4))) else (some ((0 : Int32), gT, gP0))
def b_X8_settleQuestion_56 (gT : Gs) (gP0 : Gs) (v2 : Int32) (v3 : Int32) (v4 : Int32) (s0 : Int32) : Option (Int32 × Gs × Gs) :=
  if v4 = 0 then (b_X8_settleQuestion_66 gT gP0 v2 v3 v4 (1 : Int32) s0) else (b_X8_settleQuestion_66 gT gP0 v2 v3 v4 (0 : Int32) s0)
def f_X8_settleQuestion (gT : Gs) (gP0 : Gs) (x1 : Int32) : Option (Int32 × Gs × Gs) :=
  grd (inB (((gI gT 1) - (3 : Int32)) + (1 : Int32)) 512) (grd (inB (((gI gT 1) - (3 : Int32)) + (2 : Int32)) 512) (grd (inB ((gI gT 1) - (3 : Int32)) 512) (if (gIA gT 0 ((gI gT 1) - (3 : Int32)).toNatClampNeg) = 0 then (if (gIA gT 0 (((gI gT 1) - (3 : Int32)) + (1 : Int32)).toNatClampNeg) = 0 then (b_X8_settleQuestion_56 (sI gT 1 ((gI gT 1) - (3 : Int32))) gP0 x1 (gIA gT 0 (((gI gT 1) - (3 : Int32)) + (1 : Int32)).toNatClampNeg) (gIA gT 0 (((gI gT 1) - (3 : Int32)) + (2 : Int32)).toNatClampNeg) (1 : Int32)) else (b_X8_settleQuestion_56 (sI gT 1 ((gI gT 1) - (3 : Int32))) gP0 x1 (gIA gT 0 (((gI gT 1) - (3 : Int32)) + (1 : Int32)).toNatClampNeg) (gIA gT 0 (((gI gT 1) - (3 : Int32)) + (2 : Int32)).toNatClampNeg) (0 : Int32))) else (some ((0 : Int32), (sI gT 1 ((gI gT 1) - (3 : Int32))), gP0)))))
def S_X8_settleQuestion_139 (l : Launch) (D : Dx) (hT : Nat) (aT : Nat → Nat) (yT : Nat → ClassId) (hP0 : Nat) (aP0 : Nat → Nat) (yP0 : Nat → ClassId) (fn : Gs → Gs → Int32 → Option (Int32 × Gs × Gs)) : Prop :=
  ∀ {p : Program} {e : Env} {s : State} {m : MethodId} {args : Array Value} {below : List Frame} {meth : Method} {c : Code} {H : Heap} {locs : List Loc} {A : Nat → Prop} {ls : Array Slot} {gT : Gs} {gP0 : Gs} {v5 : Int32} {q : Int32 × Gs × Gs}, Cx p s m args meth c cX8_settleQuestion (some .boolean) 7 RX8 lw_all → Hx D (tX8 yT ++ (tX0 yP0)) A s H locs (wX8 hT aT yT gT ++ (wX0 hP0 aP0 yP0 gP0)) → lv_has ls 7 [(0, .ref hT), (5, .int v5)] → fn gT gP0 v5 = some q → W p l e R_X8_settleQuestion s m args below meth c H locs 0 0 (MQ below (QI D A (wX8 hT aT yT q.2.1 ++ (wX0 hP0 aP0 yP0 q.2.2)) q.1) args s 0 0 A) (F0 m 139 ls [])
def S_X8_settleQuestion_85 (l : Launch) (D : Dx) (hT : Nat) (aT : Nat → Nat) (yT : Nat → ClassId) (hP0 : Nat) (aP0 : Nat → Nat) (yP0 : Nat → ClassId) (fn : Gs → Gs → Int32 → Int32 → Int32 → Int32 → Option (Int32 × Gs × Gs)) : Prop :=
  ∀ {p : Program} {e : Env} {s : State} {m : MethodId} {args : Array Value} {below : List Frame} {meth : Method} {c : Code} {H : Heap} {locs : List Loc} {A : Nat → Prop} {ls : Array Slot} {gT : Gs} {gP0 : Gs} {v2 : Int32} {v3 : Int32} {v4 : Int32} {s0 : Int32} {q : Int32 × Gs × Gs}, Cx p s m args meth c cX8_settleQuestion (some .boolean) 7 RX8 lw_all → Hx D (tX8 yT ++ (tX0 yP0)) A s H locs (wX8 hT aT yT gT ++ (wX0 hP0 aP0 yP0 gP0)) → lv_has ls 7 [(0, .ref hT), (1, .ref hP0), (2, .int v2), (3, .int v3), (4, .int v4)] → fn gT gP0 v2 v3 v4 s0 = some q → W p l e R_X8_settleQuestion s m args below meth c H locs 0 0 (MQ below (QI D A (wX8 hT aT yT q.2.1 ++ (wX0 hP0 aP0 yP0 q.2.2)) q.1) args s 0 0 A) (F0 m 85 ls [.int s0])
def S_X8_settleQuestion_66 (l : Launch) (D : Dx) (hT : Nat) (aT : Nat → Nat) (yT : Nat → ClassId) (hP0 : Nat) (aP0 : Nat → Nat) (yP0 : Nat → ClassId) (fn : Gs → Gs → Int32 → Int32 → Int32 → Int32 → Int32 → Option (Int32 × Gs × Gs)) : Prop :=
  ∀ {p : Program} {e : Env} {s : State} {m : MethodId} {args : Array Value} {below : List Frame} {meth : Method} {c : Code} {H : Heap} {locs : List Loc} {A : Nat → Prop} {ls : Array Slot} {gT : Gs} {gP0 : Gs} {v2 : Int32} {v3 : Int32} {v4 : Int32} {s0 : Int32} {s1 : Int32} {q : Int32 × Gs × Gs}, Cx p s m args meth c cX8_settleQuestion (some .boolean) 7 RX8 lw_all → Hx D (tX8 yT ++ (tX0 yP0)) A s H locs (wX8 hT aT yT gT ++ (wX0 hP0 aP0 yP0 gP0)) → lv_has ls 7 [(0, .ref hT), (1, .ref hP0), (2, .int v2), (3, .int v3), (4, .int v4)] → fn gT gP0 v2 v3 v4 s0 s1 = some q → W p l e R_X8_settleQuestion s m args below meth c H locs 0 0 (MQ below (QI D A (wX8 hT aT yT q.2.1 ++ (wX0 hP0 aP0 yP0 q.2.2)) q.1) args s 0 0 A) (F0 m 66 ls [.int s0, .int s1])
def S_X8_settleQuestion_56 (l : Launch) (D : Dx) (hT : Nat) (aT : Nat → Nat) (yT : Nat → ClassId) (hP0 : Nat) (aP0 : Nat → Nat) (yP0 : Nat → ClassId) (fn : Gs → Gs → Int32 → Int32 → Int32 → Int32 → Option (Int32 × Gs × Gs)) : Prop :=
  ∀ {p : Program} {e : Env} {s : State} {m : MethodId} {args : Array Value} {below : List Frame} {meth : Method} {c : Code} {H : Heap} {locs : List Loc} {A : Nat → Prop} {ls : Array Slot} {gT : Gs} {gP0 : Gs} {v2 : Int32} {v3 : Int32} {v4 : Int32} {s0 : Int32} {q : Int32 × Gs × Gs}, Cx p s m args meth c cX8_settleQuestion (some .boolean) 7 RX8 lw_all → Hx D (tX8 yT ++ (tX0 yP0)) A s H locs (wX8 hT aT yT gT ++ (wX0 hP0 aP0 yP0 gP0)) → lv_has ls 7 [(0, .ref hT), (1, .ref hP0), (2, .int v2), (3, .int v3), (4, .int v4)] → fn gT gP0 v2 v3 v4 s0 = some q → W p l e R_X8_settleQuestion s m args below meth c H locs 0 0 (MQ below (QI D A (wX8 hT aT yT q.2.1 ++ (wX0 hP0 aP0 yP0 q.2.2)) q.1) args s 0 0 A) (F0 m 56 ls [.int s0])
set_option maxHeartbeats 4000000 in
set_option maxRecDepth 100000 in
theorem k_X8_settleQuestion_139 (l : Launch) (D : Dx) (hT : Nat) (aT : Nat → Nat) (yT : Nat → ClassId) (hP0 : Nat) (aP0 : Nat → Nat) (yP0 : Nat → ClassId) : S_X8_settleQuestion_139 l D hT aT yT hP0 aP0 yP0 (b_X8_settleQuestion_139) := by
  intro p e s m args below meth c H locs A ls gT gP0 v5 q C X hl hF
  obtain ⟨hx, hb, hr, hml, hown, hts, hlk⟩ := id C
  unfold b_X8_settleQuestion_139 at hF
  refine lv_aload_n hx hb dX8_settleQuestion_139 rfl (lv_at hl 0 rfl) ?_
  refine lv_iload hx hb dX8_settleQuestion_140 (lv_at hl 1 rfl) ?_
  obtain ⟨q_9, hc_10, hF⟩ := bnd_some hF
  refine cV_i (As := [.int v5]) (rest := []) C X (c_X8_give l D hT aT yT gT v5 q_9 hc_10 _) (cwV 1 hts (good_V q4_228 q4_230 q0_43 q1_11 q4_231) rfl rfl rfl (by decide +kernel) ⟨Nat.le_of_ble_eq_true rfl, Nat.le_of_ble_eq_true rfl⟩) (va_recv X.1 X.2.1 (ci := 8) (q0 := 0) rfl rfl) (X.1.sub (tys' := tX8 yT) [0] rfl) (X.2.1.sub (ws' := wX8 hT aT yT gT) [0, 1] rfl) (X.2.2.1.sub (ws' := wX8 hT aT yT gT) [0, 1] (by decide) rfl) (free_of (wC := wX8 hT aT yT gT) (isC := [0, 1]) X rfl) hl.1 rfl rfl (Nat.le_of_ble_eq_true rfl) dX8_settleQuestion_142 ⟨Nat.le_of_ble_eq_true rfl, Nat.le_of_ble_eq_true rfl⟩ (fun t H1 locs1 ht hB hk hS => ?_)
  have X : Hx D (tX8 yT ++ (tX0 yP0)) A s H1 locs1 (wX8 hT aT yT q_9.2 ++ (wX0 hP0 aP0 yP0 gP0)) := Hx_after (isC := [0, 1]) (isR := [2, 3, 4, 5, 6, 7, 8, 9, 10, 11, 12, 13, 14, 15, 16, 17]) (pm := [16, 17, 0, 1, 2, 3, 4, 5, 6, 7, 8, 9, 10, 11, 12, 13, 14, 15]) (wr := wX0 hP0 aP0 yP0 gP0) X ⟨rfl, rfl, by decide, by decide, rfl, by decide⟩ ht hB hk hS
  clear hk hS ht hB
  generalize H1 = H at X ⊢
  generalize locs1 = locs at X ⊢
  obtain ⟨h_11, hF⟩ := grd_some hF
  have hq := Option.some.inj hF
  subst hq
  exact rt_z (v := q_9.1) C X (zB_n h_11) dX8_settleQuestion_145
set_option maxHeartbeats 4000000 in
set_option maxRecDepth 100000 in
theorem k_X8_settleQuestion_85 (l : Launch) (D : Dx) (hT : Nat) (aT : Nat → Nat) (yT : Nat → ClassId) (hP0 : Nat) (aP0 : Nat → Nat) (yP0 : Nat → ClassId) : S_X8_settleQuestion_85 l D hT aT yT hP0 aP0 yP0 (b_X8_settleQuestion_85) := by
  intro p e s m args below meth c H locs A ls gT gP0 v2 v3 v4 s0 q C X hl hF
  obtain ⟨hx, hb, hr, hml, hown, hts, hlk⟩ := id C
  unfold b_X8_settleQuestion_85 at hF
  refine lv_istore (lv' := [(5, .int s0), (0, .ref hT), (1, .ref hP0), (2, .int v2), (3, .int v3), (4, .int v4)]) hx hb dX8_settleQuestion_85 hl (by decide) rfl (fun ls hl => ?_)
  refine lv_aload_n hx hb dX8_settleQuestion_87 rfl (lv_at hl 2 rfl) ?_
  refine va_getN (D := D.1) (ci := 0) (v := .ref (aP0 4)) (C := RX0) (T := TX0) (N := 19) hx hb hts wi_X0 hown X.1 X.2.1 2 rfl rfl 4 (by decide) (X.2.2.2.2.2.1.use q1_225 rfl) (fun _ h9 => h9) (fl_get (by decide)) dX8_settleQuestion_88 ?_
  refine lv_iload_n hx hb dX8_settleQuestion_91 rfl (lv_at hl 3 rfl) ?_
  refine lv_iload hx hb dX8_settleQuestion_92 (lv_at hl 5 rfl) ?_
  obtain ⟨h_6, hF⟩ := grd_some hF
  refine va_iast (D := D.1) (f := gIA gP0 4) hx hb X.1 X.2.1 X.2.2.1 X.2.2.2.1 7 5 rfl rfl (inB_ok h_6) dX8_settleQuestion_94 (fun H locs hP hD hS => ?_)
  have X : Hx D (tX8 yT ++ (tX0 yP0)) A s H locs (wX8 hT aT yT gT ++ (wX0 hP0 aP0 yP0 (sIA gP0 4 (upd (gIA gP0 4) v2.toNatClampNeg v4)))) := Hx_set X (set_r (n := 2) (i := 5) (j := 7) (wG_len rfl) rfl (wG_sIA (i := 4) (k := 4) ndX0 rfl rfl)) hP hD hS
  refine lv_aload_n hx hb dX8_settleQuestion_95 rfl (lv_at hl 2 rfl) ?_
  refine va_getN (D := D.1) (ci := 0) (v := .ref (aP0 2)) (C := RX0) (T := TX0) (N := 19) hx hb hts wi_X0 hown X.1 X.2.1 2 rfl rfl 2 (by decide) (X.2.2.2.2.2.1.use q1_215 rfl) (fun _ h9 => h9) (fl_get (by decide)) dX8_settleQuestion_96 ?_
  refine lv_iload_n hx hb dX8_settleQuestion_99 rfl (lv_at hl 3 rfl) ?_
  refine lv_iload hx hb dX8_settleQuestion_100 (lv_at hl 0 rfl) ?_
  obtain ⟨h_7, hF⟩ := grd_some hF
  refine va_iast (D := D.1) (f := gIA gP0 2) hx hb X.1 X.2.1 X.2.2.1 X.2.2.2.1 5 3 rfl rfl (inB_ok h_7) dX8_settleQuestion_102 (fun H locs hP hD hS => ?_)
  have X : Hx D (tX8 yT ++ (tX0 yP0)) A s H locs (wX8 hT aT yT gT ++ (wX0 hP0 aP0 yP0 (sIA (sIA gP0 4 (upd (gIA gP0 4) v2.toNatClampNeg v4)) 2 (upd (gIA gP0 2) v2.toNatClampNeg s0)))) := Hx_set X (set_r (n := 2) (i := 3) (j := 5) (wG_len rfl) rfl (wG_sIA (i := 2) (k := 2) ndX0 rfl rfl)) hP hD hS
  refine lv_aload_n hx hb dX8_settleQuestion_103 rfl (lv_at hl 2 rfl) ?_
  refine va_getN (D := D.1) (ci := 0) (v := .ref (aP0 5)) (C := RX0) (T := TX0) (N := 19) hx hb hts wi_X0 hown X.1 X.2.1 2 rfl rfl 5 (by decide) (X.2.2.2.2.2.1.use q1_227 rfl) (fun _ h9 => h9) (fl_get (by decide)) dX8_settleQuestion_104 ?_
  refine lv_iload_n hx hb dX8_settleQuestion_107 rfl (lv_at hl 3 rfl) ?_
  obtain ⟨h_8, hF⟩ := grd_some hF
  refine va_iald (D := D.1) (f := gIA gP0 5) hx hb X.1 X.2.1 8 6 rfl rfl (inB_ok h_8) dX8_settleQuestion_108 ?_
  refine lv_istore (lv' := [(6, .int (gIA gP0 5 v2.toNatClampNeg)), (5, .int s0), (0, .ref hT), (1, .ref hP0), (2, .int v2), (3, .int v3), (4, .int v4)]) hx hb dX8_settleQuestion_109 hl (by decide) rfl (fun ls hl => ?_)
  refine lv_iload hx hb dX8_settleQuestion_111 (lv_at hl 0 rfl) ?_
  refine lv_if_lt (tgt := 139) hx hb dX8_settleQuestion_113 (by decide) (fun c => ?_) (fun c => ?_)
  · replace hF := iT c hF
    exact (k_X8_settleQuestion_139 l D hT aT yT hP0 aP0 yP0) C X (lv_sub hl [2, 1] rfl) hF
  · replace hF := iF c hF
    refine lv_iload hx hb dX8_settleQuestion_116 (lv_at hl 0 rfl) ?_
    refine lv_iload_n hx hb dX8_settleQuestion_118 rfl (lv_at hl 4 rfl) ?_
    refine lv_icmp_ge (tgt := 139) hx hb dX8_settleQuestion_119 (by decide) (fun c => ?_) (fun c => ?_)
    · replace hF := iT c hF
      exact (k_X8_settleQuestion_139 l D hT aT yT hP0 aP0 yP0) C X (lv_sub hl [2, 1] rfl) hF
    · replace hF := iF c hF
      refine lv_aload_n hx hb dX8_settleQuestion_122 rfl (lv_at hl 3 rfl) ?_
      refine va_getN (D := D.1) (ci := 0) (v := .ref (aP0 3)) (C := RX0) (T := TX0) (N := 19) hx hb hts wi_X0 hown X.1 X.2.1 2 rfl rfl 3 (by decide) (X.2.2.2.2.2.1.use q1_220 rfl) (fun _ h9 => h9) (fl_get (by decide)) dX8_settleQuestion_123 ?_
      refine lv_iload hx hb dX8_settleQuestion_126 (lv_at hl 0 rfl) ?_
      refine lv_iload_n hx hb dX8_settleQuestion_128 rfl (lv_at hl 5 rfl) ?_
      obtain ⟨h_12, hF⟩ := grd_some hF
      refine va_iast (D := D.1) (f := gIA gP0 3) hx hb X.1 X.2.1 X.2.2.1 X.2.2.2.1 6 4 rfl rfl (inB_ok h_12) dX8_settleQuestion_129 (fun H locs hP hD hS => ?_)
      have X : Hx D (tX8 yT ++ (tX0 yP0)) A s H locs (wX8 hT aT yT gT ++ (wX0 hP0 aP0 yP0 (sIA (sIA (sIA gP0 4 (upd (gIA gP0 4) v2.toNatClampNeg v4)) 2 (upd (gIA gP0 2) v2.toNatClampNeg s0)) 3 (upd (gIA gP0 3) (gIA gP0 5 v2.toNatClampNeg).toNatClampNeg v3)))) := Hx_set X (set_r (n := 2) (i := 4) (j := 6) (wG_len rfl) rfl (wG_sIA (i := 3) (k := 3) ndX0 rfl rfl)) hP hD hS
      refine lv_aload_n hx hb dX8_settleQuestion_130 rfl (lv_at hl 3 rfl) ?_
      refine va_getN (D := D.1) (ci := 0) (v := .ref (aP0 2)) (C := RX0) (T := TX0) (N := 19) hx hb hts wi_X0 hown X.1 X.2.1 2 rfl rfl 2 (by decide) (X.2.2.2.2.2.1.use q1_215 rfl) (fun _ h9 => h9) (fl_get (by decide)) dX8_settleQuestion_131 ?_
      refine lv_iload hx hb dX8_settleQuestion_134 (lv_at hl 0 rfl) ?_
      refine lv_iload hx hb dX8_settleQuestion_136 (lv_at hl 1 rfl) ?_
      obtain ⟨h_13, hF⟩ := grd_some hF
      refine va_iast (D := D.1) (f := upd (gIA gP0 2) v2.toNatClampNeg s0) hx hb X.1 X.2.1 X.2.2.1 X.2.2.2.1 5 3 rfl rfl (inB_ok h_13) dX8_settleQuestion_138 (fun H locs hP hD hS => ?_)
      have X : Hx D (tX8 yT ++ (tX0 yP0)) A s H locs (wX8 hT aT yT gT ++ (wX0 hP0 aP0 yP0 (sIA (sIA (sIA (sIA gP0 4 (upd (gIA gP0 4) v2.toNatClampNeg v4)) 2 (upd (gIA gP0 2) v2.toNatClampNeg s0)) 3 (upd (gIA gP0 3) (gIA gP0 5 v2.toNatClampNeg).toNatClampNeg v3)) 2 (upd (upd (gIA gP0 2) v2.toNatClampNeg s0) (gIA gP0 5 v2.toNatClampNeg).toNatClampNeg s0)))) := Hx_set X (set_r (n := 2) (i := 3) (j := 5) (wG_len rfl) rfl (wG_sIA (i := 2) (k := 2) ndX0 rfl rfl)) hP hD hS
      exact (k_X8_settleQuestion_139 l D hT aT yT hP0 aP0 yP0) C X (lv_sub hl [2, 1] rfl) hF
set_option maxHeartbeats 4000000 in
set_option maxRecDepth 100000 in
theorem k_X8_settleQuestion_66 (l : Launch) (D : Dx) (hT : Nat) (aT : Nat → Nat) (yT : Nat → ClassId) (hP0 : Nat) (aP0 : Nat → Nat) (yP0 : Nat → ClassId) : S_X8_settleQuestion_66 l D hT aT yT hP0 aP0 yP0 (b_X8_settleQuestion_66) := by
  intro p e s m args below meth c H locs A ls gT gP0 v2 v3 v4 s0 s1 q C X hl hF
  obtain ⟨hx, hb, hr, hml, hown, hts, hlk⟩ := id C
  unfold b_X8_settleQuestion_66 at hF
  refine lv_icmp_eq (tgt := 71) hx hb dX8_settleQuestion_66 (by decide) (fun c => ?_) (fun c => ?_)
  · replace hF := iT c hF
    refine lv_iload_n hx hb dX8_settleQuestion_71 rfl (lv_at hl 3 rfl) ?_
    refine lv_if_ne (tgt := 79) hx hb dX8_settleQuestion_72 (by decide) (fun c => ?_) (fun c => ?_)
    · replace hF := iF c hF
      refine lv_iload_n hx hb dX8_settleQuestion_79 rfl (lv_at hl 3 rfl) ?_
      refine lv_iload hx hb dX8_settleQuestion_80 (lv_at hl 4 rfl) ?_
      obtain ⟨q_4, hc_5, hF⟩ := bnd_some hF
      refine cS_i (As := [.int v3, .int v4]) (rest := []) C X (c_X8_joined l D  v3 v4 q_4 hc_5 _) (va_cwS 2 hts (good_S q5_5 q5_6 q1_11 q5_7) rfl rfl rfl (by decide +kernel) ⟨Nat.le_of_ble_eq_true rfl, Nat.le_of_ble_eq_true rfl⟩) (eK X) eP (eD (A := A)) (eF X) hl.1 rfl rfl (Nat.le_of_ble_eq_true rfl) dX8_settleQuestion_82 ⟨Nat.le_of_ble_eq_true rfl, Nat.le_of_ble_eq_true rfl⟩ (fun t H1 locs1 ht hB hk hS => ?_)
      have X := Hx_after_none X hk hS
      clear hk hS ht hB
      generalize H1 = H at X ⊢
      generalize locs1 = locs at X ⊢
      exact (k_X8_settleQuestion_85 l D hT aT yT hP0 aP0 yP0) C X (lv_sub hl [0, 1, 2, 3, 4] rfl) hF
    · replace hF := iT c hF
      refine lv_iconst (v := (0 : Int32)) hx hb dX8_settleQuestion_75 (by decide) ?_
      refine lv_goto (tgt := 85) hx hb dX8_settleQuestion_76 (by decide) ?_
      exact (k_X8_settleQuestion_85 l D hT aT yT hP0 aP0 yP0) C X (lv_sub hl [0, 1, 2, 3, 4] rfl) hF
  · replace hF := iF c hF
    refine lv_iconst (v := (0 : Int32)) hx hb dX8_settleQuestion_69 (by decide) ?_
    have hq := Option.some.inj hF
    subst hq
    exact rt_z (v := (0 : Int32)) C X (by decide) dX8_settleQuestion_70
set_option maxHeartbeats 4000000 in
set_option maxRecDepth 100000 in
theorem k_X8_settleQuestion_56 (l : Launch) (D : Dx) (hT : Nat) (aT : Nat → Nat) (yT : Nat → ClassId) (hP0 : Nat) (aP0 : Nat → Nat) (yP0 : Nat → ClassId) : S_X8_settleQuestion_56 l D hT aT yT hP0 aP0 yP0 (b_X8_settleQuestion_56) := by
  intro p e s m args below meth c H locs A ls gT gP0 v2 v3 v4 s0 q C X hl hF
  obtain ⟨hx, hb, hr, hml, hown, hts, hlk⟩ := id C
  unfold b_X8_settleQuestion_56 at hF
  refine lv_iload hx hb dX8_settleQuestion_56 (lv_at hl 4 rfl) ?_
  refine lv_if_ne (tgt := 65) hx hb dX8_settleQuestion_58 (by decide) (fun c => ?_) (fun c => ?_)
  · replace hF := iF c hF
    refine lv_iconst (v := (0 : Int32)) hx hb dX8_settleQuestion_65 (by decide) ?_
    exact (k_X8_settleQuestion_66 l D hT aT yT hP0 aP0 yP0) C X (lv_sub hl [0, 1, 2, 3, 4] rfl) hF
  · replace hF := iT c hF
    refine lv_iconst (v := (1 : Int32)) hx hb dX8_settleQuestion_61 (by decide) ?_
    refine lv_goto (tgt := 66) hx hb dX8_settleQuestion_62 (by decide) ?_
    exact (k_X8_settleQuestion_66 l D hT aT yT hP0 aP0 yP0) C X (lv_sub hl [0, 1, 2, 3, 4] rfl) hF
set_option maxHeartbeats 4000000 in
set_option maxRecDepth 100000 in
theorem c_X8_settleQuestion (l : Launch) (D : Dx) (hT : Nat) (aT : Nat → Nat) (yT : Nat → ClassId) (hP0 : Nat) (aP0 : Nat → Nat) (yP0 : Nat → ClassId) (gT : Gs) (gP0 : Gs) (x1 : Int32) (q : Int32 × Gs × Gs) (hF : f_X8_settleQuestion gT gP0 x1 = some q) (sz : Nat) : Met l yX8_settleQuestion (ws_ yX8_settleQuestion cX8_settleQuestion 7 (some .boolean)) R_X8_settleQuestion (PC D (tX8 yT ++ (tX0 yP0)) [.ref hT, .ref hP0, .int x1] (wX8 hT aT yT gT ++ (wX0 hP0 aP0 yP0 gP0)) sz) (QI D (va_A (wX8 hT aT yT gT ++ (wX0 hP0 aP0 yP0 gP0)) sz) (wX8 hT aT yT q.2.1 ++ (wX0 hP0 aP0 yP0 q.2.2)) q.1) 0 0 (va_A (wX8 hT aT yT gT ++ (wX0 hP0 aP0 yP0 gP0)) sz) := by
  refine Met.ofW (cc := cX8_settleQuestion) (maxL := 7) (ret := (some .boolean)) (by decide) rfl ?_
  intro p e s m args below meth c s₁ B hml hv
  obtain ⟨rfl, hsz, hP, hK, hD, hN⟩ := hv
  subst hsz
  have C : Cx p s m _ meth c cX8_settleQuestion (some .boolean) 7 RX8 lw_all := Cx_of B hml
  have X := Hx_start hP hK hD hN
  obtain ⟨hx, hb, hr, -, hown, hts, hlk⟩ := id C
  generalize va_A (wX8 hT aT yT gT ++ (wX0 hP0 aP0 yP0 gP0)) s.heap.size = A at X ⊢
  have hl := lv_entry ([.ref hT, .ref hP0, .int x1]) (n := 7) (Nat.le_of_ble_eq_true rfl)
  rw [lg_entry_eq]
  generalize (lg_sl ([.ref hT, .ref hP0, .int x1]) ++ List.replicate (7 - (lg_sl ([.ref hT, .ref hP0, .int x1])).length) Slot.unset).toArray = ls at hl ⊢
  have hl : lv_has ls 7 [(0, .ref hT), (1, .ref hP0), (2, .int x1)] := hl
  unfold f_X8_settleQuestion at hF
  refine lv_aload_n hx hb dX8_settleQuestion_0 rfl (lv_at hl 0 rfl) ?_
  refine lv_dup hx hb dX8_settleQuestion_1 rfl ?_
  refine va_get (D := D.1) (ci := 8) (v := .int (gI gT 1)) (C := RX8) (T := TX8) (N := 2) hx hb hts wi_X8 hown X.1 X.2.1 0 rfl rfl 1 (by decide) (hts _ q2_223) (fun _ h9 => h9) (fl_get (by decide)) dX8_settleQuestion_2 ?_
  refine lv_iconst (v := (3 : Int32)) hx hb dX8_settleQuestion_5 (by decide) ?_
  refine lv_isub hx hb dX8_settleQuestion_6 ?_
  refine va_put (D := D.1) (ci := 8) (v := .int ((gI gT 1) - (3 : Int32))) (ty := .int) (C := RX8) (T := TX8) (N := 2) hx hb hts wi_X8 tyX8 tyX8_ok nmX8 hown X.1 X.2.1 X.2.2.1 X.2.2.2.1 0 rfl rfl 1 (by decide) (hts _ q2_223) (fun _ h9 => h9) rfl (by decide +kernel) rfl rfl (by rw [List.length_map, List.length_range]; decide) dX8_settleQuestion_7 (fun H locs hP hD hS => ?_)
  have X : Hx D (tX8 yT ++ (tX0 yP0)) A s H locs (wX8 hT aT yT (sI gT 1 ((gI gT 1) - (3 : Int32))) ++ (wX0 hP0 aP0 yP0 gP0)) := Hx_set X (set_l (by rw [wG_len (m := 2) rfl]; decide) (wG_sI (k := 1) rfl)) hP hD hS
  refine lv_aload_n hx hb dX8_settleQuestion_10 rfl (lv_at hl 0 rfl) ?_
  refine va_get (D := D.1) (ci := 8) (v := .ref (aT 0)) (C := RX8) (T := TX8) (N := 2) hx hb hts wi_X8 hown X.1 X.2.1 0 rfl rfl 0 (by decide) (hts _ q2_222) (fun _ h9 => h9) (fl_get (by decide)) dX8_settleQuestion_11 ?_
  refine lv_aload_n hx hb dX8_settleQuestion_14 rfl (lv_at hl 0 rfl) ?_
  refine va_get (D := D.1) (ci := 8) (v := .int ((gI gT 1) - (3 : Int32))) (C := RX8) (T := TX8) (N := 2) hx hb hts wi_X8 hown X.1 X.2.1 0 rfl rfl 1 (by decide) (hts _ q2_223) (fun _ h9 => h9) (fl_get (by decide)) dX8_settleQuestion_15 ?_
  refine lv_iconst (v := (1 : Int32)) hx hb dX8_settleQuestion_18 (by decide) ?_
  refine lv_iadd hx hb dX8_settleQuestion_19 ?_
  obtain ⟨h_1, hF⟩ := grd_some hF
  refine va_iald (D := D.1) (f := gIA gT 0) hx hb X.1 X.2.1 1 0 rfl rfl (inB_ok h_1) dX8_settleQuestion_20 ?_
  refine lv_istore_n (lv' := [(3, .int (gIA gT 0 (((gI gT 1) - (3 : Int32)) + (1 : Int32)).toNatClampNeg)), (0, .ref hT), (1, .ref hP0), (2, .int x1)]) hx hb dX8_settleQuestion_21 rfl hl (by decide) rfl (fun ls hl => ?_)
  refine lv_aload_n hx hb dX8_settleQuestion_22 rfl (lv_at hl 1 rfl) ?_
  refine va_get (D := D.1) (ci := 8) (v := .ref (aT 0)) (C := RX8) (T := TX8) (N := 2) hx hb hts wi_X8 hown X.1 X.2.1 0 rfl rfl 0 (by decide) (hts _ q2_222) (fun _ h9 => h9) (fl_get (by decide)) dX8_settleQuestion_23 ?_
  refine lv_aload_n hx hb dX8_settleQuestion_26 rfl (lv_at hl 1 rfl) ?_
  refine va_get (D := D.1) (ci := 8) (v := .int ((gI gT 1) - (3 : Int32))) (C := RX8) (T := TX8) (N := 2) hx hb hts wi_X8 hown X.1 X.2.1 0 rfl rfl 1 (by decide) (hts _ q2_223) (fun _ h9 => h9) (fl_get (by decide)) dX8_settleQuestion_27 ?_
  refine lv_iconst (v := (2 : Int32)) hx hb dX8_settleQuestion_30 (by decide) ?_
  refine lv_iadd hx hb dX8_settleQuestion_31 ?_
  obtain ⟨h_2, hF⟩ := grd_some hF
  refine va_iald (D := D.1) (f := gIA gT 0) hx hb X.1 X.2.1 1 0 rfl rfl (inB_ok h_2) dX8_settleQuestion_32 ?_
  refine lv_istore (lv' := [(4, .int (gIA gT 0 (((gI gT 1) - (3 : Int32)) + (2 : Int32)).toNatClampNeg)), (3, .int (gIA gT 0 (((gI gT 1) - (3 : Int32)) + (1 : Int32)).toNatClampNeg)), (0, .ref hT), (1, .ref hP0), (2, .int x1)]) hx hb dX8_settleQuestion_33 hl (by decide) rfl (fun ls hl => ?_)
  refine lv_aload_n hx hb dX8_settleQuestion_35 rfl (lv_at hl 2 rfl) ?_
  refine va_get (D := D.1) (ci := 8) (v := .ref (aT 0)) (C := RX8) (T := TX8) (N := 2) hx hb hts wi_X8 hown X.1 X.2.1 0 rfl rfl 0 (by decide) (hts _ q2_222) (fun _ h9 => h9) (fl_get (by decide)) dX8_settleQuestion_36 ?_
  refine lv_aload_n hx hb dX8_settleQuestion_39 rfl (lv_at hl 2 rfl) ?_
  refine va_get (D := D.1) (ci := 8) (v := .int ((gI gT 1) - (3 : Int32))) (C := RX8) (T := TX8) (N := 2) hx hb hts wi_X8 hown X.1 X.2.1 0 rfl rfl 1 (by decide) (hts _ q2_223) (fun _ h9 => h9) (fl_get (by decide)) dX8_settleQuestion_40 ?_
  obtain ⟨h_3, hF⟩ := grd_some hF
  refine va_iald (D := D.1) (f := gIA gT 0) hx hb X.1 X.2.1 1 0 rfl rfl (inB_ok h_3) dX8_settleQuestion_43 ?_
  refine lv_if_ne (tgt := 69) hx hb dX8_settleQuestion_44 (by decide) (fun c => ?_) (fun c => ?_)
  · replace hF := iF c hF
    refine lv_iconst (v := (0 : Int32)) hx hb dX8_settleQuestion_69 (by decide) ?_
    have hq := Option.some.inj hF
    subst hq
    exact rt_z (v := (0 : Int32)) C X (by decide) dX8_settleQuestion_70
  · replace hF := iT c hF
    refine lv_iload_n hx hb dX8_settleQuestion_47 rfl (lv_at hl 1 rfl) ?_
    refine lv_if_ne (tgt := 55) hx hb dX8_settleQuestion_48 (by decide) (fun c => ?_) (fun c => ?_)
    · replace hF := iF c hF
      refine lv_iconst (v := (0 : Int32)) hx hb dX8_settleQuestion_55 (by decide) ?_
      exact (k_X8_settleQuestion_56 l D hT aT yT hP0 aP0 yP0) C X (lv_sub hl [2, 3, 4, 1, 0] rfl) hF
    · replace hF := iT c hF
      refine lv_iconst (v := (1 : Int32)) hx hb dX8_settleQuestion_51 (by decide) ?_
      refine lv_goto (tgt := 56) hx hb dX8_settleQuestion_52 (by decide) ?_
      exact (k_X8_settleQuestion_56 l D hT aT yT hP0 aP0 yP0) C X (lv_sub hl [2, 3, 4, 1, 0] rfl) hF

/-! ### X8_settle -/
theorem dX8_settle_0 : decode cX8_settle 0 = .ok (.aload_n 2, 1) := by decide +kernel
theorem dX8_settle_1 : decode cX8_settle 1 = .ok (.getfield 62, 3) := by decide +kernel
theorem dX8_settle_4 : decode cX8_settle 4 = .ok (.iload_n 3, 1) := by decide +kernel
theorem dX8_settle_5 : decode cX8_settle 5 = .ok (.iaload, 1) := by decide +kernel
theorem dX8_settle_6 : decode cX8_settle 6 = .ok (.tableswitch 373 3 70 #[286, 373, 373, 373, 373, 373, 373, 373, 373, 373, 373, 373, 373, 310, 303, 297, 327, 327, 327, 327, 373, 373, 373, 373, 373, 373, 373, 373, 373, 373, 373, 373, 373, 373, 373, 373, 373, 373, 373, 373, 373, 350, 373, 373, 373, 373, 373, 373, 373, 373, 373, 327, 373, 373, 373, 373, 373, 373, 373, 373, 310, 327, 327, 327, 325, 325, 325, 325], 286) := by decide +kernel
theorem dX8_settle_292 : decode cX8_settle 292 = .ok (.aload_n 0, 1) := by decide +kernel
theorem dX8_settle_293 : decode cX8_settle 293 = .ok (.aload_n 2, 1) := by decide +kernel
theorem dX8_settle_294 : decode cX8_settle 294 = .ok (.getfield 65, 3) := by decide +kernel
theorem dX8_settle_297 : decode cX8_settle 297 = .ok (.iload_n 3, 1) := by decide +kernel
theorem dX8_settle_298 : decode cX8_settle 298 = .ok (.iaload, 1) := by decide +kernel
theorem dX8_settle_299 : decode cX8_settle 299 = .ok (.invokevirtual 68, 3) := by decide +kernel
theorem dX8_settle_302 : decode cX8_settle 302 = .ok (.ireturn, 1) := by decide +kernel
theorem dX8_settle_303 : decode cX8_settle 303 = .ok (.aload_n 0, 1) := by decide +kernel
theorem dX8_settle_304 : decode cX8_settle 304 = .ok (.iconst 5, 1) := by decide +kernel
theorem dX8_settle_305 : decode cX8_settle 305 = .ok (.invokevirtual 68, 3) := by decide +kernel
theorem dX8_settle_308 : decode cX8_settle 308 = .ok (.ireturn, 1) := by decide +kernel
theorem dX8_settle_309 : decode cX8_settle 309 = .ok (.aload_n 0, 1) := by decide +kernel
theorem dX8_settle_310 : decode cX8_settle 310 = .ok (.bipush 7, 2) := by decide +kernel
theorem dX8_settle_312 : decode cX8_settle 312 = .ok (.invokevirtual 68, 3) := by decide +kernel
theorem dX8_settle_315 : decode cX8_settle 315 = .ok (.ireturn, 1) := by decide +kernel
theorem dX8_settle_316 : decode cX8_settle 316 = .ok (.aload_n 0, 1) := by decide +kernel
theorem dX8_settle_317 : decode cX8_settle 317 = .ok (.aload_n 1, 1) := by decide +kernel
theorem dX8_settle_318 : decode cX8_settle 318 = .ok (.aload_n 2, 1) := by decide +kernel
theorem dX8_settle_319 : decode cX8_settle 319 = .ok (.getfield 72, 3) := by decide +kernel
theorem dX8_settle_322 : decode cX8_settle 322 = .ok (.iload_n 3, 1) := by decide +kernel
theorem dX8_settle_323 : decode cX8_settle 323 = .ok (.iaload, 1) := by decide +kernel
theorem dX8_settle_324 : decode cX8_settle 324 = .ok (.invokevirtual 75, 3) := by decide +kernel
theorem dX8_settle_327 : decode cX8_settle 327 = .ok (.invokevirtual 68, 3) := by decide +kernel
theorem dX8_settle_330 : decode cX8_settle 330 = .ok (.ireturn, 1) := by decide +kernel
theorem dX8_settle_331 : decode cX8_settle 331 = .ok (.iconst 1, 1) := by decide +kernel
theorem dX8_settle_332 : decode cX8_settle 332 = .ok (.ireturn, 1) := by decide +kernel
theorem dX8_settle_333 : decode cX8_settle 333 = .ok (.aload_n 0, 1) := by decide +kernel
theorem dX8_settle_334 : decode cX8_settle 334 = .ok (.getfield 15, 3) := by decide +kernel
theorem dX8_settle_337 : decode cX8_settle 337 = .ok (.iconst 1, 1) := by decide +kernel
theorem dX8_settle_338 : decode cX8_settle 338 = .ok (.if_icmp .lt 16, 3) := by decide +kernel
theorem dX8_settle_341 : decode cX8_settle 341 = .ok (.aload_n 0, 1) := by decide +kernel
theorem dX8_settle_342 : decode cX8_settle 342 = .ok (.aload_n 2, 1) := by decide +kernel
theorem dX8_settle_343 : decode cX8_settle 343 = .ok (.iload_n 3, 1) := by decide +kernel
theorem dX8_settle_344 : decode cX8_settle 344 = .ok (.invokevirtual 78, 3) := by decide +kernel
theorem dX8_settle_347 : decode cX8_settle 347 = .ok (.ifCond .eq 7, 3) := by decide +kernel
theorem dX8_settle_350 : decode cX8_settle 350 = .ok (.iconst 1, 1) := by decide +kernel
theorem dX8_settle_351 : decode cX8_settle 351 = .ok (.goto 4, 3) := by decide +kernel
theorem dX8_settle_354 : decode cX8_settle 354 = .ok (.iconst 0, 1) := by decide +kernel
theorem dX8_settle_355 : decode cX8_settle 355 = .ok (.ireturn, 1) := by decide +kernel
theorem dX8_settle_356 : decode cX8_settle 356 = .ok (.aload_n 0, 1) := by decide +kernel
theorem dX8_settle_357 : decode cX8_settle 357 = .ok (.getfield 15, 3) := by decide +kernel
theorem dX8_settle_360 : decode cX8_settle 360 = .ok (.iconst 3, 1) := by decide +kernel
theorem dX8_settle_361 : decode cX8_settle 361 = .ok (.if_icmp .lt 16, 3) := by decide +kernel
theorem dX8_settle_364 : decode cX8_settle 364 = .ok (.aload_n 0, 1) := by decide +kernel
theorem dX8_settle_365 : decode cX8_settle 365 = .ok (.aload_n 2, 1) := by decide +kernel
theorem dX8_settle_366 : decode cX8_settle 366 = .ok (.iload_n 3, 1) := by decide +kernel
theorem dX8_settle_367 : decode cX8_settle 367 = .ok (.invokevirtual 82, 3) := by decide +kernel
theorem dX8_settle_370 : decode cX8_settle 370 = .ok (.ifCond .eq 7, 3) := by decide +kernel
theorem dX8_settle_373 : decode cX8_settle 373 = .ok (.iconst 1, 1) := by decide +kernel
theorem dX8_settle_374 : decode cX8_settle 374 = .ok (.goto 4, 3) := by decide +kernel
theorem dX8_settle_377 : decode cX8_settle 377 = .ok (.iconst 0, 1) := by decide +kernel
theorem dX8_settle_378 : decode cX8_settle 378 = .ok (.ireturn, 1) := by decide +kernel
theorem dX8_settle_379 : decode cX8_settle 379 = .ok (.aload_n 0, 1) := by decide +kernel
theorem dX8_settle_380 : decode cX8_settle 380 = .ok (.getfield 15, 3) := by decide +kernel
theorem dX8_settle_383 : decode cX8_settle 383 = .ok (.iconst 2, 1) := by decide +kernel
theorem dX8_settle_384 : decode cX8_settle 384 = .ok (.if_icmp .lt 16, 3) := by decide +kernel
theorem dX8_settle_387 : decode cX8_settle 387 = .ok (.aload_n 0, 1) := by decide +kernel
theorem dX8_settle_388 : decode cX8_settle 388 = .ok (.aload_n 2, 1) := by decide +kernel
theorem dX8_settle_389 : decode cX8_settle 389 = .ok (.iload_n 3, 1) := by decide +kernel
theorem dX8_settle_390 : decode cX8_settle 390 = .ok (.invokevirtual 85, 3) := by decide +kernel
theorem dX8_settle_393 : decode cX8_settle 393 = .ok (.ifCond .eq 7, 3) := by decide +kernel
theorem dX8_settle_396 : decode cX8_settle 396 = .ok (.iconst 1, 1) := by decide +kernel
theorem dX8_settle_397 : decode cX8_settle 397 = .ok (.goto 4, 3) := by decide +kernel
theorem dX8_settle_400 : decode cX8_settle 400 = .ok (.iconst 0, 1) := by decide +kernel
theorem dX8_settle_401 : decode cX8_settle 401 = .ok (.ireturn, 1) := by decide +kernel
abbrev R_X8_settle : Room := ({ frames := 3, cells := 0, slots := 0, locals := 111 } : Room)
def b_X8_settle_379 (gT : Gs) (gP0 : Gs) (gP1 : Gs) (v3 : Int32) : Option (Int32 × Gs × Gs) :=
  if (gI gT 1) < (2 : Int32) then (some ((0 : Int32), gT, gP1)) else (bnd (f_X8_settleTwo gT gP1 v3) (fun q_6 => if q_6.1 = 0 then (some ((0 : Int32), q_6.2.1, q_6.2.2)) else (some ((1 : Int32), q_6.2.1, q_6.2.2))))
def b_X8_settle_316 (gT : Gs) (gP0 : Gs) (gP1 : Gs) (v3 : Int32) : Option (Int32 × Gs × Gs) :=
  grd (inB v3 840) (bnd (f_X4_sortOf gP0 (gIA gP1 5 v3.toNatClampNeg)) (fun q_9 => bnd (f_X8_give gT q_9) (fun q_11 => grd (zB q_11.1) (some (q_11.1, q_11.2, gP1)))))
def b_X8_settle_333 (gT : Gs) (gP0 : Gs) (gP1 : Gs) (v3 : Int32) : Option (Int32 × Gs × Gs) :=
  if (gI gT 1) < (1 : Int32) then (some ((0 : Int32), gT, gP1)) else (bnd (f_X8_settleOne gT gP1 v3) (fun q_20 => if q_20.1 = 0 then (some ((0 : Int32), q_20.2.1, q_20.2.2)) else (some ((1 : Int32), q_20.2.1, q_20.2.2))))
def f_X8_settle (gT : Gs) (gP0 : Gs) (gP1 : Gs) (x2 : Int32) : Option (Int32 × Gs × Gs) :=
  grd (inB x2 840) (if (gIA gP1 0 x2.toNatClampNeg) = (3 : Int32) then (grd (inB x2 840) (bnd (f_X8_give gT (gIA gP1 2 x2.toNatClampNeg)) (fun q_3 => grd (zB q_3.1) (some (q_3.1, q_3.2, gP1))))) else (if (gIA gP1 0 x2.toNatClampNeg) = (4 : Int32) then (b_X8_settle_379 gT gP0 gP1 x2) else (if (gIA gP1 0 x2.toNatClampNeg) = (5 : Int32) then (b_X8_settle_379 gT gP0 gP1 x2) else (if (gIA gP1 0 x2.toNatClampNeg) = (6 : Int32) then (b_X8_settle_379 gT gP0 gP1 x2) else (if (gIA gP1 0 x2.toNatClampNeg) = (7 : Int32) then (b_X8_settle_379 gT gP0 gP1 x2) else (if (gIA gP1 0 x2.toNatClampNeg) = (8 : Int32) then (b_X8_settle_379 gT gP0 gP1 x2) else (if (gIA gP1 0 x2.toNatClampNeg) = (9 : Int32) then (b_X8_settle_379 gT gP0 gP1 x2) else (if (gIA gP1 0 x2.toNatClampNeg) = (10 : Int32) then (b_X8_settle_379 gT gP0 gP1 x2) else (if (gIA gP1 0 x2.toNatClampNeg) = (11 : Int32) then (b_X8_settle_379 gT gP0 gP1 x2) else (if (gIA gP1 0 x2.toNatClampNeg) = (12 : Int32) then (b_X8_settle_379 gT gP0 gP1 x2) else (if (gIA gP1 0 x2.toNatClampNeg) = (13 : Int32) then (b_X8_settle_379 gT gP0 gP1 x2) else (if (gIA gP1 0 x2.toNatClampNeg) = (14 : Int32) then (b_X8_settle_379 gT gP0 gP1 x2) else (if (gIA gP1 0 x2.toNatClampNeg) = (15 : Int32) then (b_X8_settle_379 gT gP0 gP1 x2) else (if (gIA gP1 0 x2.toNatClampNeg) = (16 : Int32) then (b_X8_settle_316 gT gP0 gP1 x2) else (if (gIA gP1 0 x2.toNatClampNeg) = (17 : Int32) then (bnd (f_X8_give gT (7 : Int32)) (fun q_14 => grd (zB q_14.1) (some (q_14.1, q_14.2, gP1)))) else (if (gIA gP1 0 x2.toNatClampNeg) = (18 : Int32) then (bnd (f_X8_give gT (5 : Int32)) (fun q_17 => grd (zB q_17.1) (some (q_17.1, q_17.2, gP1)))) else (if (gIA gP1 0 x2.toNatClampNeg) = (19 : Int32) then (b_X8_settle_333 gT gP0 gP1 x2) else (if (gIA gP1 0 x2.toNatClampNeg) = (20 : Int32) then (b_X8_settle_333 gT gP0 gP1 x2) else (if (gIA gP1 0 x2.toNatClampNeg) = (21 : Int32) then (b_X8_settle_333 gT gP0 gP1 x2) else (if (gIA gP1 0 x2.toNatClampNeg) = (22 : Int32) then (b_X8_settle_333 gT gP0 gP1 x2) else (if (gIA gP1 0 x2.toNatClampNeg) = (23 : Int32) then (b_X8_settle_379 gT gP0 gP1 x2) else (if (gIA gP1 0 x2.toNatClampNeg) = (24 : Int32) then (b_X8_settle_379 gT gP0 gP1 x2) else (if (gIA gP1 0 x2.toNatClampNeg) = (25 : Int32) then (b_X8_settle_379 gT gP0 gP1 x2) else (if (gIA gP1 0 x2.toNatClampNeg) = (26 : Int32) then (b_X8_settle_379 gT gP0 gP1 x2) else (if (gIA gP1 0 x2.toNatClampNeg) = (27 : Int32) then (b_X8_settle_379 gT gP0 gP1 x2) else (if (gIA gP1 0 x2.toNatClampNeg) = (28 : Int32) then (b_X8_settle_379 gT gP0 gP1 x2) else (if (gIA gP1 0 x2.toNatClampNeg) = (29 : Int32) then (b_X8_settle_379 gT gP0 gP1 x2) else (if (gIA gP1 0 x2.toNatClampNeg) = (30 : Int32) then (b_X8_settle_379 gT gP0 gP1 x2) else (if (gIA gP1 0 x2.toNatClampNeg) = (31 : Int32) then (b_X8_settle_379 gT gP0 gP1 x2) else (if (gIA gP1 0 x2.toNatClampNeg) = (32 : Int32) then (b_X8_settle_379 gT gP0 gP1 x2) else (if (gIA gP1 0 x2.toNatClampNeg) = (33 : Int32) then (b_X8_settle_379 gT gP0 gP1 x2) else (if (gIA gP1 0 x2.toNatClampNeg) = (34 : Int32) then (b_X8_settle_379 gT gP0 gP1 x2) else (if (gIA gP1 0 x2.toNatClampNeg) = (35 : Int32) then (b_X8_settle_379 gT gP0 gP1 x2) else (if (gIA gP1 0 x2.toNatClampNeg) = (36 : Int32) then (b_X8_settle_379 gT gP0 gP1 x2) else (if (gIA gP1 0 x2.toNatClampNeg) = (37 : Int32) then (b_X8_settle_379 gT gP0 gP1 x2) else (if (gIA gP1 0 x2.toNatClampNeg) = (38 : Int32) then (b_X8_settle_379 gT gP0 gP1 x2) else (if (gIA gP1 0 x2.toNatClampNeg) = (39 : Int32) then (b_X8_settle_379 gT gP0 gP1 x2) else (if (gIA gP1 0 x2.toNatClampNeg) = (40 : Int32) then (b_X8_settle_379 gT gP0 gP1 x2) else (if (gIA gP1 0 x2.toNatClampNeg) = (41 : Int32) then (b_X8_settle_379 gT gP0 gP1 x2) else (if (gIA gP1 0 x2.toNatClampNeg) = (42 : Int32) then (b_X8_settle_379 gT gP0 gP1 x2) else (if (gIA gP1 0 x2.toNatClampNeg) = (43 : Int32) then (b_X8_settle_379 gT gP0 gP1 x2) else (if (gIA gP1 0 x2.toNatClampNeg) = (44 : Int32) then (if (gI gT 1) < (3 : Int32) then (some ((0 : Int32), gT, gP1)) else (bnd (f_X8_settleQuestion gT gP1 x2) (fun q_22 => if q_22.1 = 0 then (some ((0 : Int32), q_22.2.1, q_22.2.2)) else (some ((1 : Int32), q_22.2.1, q_22.2.2))))) else (if (gIA gP1 0 x2.toNatClampNeg) = (45 : Int32) then (b_X8_settle_379 gT gP0 gP1 x2) else (if (gIA gP1 0 x2.toNatClampNeg) = (46 : Int32) then (b_X8_settle_379 gT gP0 gP1 x2) else (if (gIA gP1 0 x2.toNatClampNeg) = (47 : Int32) then (b_X8_settle_379 gT gP0 gP1 x2) else (if (gIA gP1 0 x2.toNatClampNeg) = (48 : Int32) then (b_X8_settle_379 gT gP0 gP1 x2) else (if (gIA gP1 0 x2.toNatClampNeg) = (49 : Int32) then (b_X8_settle_379 gT gP0 gP1 x2) else (if (gIA gP1 0 x2.toNatClampNeg) = (50 : Int32) then (b_X8_settle_379 gT gP0 gP1 x2) else (if (gIA gP1 0 x2.toNatClampNeg) = (51 : Int32) then (b_X8_settle_379 gT gP0 gP1 x2) else (if (gIA gP1 0 x2.toNatClampNeg) = (52 : Int32) then (b_X8_settle_379 gT gP0 gP1 x2) else (if (gIA gP1 0 x2.toNatClampNeg) = (53 : Int32) then (b_X8_settle_379 gT gP0 gP1 x2) else (if (gIA gP1 0 x2.toNatClampNeg) = (54 : Int32) then (b_X8_settle_333 gT gP0 gP1 x2) else (if (gIA gP1 0 x2.toNatClampNeg) = (55 : Int32) then (b_X8_settle_379 gT gP0 gP1 x2) else (if (gIA gP1 0 x2.toNatClampNeg) = (56 : Int32) then (b_X8_settle_379 gT gP0 gP1 x2) else (if (gIA gP1 0 x2.toNatClampNeg) = (57 : Int32) then (b_X8_settle_379 gT gP0 gP1 x2) else (if (gIA gP1 0 x2.toNatClampNeg) = (58 : Int32) then (b_X8_settle_379 gT gP0 gP1 x2) else (if (gIA gP1 0 x2.toNatClampNeg) = (59 : Int32) then (b_X8_settle_379 gT gP0 gP1 x2) else (if (gIA gP1 0 x2.toNatClampNeg) = (60 : Int32) then (b_X8_settle_379 gT gP0 gP1 x2) else (if (gIA gP1 0 x2.toNatClampNeg) = (61 : Int32) then (b_X8_settle_379 gT gP0 gP1 x2) else (if (gIA gP1 0 x2.toNatClampNeg) = (62 : Int32) then (b_X8_settle_379 gT gP0 gP1 x2) else (if (gIA gP1 0 x2.toNatClampNeg) = (63 : Int32) then (b_X8_settle_316 gT gP0 gP1 x2) else (if (gIA gP1 0 x2.toNatClampNeg) = (64 : Int32) then (b_X8_settle_333 gT gP0 gP1 x2) else (if (gIA gP1 0 x2.toNatClampNeg) = (65 : Int32) then (b_X8_settle_333 gT gP0 gP1 x2) else (if (gIA gP1 0 x2.toNatClampNeg) = (66 : Int32) then (b_X8_settle_333 gT gP0 gP1 x2) else (if (gIA gP1 0 x2.toNatClampNeg) = (67 : Int32) then (some ((1 : Int32), gT, gP1)) else (if (gIA gP1 0 x2.toNatClampNeg) = (68 : Int32) then (some ((1 : Int32), gT, gP1)) else (if (gIA gP1 0 x2.toNatClampNeg) = (69 : Int32) then (some ((1 : Int32), gT, gP1)) else (if (gIA gP1 0 x2.toNatClampNeg) = (70 : Int32) then (some ((1 : Int32), gT, gP1)) else (b_X8_settle_379 gT gP0 gP1 x2)))))))))))))))))))))))))))))))))))))))))))))))))))))))))))))))))))))
def S_X8_settle_379 (l : Launch) (D : Dx) (hT : Nat) (aT : Nat → Nat) (yT : Nat → ClassId) (hP0 : Nat) (aP0 : Nat → Nat) (yP0 : Nat → ClassId) (hP1 : Nat) (aP1 : Nat → Nat) (yP1 : Nat → ClassId) (fn : Gs → Gs → Gs → Int32 → Option (Int32 × Gs × Gs)) : Prop :=
  ∀ {p : Program} {e : Env} {s : State} {m : MethodId} {args : Array Value} {below : List Frame} {meth : Method} {c : Code} {H : Heap} {locs : List Loc} {A : Nat → Prop} {ls : Array Slot} {gT : Gs} {gP0 : Gs} {gP1 : Gs} {v3 : Int32} {q : Int32 × Gs × Gs}, Cx p s m args meth c cX8_settle (some .boolean) 4 RX8 lw_all → Hx D (tX8 yT ++ (tX4 yP0 ++ (tX0 yP1))) A s H locs (wX8 hT aT yT gT ++ (wX4 hP0 aP0 yP0 gP0 ++ (wX0 hP1 aP1 yP1 gP1))) → lv_has ls 4 [(0, .ref hT), (2, .ref hP1), (3, .int v3)] → fn gT gP0 gP1 v3 = some q → W p l e R_X8_settle s m args below meth c H locs 0 0 (MQ below (QI D A (wX8 hT aT yT q.2.1 ++ (wX4 hP0 aP0 yP0 gP0 ++ (wX0 hP1 aP1 yP1 q.2.2))) q.1) args s 0 0 A) (F0 m 379 ls [])
def S_X8_settle_316 (l : Launch) (D : Dx) (hT : Nat) (aT : Nat → Nat) (yT : Nat → ClassId) (hP0 : Nat) (aP0 : Nat → Nat) (yP0 : Nat → ClassId) (hP1 : Nat) (aP1 : Nat → Nat) (yP1 : Nat → ClassId) (fn : Gs → Gs → Gs → Int32 → Option (Int32 × Gs × Gs)) : Prop :=
  ∀ {p : Program} {e : Env} {s : State} {m : MethodId} {args : Array Value} {below : List Frame} {meth : Method} {c : Code} {H : Heap} {locs : List Loc} {A : Nat → Prop} {ls : Array Slot} {gT : Gs} {gP0 : Gs} {gP1 : Gs} {v3 : Int32} {q : Int32 × Gs × Gs}, Cx p s m args meth c cX8_settle (some .boolean) 4 RX8 lw_all → Hx D (tX8 yT ++ (tX4 yP0 ++ (tX0 yP1))) A s H locs (wX8 hT aT yT gT ++ (wX4 hP0 aP0 yP0 gP0 ++ (wX0 hP1 aP1 yP1 gP1))) → lv_has ls 4 [(0, .ref hT), (1, .ref hP0), (2, .ref hP1), (3, .int v3)] → fn gT gP0 gP1 v3 = some q → W p l e R_X8_settle s m args below meth c H locs 0 0 (MQ below (QI D A (wX8 hT aT yT q.2.1 ++ (wX4 hP0 aP0 yP0 gP0 ++ (wX0 hP1 aP1 yP1 q.2.2))) q.1) args s 0 0 A) (F0 m 316 ls [])
def S_X8_settle_333 (l : Launch) (D : Dx) (hT : Nat) (aT : Nat → Nat) (yT : Nat → ClassId) (hP0 : Nat) (aP0 : Nat → Nat) (yP0 : Nat → ClassId) (hP1 : Nat) (aP1 : Nat → Nat) (yP1 : Nat → ClassId) (fn : Gs → Gs → Gs → Int32 → Option (Int32 × Gs × Gs)) : Prop :=
  ∀ {p : Program} {e : Env} {s : State} {m : MethodId} {args : Array Value} {below : List Frame} {meth : Method} {c : Code} {H : Heap} {locs : List Loc} {A : Nat → Prop} {ls : Array Slot} {gT : Gs} {gP0 : Gs} {gP1 : Gs} {v3 : Int32} {q : Int32 × Gs × Gs}, Cx p s m args meth c cX8_settle (some .boolean) 4 RX8 lw_all → Hx D (tX8 yT ++ (tX4 yP0 ++ (tX0 yP1))) A s H locs (wX8 hT aT yT gT ++ (wX4 hP0 aP0 yP0 gP0 ++ (wX0 hP1 aP1 yP1 gP1))) → lv_has ls 4 [(0, .ref hT), (2, .ref hP1), (3, .int v3)] → fn gT gP0 gP1 v3 = some q → W p l e R_X8_settle s m args below meth c H locs 0 0 (MQ below (QI D A (wX8 hT aT yT q.2.1 ++ (wX4 hP0 aP0 yP0 gP0 ++ (wX0 hP1 aP1 yP1 q.2.2))) q.1) args s 0 0 A) (F0 m 333 ls [])
set_option maxHeartbeats 4000000 in
set_option maxRecDepth 100000 in
theorem k_X8_settle_379 (l : Launch) (D : Dx) (hT : Nat) (aT : Nat → Nat) (yT : Nat → ClassId) (hP0 : Nat) (aP0 : Nat → Nat) (yP0 : Nat → ClassId) (hP1 : Nat) (aP1 : Nat → Nat) (yP1 : Nat → ClassId) : S_X8_settle_379 l D hT aT yT hP0 aP0 yP0 hP1 aP1 yP1 (b_X8_settle_379) := by
  intro p e s m args below meth c H locs A ls gT gP0 gP1 v3 q C X hl hF
  obtain ⟨hx, hb, hr, hml, hown, hts, hlk⟩ := id C
  unfold b_X8_settle_379 at hF
  refine lv_aload_n hx hb dX8_settle_379 rfl (lv_at hl 0 rfl) ?_
  refine va_get (D := D.1) (ci := 8) (v := .int (gI gT 1)) (C := RX8) (T := TX8) (N := 2) hx hb hts wi_X8 hown X.1 X.2.1 0 rfl rfl 1 (by decide) (hts _ q2_223) (fun _ h9 => h9) (fl_get (by decide)) dX8_settle_380 ?_
  refine lv_iconst (v := (2 : Int32)) hx hb dX8_settle_383 (by decide) ?_
  refine lv_icmp_lt (tgt := 400) hx hb dX8_settle_384 (by decide) (fun c => ?_) (fun c => ?_)
  · replace hF := iT c hF
    refine lv_iconst (v := (0 : Int32)) hx hb dX8_settle_400 (by decide) ?_
    have hq := Option.some.inj hF
    subst hq
    exact rt_z (v := (0 : Int32)) C X (by decide) dX8_settle_401
  · replace hF := iF c hF
    refine lv_aload_n hx hb dX8_settle_387 rfl (lv_at hl 0 rfl) ?_
    refine lv_aload_n hx hb dX8_settle_388 rfl (lv_at hl 1 rfl) ?_
    refine lv_iload_n hx hb dX8_settle_389 rfl (lv_at hl 2 rfl) ?_
    obtain ⟨q_6, hc_7, hF⟩ := bnd_some hF
    refine cV_i (As := [.ref hP1, .int v3]) (rest := []) C X (c_X8_settleTwo l D hT aT yT hP1 aP1 yP1 gT gP1 v3 q_6 hc_7 _) (cwV 2 hts (good_V q5_8 q5_10 q0_46 q1_11 q5_11) rfl rfl rfl (by decide +kernel) ⟨Nat.le_of_ble_eq_true rfl, Nat.le_of_ble_eq_true rfl⟩) (va_recv X.1 X.2.1 (ci := 8) (q0 := 0) rfl rfl) (X.1.sub (tys' := tX8 yT ++ (tX0 yP1)) [0, 11, 12, 13, 14, 15, 16, 17, 18, 19, 20, 21, 22, 23, 24, 25] rfl) (X.2.1.sub (ws' := wX8 hT aT yT gT ++ (wX0 hP1 aP1 yP1 gP1)) [0, 1, 13, 14, 15, 16, 17, 18, 19, 20, 21, 22, 23, 24, 25, 26, 27, 28] rfl) (X.2.2.1.sub (ws' := wX8 hT aT yT gT ++ (wX0 hP1 aP1 yP1 gP1)) [0, 1, 13, 14, 15, 16, 17, 18, 19, 20, 21, 22, 23, 24, 25, 26, 27, 28] (by decide) rfl) (free_of (wC := wX8 hT aT yT gT ++ (wX0 hP1 aP1 yP1 gP1)) (isC := [0, 1, 13, 14, 15, 16, 17, 18, 19, 20, 21, 22, 23, 24, 25, 26, 27, 28]) X rfl) hl.1 rfl rfl (Nat.le_of_ble_eq_true rfl) dX8_settle_390 ⟨Nat.le_of_ble_eq_true rfl, Nat.le_of_ble_eq_true rfl⟩ (fun t H1 locs1 ht hB hk hS => ?_)
    have X : Hx D (tX8 yT ++ (tX4 yP0 ++ (tX0 yP1))) A s H1 locs1 (wX8 hT aT yT q_6.2.1 ++ (wX4 hP0 aP0 yP0 gP0 ++ (wX0 hP1 aP1 yP1 q_6.2.2))) := Hx_after (isC := [0, 1, 13, 14, 15, 16, 17, 18, 19, 20, 21, 22, 23, 24, 25, 26, 27, 28]) (isR := [2, 3, 4, 5, 6, 7, 8, 9, 10, 11, 12]) (pm := [11, 12, 0, 1, 2, 3, 4, 5, 6, 7, 8, 9, 10, 13, 14, 15, 16, 17, 18, 19, 20, 21, 22, 23, 24, 25, 26, 27, 28]) (wr := wX4 hP0 aP0 yP0 gP0) X ⟨rfl, rfl, by decide, by decide, rfl, by decide⟩ ht hB hk hS
    clear hk hS ht hB
    generalize H1 = H at X ⊢
    generalize locs1 = locs at X ⊢
    refine lv_if_eq (tgt := 400) hx hb dX8_settle_393 (by decide) (fun c => ?_) (fun c => ?_)
    · replace hF := iT c hF
      refine lv_iconst (v := (0 : Int32)) hx hb dX8_settle_400 (by decide) ?_
      have hq := Option.some.inj hF
      subst hq
      exact rt_z (v := (0 : Int32)) C X (by decide) dX8_settle_401
    · replace hF := iF c hF
      refine lv_iconst (v := (1 : Int32)) hx hb dX8_settle_396 (by decide) ?_
      refine lv_goto (tgt := 401) hx hb dX8_settle_397 (by decide) ?_
      have hq := Option.some.inj hF
      subst hq
      exact rt_z (v := (1 : Int32)) C X (by decide) dX8_settle_401
set_option maxHeartbeats 4000000 in
set_option maxRecDepth 100000 in
theorem k_X8_settle_316 (l : Launch) (D : Dx) (hT : Nat) (aT : Nat → Nat) (yT : Nat → ClassId) (hP0 : Nat) (aP0 : Nat → Nat) (yP0 : Nat → ClassId) (hP1 : Nat) (aP1 : Nat → Nat) (yP1 : Nat → ClassId) : S_X8_settle_316 l D hT aT yT hP0 aP0 yP0 hP1 aP1 yP1 (b_X8_settle_316) := by
  intro p e s m args below meth c H locs A ls gT gP0 gP1 v3 q C X hl hF
  obtain ⟨hx, hb, hr, hml, hown, hts, hlk⟩ := id C
  unfold b_X8_settle_316 at hF
  refine lv_aload_n hx hb dX8_settle_316 rfl (lv_at hl 0 rfl) ?_
  refine lv_aload_n hx hb dX8_settle_317 rfl (lv_at hl 1 rfl) ?_
  refine lv_aload_n hx hb dX8_settle_318 rfl (lv_at hl 2 rfl) ?_
  refine va_getN (D := D.1) (ci := 0) (v := .ref (aP1 5)) (C := RX0) (T := TX0) (N := 19) hx hb hts wi_X0 hown X.1 X.2.1 13 rfl rfl 5 (by decide) (X.2.2.2.2.2.1.use q1_227 rfl) (fun _ h9 => h9) (fl_get (by decide)) dX8_settle_319 ?_
  refine lv_iload_n hx hb dX8_settle_322 rfl (lv_at hl 3 rfl) ?_
  obtain ⟨h_8, hF⟩ := grd_some hF
  refine va_iald (D := D.1) (f := gIA gP1 5) hx hb X.1 X.2.1 19 16 rfl rfl (inB_ok h_8) dX8_settle_323 ?_
  obtain ⟨q_9, hc_10, hF⟩ := bnd_some hF
  refine cV_i (As := [.int (gIA gP1 5 v3.toNatClampNeg)]) (rest := [.ref hT]) C X (c_X4_sortOf l D hP0 aP0 yP0 gP0 (gIA gP1 5 v3.toNatClampNeg) q_9 hc_10 _) (cwV 1 hts (good_V q4_232 q4_233 q4_234 q1_7 q4_235) rfl rfl rfl (by decide +kernel) ⟨Nat.le_of_ble_eq_true rfl, Nat.le_of_ble_eq_true rfl⟩) (va_recv X.1 X.2.1 (ci := 4) (q0 := 2) rfl rfl) (X.1.sub (tys' := tX4 yP0) [1, 2, 3, 4, 5, 6, 7, 8, 9, 10] rfl) (X.2.1.sub (ws' := wX4 hP0 aP0 yP0 gP0) [2, 3, 4, 5, 6, 7, 8, 9, 10, 11, 12] rfl) (X.2.2.1.sub (ws' := wX4 hP0 aP0 yP0 gP0) [2, 3, 4, 5, 6, 7, 8, 9, 10, 11, 12] (by decide) rfl) (free_of (wC := wX4 hP0 aP0 yP0 gP0) (isC := [2, 3, 4, 5, 6, 7, 8, 9, 10, 11, 12]) X rfl) hl.1 rfl rfl (Nat.le_of_ble_eq_true rfl) dX8_settle_324 ⟨Nat.le_of_ble_eq_true rfl, Nat.le_of_ble_eq_true rfl⟩ (fun t H1 locs1 ht hB hk hS => ?_)
  have X : Hx D (tX8 yT ++ (tX4 yP0 ++ (tX0 yP1))) A s H1 locs1 (wX8 hT aT yT gT ++ (wX4 hP0 aP0 yP0 gP0 ++ (wX0 hP1 aP1 yP1 gP1))) := Hx_after (isC := [2, 3, 4, 5, 6, 7, 8, 9, 10, 11, 12]) (isR := [0, 1, 13, 14, 15, 16, 17, 18, 19, 20, 21, 22, 23, 24, 25, 26, 27, 28]) (pm := [0, 1, 18, 19, 20, 21, 22, 23, 24, 25, 26, 27, 28, 2, 3, 4, 5, 6, 7, 8, 9, 10, 11, 12, 13, 14, 15, 16, 17]) (wr := wX8 hT aT yT gT ++ (wX0 hP1 aP1 yP1 gP1)) X ⟨rfl, rfl, by decide, by decide, rfl, by decide⟩ ht hB hk hS
  clear hk hS ht hB
  generalize H1 = H at X ⊢
  generalize locs1 = locs at X ⊢
  obtain ⟨q_11, hc_12, hF⟩ := bnd_some hF
  refine cV_i (As := [.int q_9]) (rest := []) C X (c_X8_give l D hT aT yT gT q_9 q_11 hc_12 _) (cwV 1 hts (good_V q4_228 q4_230 q0_43 q1_11 q4_231) rfl rfl rfl (by decide +kernel) ⟨Nat.le_of_ble_eq_true rfl, Nat.le_of_ble_eq_true rfl⟩) (va_recv X.1 X.2.1 (ci := 8) (q0 := 0) rfl rfl) (X.1.sub (tys' := tX8 yT) [0] rfl) (X.2.1.sub (ws' := wX8 hT aT yT gT) [0, 1] rfl) (X.2.2.1.sub (ws' := wX8 hT aT yT gT) [0, 1] (by decide) rfl) (free_of (wC := wX8 hT aT yT gT) (isC := [0, 1]) X rfl) hl.1 rfl rfl (Nat.le_of_ble_eq_true rfl) dX8_settle_327 ⟨Nat.le_of_ble_eq_true rfl, Nat.le_of_ble_eq_true rfl⟩ (fun t H1 locs1 ht hB hk hS => ?_)
  have X : Hx D (tX8 yT ++ (tX4 yP0 ++ (tX0 yP1))) A s H1 locs1 (wX8 hT aT yT q_11.2 ++ (wX4 hP0 aP0 yP0 gP0 ++ (wX0 hP1 aP1 yP1 gP1))) := Hx_after (isC := [0, 1]) (isR := [2, 3, 4, 5, 6, 7, 8, 9, 10, 11, 12, 13, 14, 15, 16, 17, 18, 19, 20, 21, 22, 23, 24, 25, 26, 27, 28]) (pm := [27, 28, 0, 1, 2, 3, 4, 5, 6, 7, 8, 9, 10, 11, 12, 13, 14, 15, 16, 17, 18, 19, 20, 21, 22, 23, 24, 25, 26]) (wr := wX4 hP0 aP0 yP0 gP0 ++ (wX0 hP1 aP1 yP1 gP1)) X ⟨rfl, rfl, by decide, by decide, rfl, by decide⟩ ht hB hk hS
  clear hk hS ht hB
  generalize H1 = H at X ⊢
  generalize locs1 = locs at X ⊢
  obtain ⟨h_13, hF⟩ := grd_some hF
  have hq := Option.some.inj hF
  subst hq
  exact rt_z (v := q_11.1) C X (zB_n h_13) dX8_settle_330
set_option maxHeartbeats 4000000 in
set_option maxRecDepth 100000 in
theorem k_X8_settle_333 (l : Launch) (D : Dx) (hT : Nat) (aT : Nat → Nat) (yT : Nat → ClassId) (hP0 : Nat) (aP0 : Nat → Nat) (yP0 : Nat → ClassId) (hP1 : Nat) (aP1 : Nat → Nat) (yP1 : Nat → ClassId) : S_X8_settle_333 l D hT aT yT hP0 aP0 yP0 hP1 aP1 yP1 (b_X8_settle_333) := by
  intro p e s m args below meth c H locs A ls gT gP0 gP1 v3 q C X hl hF
  obtain ⟨hx, hb, hr, hml, hown, hts, hlk⟩ := id C
  unfold b_X8_settle_333 at hF
  refine lv_aload_n hx hb dX8_settle_333 rfl (lv_at hl 0 rfl) ?_
  refine va_get (D := D.1) (ci := 8) (v := .int (gI gT 1)) (C := RX8) (T := TX8) (N := 2) hx hb hts wi_X8 hown X.1 X.2.1 0 rfl rfl 1 (by decide) (hts _ q2_223) (fun _ h9 => h9) (fl_get (by decide)) dX8_settle_334 ?_
  refine lv_iconst (v := (1 : Int32)) hx hb dX8_settle_337 (by decide) ?_
  refine lv_icmp_lt (tgt := 354) hx hb dX8_settle_338 (by decide) (fun c => ?_) (fun c => ?_)
  · replace hF := iT c hF
    refine lv_iconst (v := (0 : Int32)) hx hb dX8_settle_354 (by decide) ?_
    have hq := Option.some.inj hF
    subst hq
    exact rt_z (v := (0 : Int32)) C X (by decide) dX8_settle_355
  · replace hF := iF c hF
    refine lv_aload_n hx hb dX8_settle_341 rfl (lv_at hl 0 rfl) ?_
    refine lv_aload_n hx hb dX8_settle_342 rfl (lv_at hl 1 rfl) ?_
    refine lv_iload_n hx hb dX8_settle_343 rfl (lv_at hl 2 rfl) ?_
    obtain ⟨q_20, hc_21, hF⟩ := bnd_some hF
    refine cV_i (As := [.ref hP1, .int v3]) (rest := []) C X (c_X8_settleOne l D hT aT yT hP1 aP1 yP1 gT gP1 v3 q_20 hc_21 _) (cwV 2 hts (good_V q4_236 q4_238 q0_44 q1_11 q4_239) rfl rfl rfl (by decide +kernel) ⟨Nat.le_of_ble_eq_true rfl, Nat.le_of_ble_eq_true rfl⟩) (va_recv X.1 X.2.1 (ci := 8) (q0 := 0) rfl rfl) (X.1.sub (tys' := tX8 yT ++ (tX0 yP1)) [0, 11, 12, 13, 14, 15, 16, 17, 18, 19, 20, 21, 22, 23, 24, 25] rfl) (X.2.1.sub (ws' := wX8 hT aT yT gT ++ (wX0 hP1 aP1 yP1 gP1)) [0, 1, 13, 14, 15, 16, 17, 18, 19, 20, 21, 22, 23, 24, 25, 26, 27, 28] rfl) (X.2.2.1.sub (ws' := wX8 hT aT yT gT ++ (wX0 hP1 aP1 yP1 gP1)) [0, 1, 13, 14, 15, 16, 17, 18, 19, 20, 21, 22, 23, 24, 25, 26, 27, 28] (by decide) rfl) (free_of (wC := wX8 hT aT yT gT ++ (wX0 hP1 aP1 yP1 gP1)) (isC := [0, 1, 13, 14, 15, 16, 17, 18, 19, 20, 21, 22, 23, 24, 25, 26, 27, 28]) X rfl) hl.1 rfl rfl (Nat.le_of_ble_eq_true rfl) dX8_settle_344 ⟨Nat.le_of_ble_eq_true rfl, Nat.le_of_ble_eq_true rfl⟩ (fun t H1 locs1 ht hB hk hS => ?_)
    have X : Hx D (tX8 yT ++ (tX4 yP0 ++ (tX0 yP1))) A s H1 locs1 (wX8 hT aT yT q_20.2.1 ++ (wX4 hP0 aP0 yP0 gP0 ++ (wX0 hP1 aP1 yP1 q_20.2.2))) := Hx_after (isC := [0, 1, 13, 14, 15, 16, 17, 18, 19, 20, 21, 22, 23, 24, 25, 26, 27, 28]) (isR := [2, 3, 4, 5, 6, 7, 8, 9, 10, 11, 12]) (pm := [11, 12, 0, 1, 2, 3, 4, 5, 6, 7, 8, 9, 10, 13, 14, 15, 16, 17, 18, 19, 20, 21, 22, 23, 24, 25, 26, 27, 28]) (wr := wX4 hP0 aP0 yP0 gP0) X ⟨rfl, rfl, by decide, by decide, rfl, by decide⟩ ht hB hk hS
    clear hk hS ht hB
    generalize H1 = H at X ⊢
    generalize locs1 = locs at X ⊢
    refine lv_if_eq (tgt := 354) hx hb dX8_settle_347 (by decide) (fun c => ?_) (fun c => ?_)
    · replace hF := iT c hF
      refine lv_iconst (v := (0 : Int32)) hx hb dX8_settle_354 (by decide) ?_
      have hq := Option.some.inj hF
      subst hq
      exact rt_z (v := (0 : Int32)) C X (by decide) dX8_settle_355
    · replace hF := iF c hF
      refine lv_iconst (v := (1 : Int32)) hx hb dX8_settle_350 (by decide) ?_
      refine lv_goto (tgt := 355) hx hb dX8_settle_351 (by decide) ?_
      have hq := Option.some.inj hF
      subst hq
      exact rt_z (v := (1 : Int32)) C X (by decide) dX8_settle_355
set_option maxHeartbeats 4000000 in
set_option maxRecDepth 100000 in
theorem c_X8_settle (l : Launch) (D : Dx) (hT : Nat) (aT : Nat → Nat) (yT : Nat → ClassId) (hP0 : Nat) (aP0 : Nat → Nat) (yP0 : Nat → ClassId) (hP1 : Nat) (aP1 : Nat → Nat) (yP1 : Nat → ClassId) (gT : Gs) (gP0 : Gs) (gP1 : Gs) (x2 : Int32) (q : Int32 × Gs × Gs) (hF : f_X8_settle gT gP0 gP1 x2 = some q) (sz : Nat) : Met l yX8_settle (ws_ yX8_settle cX8_settle 4 (some .boolean)) R_X8_settle (PC D (tX8 yT ++ (tX4 yP0 ++ (tX0 yP1))) [.ref hT, .ref hP0, .ref hP1, .int x2] (wX8 hT aT yT gT ++ (wX4 hP0 aP0 yP0 gP0 ++ (wX0 hP1 aP1 yP1 gP1))) sz) (QI D (va_A (wX8 hT aT yT gT ++ (wX4 hP0 aP0 yP0 gP0 ++ (wX0 hP1 aP1 yP1 gP1))) sz) (wX8 hT aT yT q.2.1 ++ (wX4 hP0 aP0 yP0 gP0 ++ (wX0 hP1 aP1 yP1 q.2.2))) q.1) 0 0 (va_A (wX8 hT aT yT gT ++ (wX4 hP0 aP0 yP0 gP0 ++ (wX0 hP1 aP1 yP1 gP1))) sz) := by
  refine Met.ofW (cc := cX8_settle) (maxL := 4) (ret := (some .boolean)) (by decide) rfl ?_
  intro p e s m args below meth c s₁ B hml hv
  obtain ⟨rfl, hsz, hP, hK, hD, hN⟩ := hv
  subst hsz
  have C : Cx p s m _ meth c cX8_settle (some .boolean) 4 RX8 lw_all := Cx_of B hml
  have X := Hx_start hP hK hD hN
  obtain ⟨hx, hb, hr, -, hown, hts, hlk⟩ := id C
  generalize va_A (wX8 hT aT yT gT ++ (wX4 hP0 aP0 yP0 gP0 ++ (wX0 hP1 aP1 yP1 gP1))) s.heap.size = A at X ⊢
  have hl := lv_entry ([.ref hT, .ref hP0, .ref hP1, .int x2]) (n := 4) (Nat.le_of_ble_eq_true rfl)
  rw [lg_entry_eq]
  generalize (lg_sl ([.ref hT, .ref hP0, .ref hP1, .int x2]) ++ List.replicate (4 - (lg_sl ([.ref hT, .ref hP0, .ref hP1, .int x2])).length) Slot.unset).toArray = ls at hl ⊢
  have hl : lv_has ls 4 [(0, .ref hT), (1, .ref hP0), (2, .ref hP1), (3, .int x2)] := hl
  unfold f_X8_settle at hF
  refine lv_aload_n hx hb dX8_settle_0 rfl (lv_at hl 2 rfl) ?_
  refine va_getN (D := D.1) (ci := 0) (v := .ref (aP1 0)) (C := RX0) (T := TX0) (N := 19) hx hb hts wi_X0 hown X.1 X.2.1 13 rfl rfl 0 (by decide) (X.2.2.2.2.2.1.use q1_208 rfl) (fun _ h9 => h9) (fl_get (by decide)) dX8_settle_1 ?_
  refine lv_iload_n hx hb dX8_settle_4 rfl (lv_at hl 3 rfl) ?_
  obtain ⟨h_1, hF⟩ := grd_some hF
  refine va_iald (D := D.1) (f := gIA gP1 0) hx hb X.1 X.2.1 14 11 rfl rfl (inB_ok h_1) dX8_settle_5 ?_
  by_cases c3 : (gIA gP1 0 x2.toNatClampNeg) = (3 : Int32)
  · replace hF := iT c3 hF
    refine lv_tableIn (tgt := 292) (off := 286) hx hb dX8_settle_6 (by rw [c3]; decide) (by rw [c3]; decide) (by rw [c3]; rfl) (by decide) ?_
    refine lv_aload_n hx hb dX8_settle_292 rfl (lv_at hl 0 rfl) ?_
    refine lv_aload_n hx hb dX8_settle_293 rfl (lv_at hl 2 rfl) ?_
    refine va_getN (D := D.1) (ci := 0) (v := .ref (aP1 2)) (C := RX0) (T := TX0) (N := 19) hx hb hts wi_X0 hown X.1 X.2.1 13 rfl rfl 2 (by decide) (X.2.2.2.2.2.1.use q1_215 rfl) (fun _ h9 => h9) (fl_get (by decide)) dX8_settle_294 ?_
    refine lv_iload_n hx hb dX8_settle_297 rfl (lv_at hl 3 rfl) ?_
    obtain ⟨h_2, hF⟩ := grd_some hF
    refine va_iald (D := D.1) (f := gIA gP1 2) hx hb X.1 X.2.1 16 13 rfl rfl (inB_ok h_2) dX8_settle_298 ?_
    obtain ⟨q_3, hc_4, hF⟩ := bnd_some hF
    refine cV_i (As := [.int (gIA gP1 2 x2.toNatClampNeg)]) (rest := []) C X (c_X8_give l D hT aT yT gT (gIA gP1 2 x2.toNatClampNeg) q_3 hc_4 _) (cwV 1 hts (good_V q4_228 q4_230 q0_43 q1_11 q4_231) rfl rfl rfl (by decide +kernel) ⟨Nat.le_of_ble_eq_true rfl, Nat.le_of_ble_eq_true rfl⟩) (va_recv X.1 X.2.1 (ci := 8) (q0 := 0) rfl rfl) (X.1.sub (tys' := tX8 yT) [0] rfl) (X.2.1.sub (ws' := wX8 hT aT yT gT) [0, 1] rfl) (X.2.2.1.sub (ws' := wX8 hT aT yT gT) [0, 1] (by decide) rfl) (free_of (wC := wX8 hT aT yT gT) (isC := [0, 1]) X rfl) hl.1 rfl rfl (Nat.le_of_ble_eq_true rfl) dX8_settle_299 ⟨Nat.le_of_ble_eq_true rfl, Nat.le_of_ble_eq_true rfl⟩ (fun t H1 locs1 ht hB hk hS => ?_)
    have X : Hx D (tX8 yT ++ (tX4 yP0 ++ (tX0 yP1))) A s H1 locs1 (wX8 hT aT yT q_3.2 ++ (wX4 hP0 aP0 yP0 gP0 ++ (wX0 hP1 aP1 yP1 gP1))) := Hx_after (isC := [0, 1]) (isR := [2, 3, 4, 5, 6, 7, 8, 9, 10, 11, 12, 13, 14, 15, 16, 17, 18, 19, 20, 21, 22, 23, 24, 25, 26, 27, 28]) (pm := [27, 28, 0, 1, 2, 3, 4, 5, 6, 7, 8, 9, 10, 11, 12, 13, 14, 15, 16, 17, 18, 19, 20, 21, 22, 23, 24, 25, 26]) (wr := wX4 hP0 aP0 yP0 gP0 ++ (wX0 hP1 aP1 yP1 gP1)) X ⟨rfl, rfl, by decide, by decide, rfl, by decide⟩ ht hB hk hS
    clear hk hS ht hB
    generalize H1 = H at X ⊢
    generalize locs1 = locs at X ⊢
    obtain ⟨h_5, hF⟩ := grd_some hF
    have hq := Option.some.inj hF
    subst hq
    exact rt_z (v := q_3.1) C X (zB_n h_5) dX8_settle_302
  · replace hF := iF c3 hF
    by_cases c4 : (gIA gP1 0 x2.toNatClampNeg) = (4 : Int32)
    · replace hF := iT c4 hF
      refine lv_tableIn (tgt := 379) (off := 373) hx hb dX8_settle_6 (by rw [c4]; decide) (by rw [c4]; decide) (by rw [c4]; rfl) (by decide) ?_
      exact (k_X8_settle_379 l D hT aT yT hP0 aP0 yP0 hP1 aP1 yP1) C X (lv_sub hl [0, 2, 3] rfl) hF
    · replace hF := iF c4 hF
      by_cases c5 : (gIA gP1 0 x2.toNatClampNeg) = (5 : Int32)
      · replace hF := iT c5 hF
        refine lv_tableIn (tgt := 379) (off := 373) hx hb dX8_settle_6 (by rw [c5]; decide) (by rw [c5]; decide) (by rw [c5]; rfl) (by decide) ?_
        exact (k_X8_settle_379 l D hT aT yT hP0 aP0 yP0 hP1 aP1 yP1) C X (lv_sub hl [0, 2, 3] rfl) hF
      · replace hF := iF c5 hF
        by_cases c6 : (gIA gP1 0 x2.toNatClampNeg) = (6 : Int32)
        · replace hF := iT c6 hF
          refine lv_tableIn (tgt := 379) (off := 373) hx hb dX8_settle_6 (by rw [c6]; decide) (by rw [c6]; decide) (by rw [c6]; rfl) (by decide) ?_
          exact (k_X8_settle_379 l D hT aT yT hP0 aP0 yP0 hP1 aP1 yP1) C X (lv_sub hl [0, 2, 3] rfl) hF
        · replace hF := iF c6 hF
          by_cases c7 : (gIA gP1 0 x2.toNatClampNeg) = (7 : Int32)
          · replace hF := iT c7 hF
            refine lv_tableIn (tgt := 379) (off := 373) hx hb dX8_settle_6 (by rw [c7]; decide) (by rw [c7]; decide) (by rw [c7]; rfl) (by decide) ?_
            exact (k_X8_settle_379 l D hT aT yT hP0 aP0 yP0 hP1 aP1 yP1) C X (lv_sub hl [0, 2, 3] rfl) hF
          · replace hF := iF c7 hF
            by_cases c8 : (gIA gP1 0 x2.toNatClampNeg) = (8 : Int32)
            · replace hF := iT c8 hF
              refine lv_tableIn (tgt := 379) (off := 373) hx hb dX8_settle_6 (by rw [c8]; decide) (by rw [c8]; decide) (by rw [c8]; rfl) (by decide) ?_
              exact (k_X8_settle_379 l D hT aT yT hP0 aP0 yP0 hP1 aP1 yP1) C X (lv_sub hl [0, 2, 3] rfl) hF
            · replace hF := iF c8 hF
              by_cases c9 : (gIA gP1 0 x2.toNatClampNeg) = (9 : Int32)
              · replace hF := iT c9 hF
                refine lv_tableIn (tgt := 379) (off := 373) hx hb dX8_settle_6 (by rw [c9]; decide) (by rw [c9]; decide) (by rw [c9]; rfl) (by decide) ?_
                exact (k_X8_settle_379 l D hT aT yT hP0 aP0 yP0 hP1 aP1 yP1) C X (lv_sub hl [0, 2, 3] rfl) hF
              · replace hF := iF c9 hF
                by_cases c10 : (gIA gP1 0 x2.toNatClampNeg) = (10 : Int32)
                · replace hF := iT c10 hF
                  refine lv_tableIn (tgt := 379) (off := 373) hx hb dX8_settle_6 (by rw [c10]; decide) (by rw [c10]; decide) (by rw [c10]; rfl) (by decide) ?_
                  exact (k_X8_settle_379 l D hT aT yT hP0 aP0 yP0 hP1 aP1 yP1) C X (lv_sub hl [0, 2, 3] rfl) hF
                · replace hF := iF c10 hF
                  by_cases c11 : (gIA gP1 0 x2.toNatClampNeg) = (11 : Int32)
                  · replace hF := iT c11 hF
                    refine lv_tableIn (tgt := 379) (off := 373) hx hb dX8_settle_6 (by rw [c11]; decide) (by rw [c11]; decide) (by rw [c11]; rfl) (by decide) ?_
                    exact (k_X8_settle_379 l D hT aT yT hP0 aP0 yP0 hP1 aP1 yP1) C X (lv_sub hl [0, 2, 3] rfl) hF
                  · replace hF := iF c11 hF
                    by_cases c12 : (gIA gP1 0 x2.toNatClampNeg) = (12 : Int32)
                    · replace hF := iT c12 hF
                      refine lv_tableIn (tgt := 379) (off := 373) hx hb dX8_settle_6 (by rw [c12]; decide) (by rw [c12]; decide) (by rw [c12]; rfl) (by decide) ?_
                      exact (k_X8_settle_379 l D hT aT yT hP0 aP0 yP0 hP1 aP1 yP1) C X (lv_sub hl [0, 2, 3] rfl) hF
                    · replace hF := iF c12 hF
                      by_cases c13 : (gIA gP1 0 x2.toNatClampNeg) = (13 : Int32)
                      · replace hF := iT c13 hF
                        refine lv_tableIn (tgt := 379) (off := 373) hx hb dX8_settle_6 (by rw [c13]; decide) (by rw [c13]; decide) (by rw [c13]; rfl) (by decide) ?_
                        exact (k_X8_settle_379 l D hT aT yT hP0 aP0 yP0 hP1 aP1 yP1) C X (lv_sub hl [0, 2, 3] rfl) hF
                      · replace hF := iF c13 hF
                        by_cases c14 : (gIA gP1 0 x2.toNatClampNeg) = (14 : Int32)
                        · replace hF := iT c14 hF
                          refine lv_tableIn (tgt := 379) (off := 373) hx hb dX8_settle_6 (by rw [c14]; decide) (by rw [c14]; decide) (by rw [c14]; rfl) (by decide) ?_
                          exact (k_X8_settle_379 l D hT aT yT hP0 aP0 yP0 hP1 aP1 yP1) C X (lv_sub hl [0, 2, 3] rfl) hF
                        · replace hF := iF c14 hF
                          by_cases c15 : (gIA gP1 0 x2.toNatClampNeg) = (15 : Int32)
                          · replace hF := iT c15 hF
                            refine lv_tableIn (tgt := 379) (off := 373) hx hb dX8_settle_6 (by rw [c15]; decide) (by rw [c15]; decide) (by rw [c15]; rfl) (by decide) ?_
                            exact (k_X8_settle_379 l D hT aT yT hP0 aP0 yP0 hP1 aP1 yP1) C X (lv_sub hl [0, 2, 3] rfl) hF
                          · replace hF := iF c15 hF
                            by_cases c16 : (gIA gP1 0 x2.toNatClampNeg) = (16 : Int32)
                            · replace hF := iT c16 hF
                              refine lv_tableIn (tgt := 316) (off := 310) hx hb dX8_settle_6 (by rw [c16]; decide) (by rw [c16]; decide) (by rw [c16]; rfl) (by decide) ?_
                              exact (k_X8_settle_316 l D hT aT yT hP0 aP0 yP0 hP1 aP1 yP1) C X (lv_sub hl [0, 1, 2, 3] rfl) hF
                            · replace hF := iF c16 hF
                              by_cases c17 : (gIA gP1 0 x2.toNatClampNeg) = (17 : Int32)
                              · replace hF := iT c17 hF
                                refine lv_tableIn (tgt := 309) (off := 303) hx hb dX8_settle_6 (by rw [c17]; decide) (by rw [c17]; decide) (by rw [c17]; rfl) (by decide) ?_
                                refine lv_aload_n hx hb dX8_settle_309 rfl (lv_at hl 0 rfl) ?_
                                refine lv_bipush (v := (7 : Int32)) hx hb dX8_settle_310 (by decide) ?_
                                obtain ⟨q_14, hc_15, hF⟩ := bnd_some hF
                                refine cV_i (As := [.int (7 : Int32)]) (rest := []) C X (c_X8_give l D hT aT yT gT (7 : Int32) q_14 hc_15 _) (cwV 1 hts (good_V q4_228 q4_230 q0_43 q1_11 q4_231) rfl rfl rfl (by decide +kernel) ⟨Nat.le_of_ble_eq_true rfl, Nat.le_of_ble_eq_true rfl⟩) (va_recv X.1 X.2.1 (ci := 8) (q0 := 0) rfl rfl) (X.1.sub (tys' := tX8 yT) [0] rfl) (X.2.1.sub (ws' := wX8 hT aT yT gT) [0, 1] rfl) (X.2.2.1.sub (ws' := wX8 hT aT yT gT) [0, 1] (by decide) rfl) (free_of (wC := wX8 hT aT yT gT) (isC := [0, 1]) X rfl) hl.1 rfl rfl (Nat.le_of_ble_eq_true rfl) dX8_settle_312 ⟨Nat.le_of_ble_eq_true rfl, Nat.le_of_ble_eq_true rfl⟩ (fun t H1 locs1 ht hB hk hS => ?_)
                                have X : Hx D (tX8 yT ++ (tX4 yP0 ++ (tX0 yP1))) A s H1 locs1 (wX8 hT aT yT q_14.2 ++ (wX4 hP0 aP0 yP0 gP0 ++ (wX0 hP1 aP1 yP1 gP1))) := Hx_after (isC := [0, 1]) (isR := [2, 3, 4, 5, 6, 7, 8, 9, 10, 11, 12, 13, 14, 15, 16, 17, 18, 19, 20, 21, 22, 23, 24, 25, 26, 27, 28]) (pm := [27, 28, 0, 1, 2, 3, 4, 5, 6, 7, 8, 9, 10, 11, 12, 13, 14, 15, 16, 17, 18, 19, 20, 21, 22, 23, 24, 25, 26]) (wr := wX4 hP0 aP0 yP0 gP0 ++ (wX0 hP1 aP1 yP1 gP1)) X ⟨rfl, rfl, by decide, by decide, rfl, by decide⟩ ht hB hk hS
                                clear hk hS ht hB
                                generalize H1 = H at X ⊢
                                generalize locs1 = locs at X ⊢
                                obtain ⟨h_16, hF⟩ := grd_some hF
                                have hq := Option.some.inj hF
                                subst hq
                                exact rt_z (v := q_14.1) C X (zB_n h_16) dX8_settle_315
                              · replace hF := iF c17 hF
                                by_cases c18 : (gIA gP1 0 x2.toNatClampNeg) = (18 : Int32)
                                · replace hF := iT c18 hF
                                  refine lv_tableIn (tgt := 303) (off := 297) hx hb dX8_settle_6 (by rw [c18]; decide) (by rw [c18]; decide) (by rw [c18]; rfl) (by decide) ?_
                                  refine lv_aload_n hx hb dX8_settle_303 rfl (lv_at hl 0 rfl) ?_
                                  refine lv_iconst (v := (5 : Int32)) hx hb dX8_settle_304 (by decide) ?_
                                  obtain ⟨q_17, hc_18, hF⟩ := bnd_some hF
                                  refine cV_i (As := [.int (5 : Int32)]) (rest := []) C X (c_X8_give l D hT aT yT gT (5 : Int32) q_17 hc_18 _) (cwV 1 hts (good_V q4_228 q4_230 q0_43 q1_11 q4_231) rfl rfl rfl (by decide +kernel) ⟨Nat.le_of_ble_eq_true rfl, Nat.le_of_ble_eq_true rfl⟩) (va_recv X.1 X.2.1 (ci := 8) (q0 := 0) rfl rfl) (X.1.sub (tys' := tX8 yT) [0] rfl) (X.2.1.sub (ws' := wX8 hT aT yT gT) [0, 1] rfl) (X.2.2.1.sub (ws' := wX8 hT aT yT gT) [0, 1] (by decide) rfl) (free_of (wC := wX8 hT aT yT gT) (isC := [0, 1]) X rfl) hl.1 rfl rfl (Nat.le_of_ble_eq_true rfl) dX8_settle_305 ⟨Nat.le_of_ble_eq_true rfl, Nat.le_of_ble_eq_true rfl⟩ (fun t H1 locs1 ht hB hk hS => ?_)
                                  have X : Hx D (tX8 yT ++ (tX4 yP0 ++ (tX0 yP1))) A s H1 locs1 (wX8 hT aT yT q_17.2 ++ (wX4 hP0 aP0 yP0 gP0 ++ (wX0 hP1 aP1 yP1 gP1))) := Hx_after (isC := [0, 1]) (isR := [2, 3, 4, 5, 6, 7, 8, 9, 10, 11, 12, 13, 14, 15, 16, 17, 18, 19, 20, 21, 22, 23, 24, 25, 26, 27, 28]) (pm := [27, 28, 0, 1, 2, 3, 4, 5, 6, 7, 8, 9, 10, 11, 12, 13, 14, 15, 16, 17, 18, 19, 20, 21, 22, 23, 24, 25, 26]) (wr := wX4 hP0 aP0 yP0 gP0 ++ (wX0 hP1 aP1 yP1 gP1)) X ⟨rfl, rfl, by decide, by decide, rfl, by decide⟩ ht hB hk hS
                                  clear hk hS ht hB
                                  generalize H1 = H at X ⊢
                                  generalize locs1 = locs at X ⊢
                                  obtain ⟨h_19, hF⟩ := grd_some hF
                                  have hq := Option.some.inj hF
                                  subst hq
                                  exact rt_z (v := q_17.1) C X (zB_n h_19) dX8_settle_308
                                · replace hF := iF c18 hF
                                  by_cases c19 : (gIA gP1 0 x2.toNatClampNeg) = (19 : Int32)
                                  · replace hF := iT c19 hF
                                    refine lv_tableIn (tgt := 333) (off := 327) hx hb dX8_settle_6 (by rw [c19]; decide) (by rw [c19]; decide) (by rw [c19]; rfl) (by decide) ?_
                                    exact (k_X8_settle_333 l D hT aT yT hP0 aP0 yP0 hP1 aP1 yP1) C X (lv_sub hl [0, 2, 3] rfl) hF
                                  · replace hF := iF c19 hF
                                    by_cases c20 : (gIA gP1 0 x2.toNatClampNeg) = (20 : Int32)
                                    · replace hF := iT c20 hF
                                      refine lv_tableIn (tgt := 333) (off := 327) hx hb dX8_settle_6 (by rw [c20]; decide) (by rw [c20]; decide) (by rw [c20]; rfl) (by decide) ?_
                                      exact (k_X8_settle_333 l D hT aT yT hP0 aP0 yP0 hP1 aP1 yP1) C X (lv_sub hl [0, 2, 3] rfl) hF
                                    · replace hF := iF c20 hF
                                      by_cases c21 : (gIA gP1 0 x2.toNatClampNeg) = (21 : Int32)
                                      · replace hF := iT c21 hF
                                        refine lv_tableIn (tgt := 333) (off := 327) hx hb dX8_settle_6 (by rw [c21]; decide) (by rw [c21]; decide) (by rw [c21]; rfl) (by decide) ?_
                                        exact (k_X8_settle_333 l D hT aT yT hP0 aP0 yP0 hP1 aP1 yP1) C X (lv_sub hl [0, 2, 3] rfl) hF
                                      · replace hF := iF c21 hF
                                        by_cases c22 : (gIA gP1 0 x2.toNatClampNeg) = (22 : Int32)
                                        · replace hF := iT c22 hF
                                          refine lv_tableIn (tgt := 333) (off := 327) hx hb dX8_settle_6 (by rw [c22]; decide) (by rw [c22]; decide) (by rw [c22]; rfl) (by decide) ?_
                                          exact (k_X8_settle_333 l D hT aT yT hP0 aP0 yP0 hP1 aP1 yP1) C X (lv_sub hl [0, 2, 3] rfl) hF
                                        · replace hF := iF c22 hF
                                          by_cases c23 : (gIA gP1 0 x2.toNatClampNeg) = (23 : Int32)
                                          · replace hF := iT c23 hF
                                            refine lv_tableIn (tgt := 379) (off := 373) hx hb dX8_settle_6 (by rw [c23]; decide) (by rw [c23]; decide) (by rw [c23]; rfl) (by decide) ?_
                                            exact (k_X8_settle_379 l D hT aT yT hP0 aP0 yP0 hP1 aP1 yP1) C X (lv_sub hl [0, 2, 3] rfl) hF
                                          · replace hF := iF c23 hF
                                            by_cases c24 : (gIA gP1 0 x2.toNatClampNeg) = (24 : Int32)
                                            · replace hF := iT c24 hF
                                              refine lv_tableIn (tgt := 379) (off := 373) hx hb dX8_settle_6 (by rw [c24]; decide) (by rw [c24]; decide) (by rw [c24]; rfl) (by decide) ?_
                                              exact (k_X8_settle_379 l D hT aT yT hP0 aP0 yP0 hP1 aP1 yP1) C X (lv_sub hl [0, 2, 3] rfl) hF
                                            · replace hF := iF c24 hF
                                              by_cases c25 : (gIA gP1 0 x2.toNatClampNeg) = (25 : Int32)
                                              · replace hF := iT c25 hF
                                                refine lv_tableIn (tgt := 379) (off := 373) hx hb dX8_settle_6 (by rw [c25]; decide) (by rw [c25]; decide) (by rw [c25]; rfl) (by decide) ?_
                                                exact (k_X8_settle_379 l D hT aT yT hP0 aP0 yP0 hP1 aP1 yP1) C X (lv_sub hl [0, 2, 3] rfl) hF
                                              · replace hF := iF c25 hF
                                                by_cases c26 : (gIA gP1 0 x2.toNatClampNeg) = (26 : Int32)
                                                · replace hF := iT c26 hF
                                                  refine lv_tableIn (tgt := 379) (off := 373) hx hb dX8_settle_6 (by rw [c26]; decide) (by rw [c26]; decide) (by rw [c26]; rfl) (by decide) ?_
                                                  exact (k_X8_settle_379 l D hT aT yT hP0 aP0 yP0 hP1 aP1 yP1) C X (lv_sub hl [0, 2, 3] rfl) hF
                                                · replace hF := iF c26 hF
                                                  by_cases c27 : (gIA gP1 0 x2.toNatClampNeg) = (27 : Int32)
                                                  · replace hF := iT c27 hF
                                                    refine lv_tableIn (tgt := 379) (off := 373) hx hb dX8_settle_6 (by rw [c27]; decide) (by rw [c27]; decide) (by rw [c27]; rfl) (by decide) ?_
                                                    exact (k_X8_settle_379 l D hT aT yT hP0 aP0 yP0 hP1 aP1 yP1) C X (lv_sub hl [0, 2, 3] rfl) hF
                                                  · replace hF := iF c27 hF
                                                    by_cases c28 : (gIA gP1 0 x2.toNatClampNeg) = (28 : Int32)
                                                    · replace hF := iT c28 hF
                                                      refine lv_tableIn (tgt := 379) (off := 373) hx hb dX8_settle_6 (by rw [c28]; decide) (by rw [c28]; decide) (by rw [c28]; rfl) (by decide) ?_
                                                      exact (k_X8_settle_379 l D hT aT yT hP0 aP0 yP0 hP1 aP1 yP1) C X (lv_sub hl [0, 2, 3] rfl) hF
                                                    · replace hF := iF c28 hF
                                                      by_cases c29 : (gIA gP1 0 x2.toNatClampNeg) = (29 : Int32)
                                                      · replace hF := iT c29 hF
                                                        refine lv_tableIn (tgt := 379) (off := 373) hx hb dX8_settle_6 (by rw [c29]; decide) (by rw [c29]; decide) (by rw [c29]; rfl) (by decide) ?_
                                                        exact (k_X8_settle_379 l D hT aT yT hP0 aP0 yP0 hP1 aP1 yP1) C X (lv_sub hl [0, 2, 3] rfl) hF
                                                      · replace hF := iF c29 hF
                                                        by_cases c30 : (gIA gP1 0 x2.toNatClampNeg) = (30 : Int32)
                                                        · replace hF := iT c30 hF
                                                          refine lv_tableIn (tgt := 379) (off := 373) hx hb dX8_settle_6 (by rw [c30]; decide) (by rw [c30]; decide) (by rw [c30]; rfl) (by decide) ?_
                                                          exact (k_X8_settle_379 l D hT aT yT hP0 aP0 yP0 hP1 aP1 yP1) C X (lv_sub hl [0, 2, 3] rfl) hF
                                                        · replace hF := iF c30 hF
                                                          by_cases c31 : (gIA gP1 0 x2.toNatClampNeg) = (31 : Int32)
                                                          · replace hF := iT c31 hF
                                                            refine lv_tableIn (tgt := 379) (off := 373) hx hb dX8_settle_6 (by rw [c31]; decide) (by rw [c31]; decide) (by rw [c31]; rfl) (by decide) ?_
                                                            exact (k_X8_settle_379 l D hT aT yT hP0 aP0 yP0 hP1 aP1 yP1) C X (lv_sub hl [0, 2, 3] rfl) hF
                                                          · replace hF := iF c31 hF
                                                            by_cases c32 : (gIA gP1 0 x2.toNatClampNeg) = (32 : Int32)
                                                            · replace hF := iT c32 hF
                                                              refine lv_tableIn (tgt := 379) (off := 373) hx hb dX8_settle_6 (by rw [c32]; decide) (by rw [c32]; decide) (by rw [c32]; rfl) (by decide) ?_
                                                              exact (k_X8_settle_379 l D hT aT yT hP0 aP0 yP0 hP1 aP1 yP1) C X (lv_sub hl [0, 2, 3] rfl) hF
                                                            · replace hF := iF c32 hF
                                                              by_cases c33 : (gIA gP1 0 x2.toNatClampNeg) = (33 : Int32)
                                                              · replace hF := iT c33 hF
                                                                refine lv_tableIn (tgt := 379) (off := 373) hx hb dX8_settle_6 (by rw [c33]; decide) (by rw [c33]; decide) (by rw [c33]; rfl) (by decide) ?_
                                                                exact (k_X8_settle_379 l D hT aT yT hP0 aP0 yP0 hP1 aP1 yP1) C X (lv_sub hl [0, 2, 3] rfl) hF
                                                              · replace hF := iF c33 hF
                                                                by_cases c34 : (gIA gP1 0 x2.toNatClampNeg) = (34 : Int32)
                                                                · replace hF := iT c34 hF
                                                                  refine lv_tableIn (tgt := 379) (off := 373) hx hb dX8_settle_6 (by rw [c34]; decide) (by rw [c34]; decide) (by rw [c34]; rfl) (by decide) ?_
                                                                  exact (k_X8_settle_379 l D hT aT yT hP0 aP0 yP0 hP1 aP1 yP1) C X (lv_sub hl [0, 2, 3] rfl) hF
                                                                · replace hF := iF c34 hF
                                                                  by_cases c35 : (gIA gP1 0 x2.toNatClampNeg) = (35 : Int32)
                                                                  · replace hF := iT c35 hF
                                                                    refine lv_tableIn (tgt := 379) (off := 373) hx hb dX8_settle_6 (by rw [c35]; decide) (by rw [c35]; decide) (by rw [c35]; rfl) (by decide) ?_
                                                                    exact (k_X8_settle_379 l D hT aT yT hP0 aP0 yP0 hP1 aP1 yP1) C X (lv_sub hl [0, 2, 3] rfl) hF
                                                                  · replace hF := iF c35 hF
                                                                    by_cases c36 : (gIA gP1 0 x2.toNatClampNeg) = (36 : Int32)
                                                                    · replace hF := iT c36 hF
                                                                      refine lv_tableIn (tgt := 379) (off := 373) hx hb dX8_settle_6 (by rw [c36]; decide) (by rw [c36]; decide) (by rw [c36]; rfl) (by decide) ?_
                                                                      exact (k_X8_settle_379 l D hT aT yT hP0 aP0 yP0 hP1 aP1 yP1) C X (lv_sub hl [0, 2, 3] rfl) hF
                                                                    · replace hF := iF c36 hF
                                                                      by_cases c37 : (gIA gP1 0 x2.toNatClampNeg) = (37 : Int32)
                                                                      · replace hF := iT c37 hF
                                                                        refine lv_tableIn (tgt := 379) (off := 373) hx hb dX8_settle_6 (by rw [c37]; decide) (by rw [c37]; decide) (by rw [c37]; rfl) (by decide) ?_
                                                                        exact (k_X8_settle_379 l D hT aT yT hP0 aP0 yP0 hP1 aP1 yP1) C X (lv_sub hl [0, 2, 3] rfl) hF
                                                                      · replace hF := iF c37 hF
                                                                        by_cases c38 : (gIA gP1 0 x2.toNatClampNeg) = (38 : Int32)
                                                                        · replace hF := iT c38 hF
                                                                          refine lv_tableIn (tgt := 379) (off := 373) hx hb dX8_settle_6 (by rw [c38]; decide) (by rw [c38]; decide) (by rw [c38]; rfl) (by decide) ?_
                                                                          exact (k_X8_settle_379 l D hT aT yT hP0 aP0 yP0 hP1 aP1 yP1) C X (lv_sub hl [0, 2, 3] rfl) hF
                                                                        · replace hF := iF c38 hF
                                                                          by_cases c39 : (gIA gP1 0 x2.toNatClampNeg) = (39 : Int32)
                                                                          · replace hF := iT c39 hF
                                                                            refine lv_tableIn (tgt := 379) (off := 373) hx hb dX8_settle_6 (by rw [c39]; decide) (by rw [c39]; decide) (by rw [c39]; rfl) (by decide) ?_
                                                                            exact (k_X8_settle_379 l D hT aT yT hP0 aP0 yP0 hP1 aP1 yP1) C X (lv_sub hl [0, 2, 3] rfl) hF
                                                                          · replace hF := iF c39 hF
                                                                            by_cases c40 : (gIA gP1 0 x2.toNatClampNeg) = (40 : Int32)
                                                                            · replace hF := iT c40 hF
                                                                              refine lv_tableIn (tgt := 379) (off := 373) hx hb dX8_settle_6 (by rw [c40]; decide) (by rw [c40]; decide) (by rw [c40]; rfl) (by decide) ?_
                                                                              exact (k_X8_settle_379 l D hT aT yT hP0 aP0 yP0 hP1 aP1 yP1) C X (lv_sub hl [0, 2, 3] rfl) hF
                                                                            · replace hF := iF c40 hF
                                                                              by_cases c41 : (gIA gP1 0 x2.toNatClampNeg) = (41 : Int32)
                                                                              · replace hF := iT c41 hF
                                                                                refine lv_tableIn (tgt := 379) (off := 373) hx hb dX8_settle_6 (by rw [c41]; decide) (by rw [c41]; decide) (by rw [c41]; rfl) (by decide) ?_
                                                                                exact (k_X8_settle_379 l D hT aT yT hP0 aP0 yP0 hP1 aP1 yP1) C X (lv_sub hl [0, 2, 3] rfl) hF
                                                                              · replace hF := iF c41 hF
                                                                                by_cases c42 : (gIA gP1 0 x2.toNatClampNeg) = (42 : Int32)
                                                                                · replace hF := iT c42 hF
                                                                                  refine lv_tableIn (tgt := 379) (off := 373) hx hb dX8_settle_6 (by rw [c42]; decide) (by rw [c42]; decide) (by rw [c42]; rfl) (by decide) ?_
                                                                                  exact (k_X8_settle_379 l D hT aT yT hP0 aP0 yP0 hP1 aP1 yP1) C X (lv_sub hl [0, 2, 3] rfl) hF
                                                                                · replace hF := iF c42 hF
                                                                                  by_cases c43 : (gIA gP1 0 x2.toNatClampNeg) = (43 : Int32)
                                                                                  · replace hF := iT c43 hF
                                                                                    refine lv_tableIn (tgt := 379) (off := 373) hx hb dX8_settle_6 (by rw [c43]; decide) (by rw [c43]; decide) (by rw [c43]; rfl) (by decide) ?_
                                                                                    exact (k_X8_settle_379 l D hT aT yT hP0 aP0 yP0 hP1 aP1 yP1) C X (lv_sub hl [0, 2, 3] rfl) hF
                                                                                  · replace hF := iF c43 hF
                                                                                    by_cases c44 : (gIA gP1 0 x2.toNatClampNeg) = (44 : Int32)
                                                                                    · replace hF := iT c44 hF
                                                                                      refine lv_tableIn (tgt := 356) (off := 350) hx hb dX8_settle_6 (by rw [c44]; decide) (by rw [c44]; decide) (by rw [c44]; rfl) (by decide) ?_
                                                                                      refine lv_aload_n hx hb dX8_settle_356 rfl (lv_at hl 0 rfl) ?_
                                                                                      refine va_get (D := D.1) (ci := 8) (v := .int (gI gT 1)) (C := RX8) (T := TX8) (N := 2) hx hb hts wi_X8 hown X.1 X.2.1 0 rfl rfl 1 (by decide) (hts _ q2_223) (fun _ h9 => h9) (fl_get (by decide)) dX8_settle_357 ?_
                                                                                      refine lv_iconst (v := (3 : Int32)) hx hb dX8_settle_360 (by decide) ?_
                                                                                      refine lv_icmp_lt (tgt := 377) hx hb dX8_settle_361 (by decide) (fun c => ?_) (fun c => ?_)
                                                                                      · replace hF := iT c hF
                                                                                        refine lv_iconst (v := (0 : Int32)) hx hb dX8_settle_377 (by decide) ?_
                                                                                        have hq := Option.some.inj hF
                                                                                        subst hq
                                                                                        exact rt_z (v := (0 : Int32)) C X (by decide) dX8_settle_378
                                                                                      · replace hF := iF c hF
                                                                                        refine lv_aload_n hx hb dX8_settle_364 rfl (lv_at hl 0 rfl) ?_
                                                                                        refine lv_aload_n hx hb dX8_settle_365 rfl (lv_at hl 2 rfl) ?_
                                                                                        refine lv_iload_n hx hb dX8_settle_366 rfl (lv_at hl 3 rfl) ?_
                                                                                        obtain ⟨q_22, hc_23, hF⟩ := bnd_some hF
                                                                                        refine cV_i (As := [.ref hP1, .int x2]) (rest := []) C X (c_X8_settleQuestion l D hT aT yT hP1 aP1 yP1 gT gP1 x2 q_22 hc_23 _) (cwV 2 hts (good_V q5_1 q5_3 q0_45 q1_11 q5_4) rfl rfl rfl (by decide +kernel) ⟨Nat.le_of_ble_eq_true rfl, Nat.le_of_ble_eq_true rfl⟩) (va_recv X.1 X.2.1 (ci := 8) (q0 := 0) rfl rfl) (X.1.sub (tys' := tX8 yT ++ (tX0 yP1)) [0, 11, 12, 13, 14, 15, 16, 17, 18, 19, 20, 21, 22, 23, 24, 25] rfl) (X.2.1.sub (ws' := wX8 hT aT yT gT ++ (wX0 hP1 aP1 yP1 gP1)) [0, 1, 13, 14, 15, 16, 17, 18, 19, 20, 21, 22, 23, 24, 25, 26, 27, 28] rfl) (X.2.2.1.sub (ws' := wX8 hT aT yT gT ++ (wX0 hP1 aP1 yP1 gP1)) [0, 1, 13, 14, 15, 16, 17, 18, 19, 20, 21, 22, 23, 24, 25, 26, 27, 28] (by decide) rfl) (free_of (wC := wX8 hT aT yT gT ++ (wX0 hP1 aP1 yP1 gP1)) (isC := [0, 1, 13, 14, 15, 16, 17, 18, 19, 20, 21, 22, 23, 24, 25, 26, 27, 28]) X rfl) hl.1 rfl rfl (Nat.le_of_ble_eq_true rfl) dX8_settle_367 ⟨Nat.le_of_ble_eq_true rfl, Nat.le_of_ble_eq_true rfl⟩ (fun t H1 locs1 ht hB hk hS => ?_)
                                                                                        have X : Hx D (tX8 yT ++ (tX4 yP0 ++ (tX0 yP1))) A s H1 locs1 (wX8 hT aT yT q_22.2.1 ++ (wX4 hP0 aP0 yP0 gP0 ++ (wX0 hP1 aP1 yP1 q_22.2.2))) := Hx_after (isC := [0, 1, 13, 14, 15, 16, 17, 18, 19, 20, 21, 22, 23, 24, 25, 26, 27, 28]) (isR := [2, 3, 4, 5, 6, 7, 8, 9, 10, 11, 12]) (pm := [11, 12, 0, 1, 2, 3, 4, 5, 6, 7, 8, 9, 10, 13, 14, 15, 16, 17, 18, 19, 20, 21, 22, 23, 24, 25, 26, 27, 28]) (wr := wX4 hP0 aP0 yP0 gP0) X ⟨rfl, rfl, by decide, by decide, rfl, by decide⟩ ht hB hk hS
                                                                                        clear hk hS ht hB
                                                                                        generalize H1 = H at X ⊢
                                                                                        generalize locs1 = locs at X ⊢
                                                                                        refine lv_if_eq (tgt := 377) hx hb dX8_settle_370 (by decide) (fun c => ?_) (fun c => ?_)
                                                                                        · replace hF := iT c hF
                                                                                          refine lv_iconst (v := (0 : Int32)) hx hb dX8_settle_377 (by decide) ?_
                                                                                          have hq := Option.some.inj hF
                                                                                          subst hq
                                                                                          exact rt_z (v := (0 : Int32)) C X (by decide) dX8_settle_378
                                                                                        · replace hF := iF c hF
                                                                                          refine lv_iconst (v := (1 : Int32)) hx hb dX8_settle_373 (by decide) ?_
                                                                                          refine lv_goto (tgt := 378) hx hb dX8_settle_374 (by decide) ?_
                                                                                          have hq := Option.some.inj hF
                                                                                          subst hq
                                                                                          exact rt_z (v := (1 : Int32)) C X (by decide) dX8_settle_378
                                                                                    · replace hF := iF c44 hF
                                                                                      by_cases c45 : (gIA gP1 0 x2.toNatClampNeg) = (45 : Int32)
                                                                                      · replace hF := iT c45 hF
                                                                                        refine lv_tableIn (tgt := 379) (off := 373) hx hb dX8_settle_6 (by rw [c45]; decide) (by rw [c45]; decide) (by rw [c45]; rfl) (by decide) ?_
                                                                                        exact (k_X8_settle_379 l D hT aT yT hP0 aP0 yP0 hP1 aP1 yP1) C X (lv_sub hl [0, 2, 3] rfl) hF
                                                                                      · replace hF := iF c45 hF
                                                                                        by_cases c46 : (gIA gP1 0 x2.toNatClampNeg) = (46 : Int32)
                                                                                        · replace hF := iT c46 hF
                                                                                          refine lv_tableIn (tgt := 379) (off := 373) hx hb dX8_settle_6 (by rw [c46]; decide) (by rw [c46]; decide) (by rw [c46]; rfl) (by decide) ?_
                                                                                          exact (k_X8_settle_379 l D hT aT yT hP0 aP0 yP0 hP1 aP1 yP1) C X (lv_sub hl [0, 2, 3] rfl) hF
                                                                                        · replace hF := iF c46 hF
                                                                                          by_cases c47 : (gIA gP1 0 x2.toNatClampNeg) = (47 : Int32)
                                                                                          · replace hF := iT c47 hF
                                                                                            refine lv_tableIn (tgt := 379) (off := 373) hx hb dX8_settle_6 (by rw [c47]; decide) (by rw [c47]; decide) (by rw [c47]; rfl) (by decide) ?_
                                                                                            exact (k_X8_settle_379 l D hT aT yT hP0 aP0 yP0 hP1 aP1 yP1) C X (lv_sub hl [0, 2, 3] rfl) hF
                                                                                          · replace hF := iF c47 hF
                                                                                            by_cases c48 : (gIA gP1 0 x2.toNatClampNeg) = (48 : Int32)
                                                                                            · replace hF := iT c48 hF
                                                                                              refine lv_tableIn (tgt := 379) (off := 373) hx hb dX8_settle_6 (by rw [c48]; decide) (by rw [c48]; decide) (by rw [c48]; rfl) (by decide) ?_
                                                                                              exact (k_X8_settle_379 l D hT aT yT hP0 aP0 yP0 hP1 aP1 yP1) C X (lv_sub hl [0, 2, 3] rfl) hF
                                                                                            · replace hF := iF c48 hF
                                                                                              by_cases c49 : (gIA gP1 0 x2.toNatClampNeg) = (49 : Int32)
                                                                                              · replace hF := iT c49 hF
                                                                                                refine lv_tableIn (tgt := 379) (off := 373) hx hb dX8_settle_6 (by rw [c49]; decide) (by rw [c49]; decide) (by rw [c49]; rfl) (by decide) ?_
                                                                                                exact (k_X8_settle_379 l D hT aT yT hP0 aP0 yP0 hP1 aP1 yP1) C X (lv_sub hl [0, 2, 3] rfl) hF
                                                                                              · replace hF := iF c49 hF
                                                                                                by_cases c50 : (gIA gP1 0 x2.toNatClampNeg) = (50 : Int32)
                                                                                                · replace hF := iT c50 hF
                                                                                                  refine lv_tableIn (tgt := 379) (off := 373) hx hb dX8_settle_6 (by rw [c50]; decide) (by rw [c50]; decide) (by rw [c50]; rfl) (by decide) ?_
                                                                                                  exact (k_X8_settle_379 l D hT aT yT hP0 aP0 yP0 hP1 aP1 yP1) C X (lv_sub hl [0, 2, 3] rfl) hF
                                                                                                · replace hF := iF c50 hF
                                                                                                  by_cases c51 : (gIA gP1 0 x2.toNatClampNeg) = (51 : Int32)
                                                                                                  · replace hF := iT c51 hF
                                                                                                    refine lv_tableIn (tgt := 379) (off := 373) hx hb dX8_settle_6 (by rw [c51]; decide) (by rw [c51]; decide) (by rw [c51]; rfl) (by decide) ?_
                                                                                                    exact (k_X8_settle_379 l D hT aT yT hP0 aP0 yP0 hP1 aP1 yP1) C X (lv_sub hl [0, 2, 3] rfl) hF
                                                                                                  · replace hF := iF c51 hF
                                                                                                    by_cases c52 : (gIA gP1 0 x2.toNatClampNeg) = (52 : Int32)
                                                                                                    · replace hF := iT c52 hF
                                                                                                      refine lv_tableIn (tgt := 379) (off := 373) hx hb dX8_settle_6 (by rw [c52]; decide) (by rw [c52]; decide) (by rw [c52]; rfl) (by decide) ?_
                                                                                                      exact (k_X8_settle_379 l D hT aT yT hP0 aP0 yP0 hP1 aP1 yP1) C X (lv_sub hl [0, 2, 3] rfl) hF
                                                                                                    · replace hF := iF c52 hF
                                                                                                      by_cases c53 : (gIA gP1 0 x2.toNatClampNeg) = (53 : Int32)
                                                                                                      · replace hF := iT c53 hF
                                                                                                        refine lv_tableIn (tgt := 379) (off := 373) hx hb dX8_settle_6 (by rw [c53]; decide) (by rw [c53]; decide) (by rw [c53]; rfl) (by decide) ?_
                                                                                                        exact (k_X8_settle_379 l D hT aT yT hP0 aP0 yP0 hP1 aP1 yP1) C X (lv_sub hl [0, 2, 3] rfl) hF
                                                                                                      · replace hF := iF c53 hF
                                                                                                        by_cases c54 : (gIA gP1 0 x2.toNatClampNeg) = (54 : Int32)
                                                                                                        · replace hF := iT c54 hF
                                                                                                          refine lv_tableIn (tgt := 333) (off := 327) hx hb dX8_settle_6 (by rw [c54]; decide) (by rw [c54]; decide) (by rw [c54]; rfl) (by decide) ?_
                                                                                                          exact (k_X8_settle_333 l D hT aT yT hP0 aP0 yP0 hP1 aP1 yP1) C X (lv_sub hl [0, 2, 3] rfl) hF
                                                                                                        · replace hF := iF c54 hF
                                                                                                          by_cases c55 : (gIA gP1 0 x2.toNatClampNeg) = (55 : Int32)
                                                                                                          · replace hF := iT c55 hF
                                                                                                            refine lv_tableIn (tgt := 379) (off := 373) hx hb dX8_settle_6 (by rw [c55]; decide) (by rw [c55]; decide) (by rw [c55]; rfl) (by decide) ?_
                                                                                                            exact (k_X8_settle_379 l D hT aT yT hP0 aP0 yP0 hP1 aP1 yP1) C X (lv_sub hl [0, 2, 3] rfl) hF
                                                                                                          · replace hF := iF c55 hF
                                                                                                            by_cases c56 : (gIA gP1 0 x2.toNatClampNeg) = (56 : Int32)
                                                                                                            · replace hF := iT c56 hF
                                                                                                              refine lv_tableIn (tgt := 379) (off := 373) hx hb dX8_settle_6 (by rw [c56]; decide) (by rw [c56]; decide) (by rw [c56]; rfl) (by decide) ?_
                                                                                                              exact (k_X8_settle_379 l D hT aT yT hP0 aP0 yP0 hP1 aP1 yP1) C X (lv_sub hl [0, 2, 3] rfl) hF
                                                                                                            · replace hF := iF c56 hF
                                                                                                              by_cases c57 : (gIA gP1 0 x2.toNatClampNeg) = (57 : Int32)
                                                                                                              · replace hF := iT c57 hF
                                                                                                                refine lv_tableIn (tgt := 379) (off := 373) hx hb dX8_settle_6 (by rw [c57]; decide) (by rw [c57]; decide) (by rw [c57]; rfl) (by decide) ?_
                                                                                                                exact (k_X8_settle_379 l D hT aT yT hP0 aP0 yP0 hP1 aP1 yP1) C X (lv_sub hl [0, 2, 3] rfl) hF
                                                                                                              · replace hF := iF c57 hF
                                                                                                                by_cases c58 : (gIA gP1 0 x2.toNatClampNeg) = (58 : Int32)
                                                                                                                · replace hF := iT c58 hF
                                                                                                                  refine lv_tableIn (tgt := 379) (off := 373) hx hb dX8_settle_6 (by rw [c58]; decide) (by rw [c58]; decide) (by rw [c58]; rfl) (by decide) ?_
                                                                                                                  exact (k_X8_settle_379 l D hT aT yT hP0 aP0 yP0 hP1 aP1 yP1) C X (lv_sub hl [0, 2, 3] rfl) hF
                                                                                                                · replace hF := iF c58 hF
                                                                                                                  by_cases c59 : (gIA gP1 0 x2.toNatClampNeg) = (59 : Int32)
                                                                                                                  · replace hF := iT c59 hF
                                                                                                                    refine lv_tableIn (tgt := 379) (off := 373) hx hb dX8_settle_6 (by rw [c59]; decide) (by rw [c59]; decide) (by rw [c59]; rfl) (by decide) ?_
                                                                                                                    exact (k_X8_settle_379 l D hT aT yT hP0 aP0 yP0 hP1 aP1 yP1) C X (lv_sub hl [0, 2, 3] rfl) hF
                                                                                                                  · replace hF := iF c59 hF
                                                                                                                    by_cases c60 : (gIA gP1 0 x2.toNatClampNeg) = (60 : Int32)
                                                                                                                    · replace hF := iT c60 hF
                                                                                                                      refine lv_tableIn (tgt := 379) (off := 373) hx hb dX8_settle_6 (by rw [c60]; decide) (by rw [c60]; decide) (by rw [c60]; rfl) (by decide) ?_
                                                                                                                      exact (k_X8_settle_379 l D hT aT yT hP0 aP0 yP0 hP1 aP1 yP1) C X (lv_sub hl [0, 2, 3] rfl) hF
                                                                                                                    · replace hF := iF c60 hF
                                                                                                                      by_cases c61 : (gIA gP1 0 x2.toNatClampNeg) = (61 : Int32)
                                                                                                                      · replace hF := iT c61 hF
                                                                                                                        refine lv_tableIn (tgt := 379) (off := 373) hx hb dX8_settle_6 (by rw [c61]; decide) (by rw [c61]; decide) (by rw [c61]; rfl) (by decide) ?_
                                                                                                                        exact (k_X8_settle_379 l D hT aT yT hP0 aP0 yP0 hP1 aP1 yP1) C X (lv_sub hl [0, 2, 3] rfl) hF
                                                                                                                      · replace hF := iF c61 hF
                                                                                                                        by_cases c62 : (gIA gP1 0 x2.toNatClampNeg) = (62 : Int32)
                                                                                                                        · replace hF := iT c62 hF
                                                                                                                          refine lv_tableIn (tgt := 379) (off := 373) hx hb dX8_settle_6 (by rw [c62]; decide) (by rw [c62]; decide) (by rw [c62]; rfl) (by decide) ?_
                                                                                                                          exact (k_X8_settle_379 l D hT aT yT hP0 aP0 yP0 hP1 aP1 yP1) C X (lv_sub hl [0, 2, 3] rfl) hF
                                                                                                                        · replace hF := iF c62 hF
                                                                                                                          by_cases c63 : (gIA gP1 0 x2.toNatClampNeg) = (63 : Int32)
                                                                                                                          · replace hF := iT c63 hF
                                                                                                                            refine lv_tableIn (tgt := 316) (off := 310) hx hb dX8_settle_6 (by rw [c63]; decide) (by rw [c63]; decide) (by rw [c63]; rfl) (by decide) ?_
                                                                                                                            exact (k_X8_settle_316 l D hT aT yT hP0 aP0 yP0 hP1 aP1 yP1) C X (lv_sub hl [0, 1, 2, 3] rfl) hF
                                                                                                                          · replace hF := iF c63 hF
                                                                                                                            by_cases c64 : (gIA gP1 0 x2.toNatClampNeg) = (64 : Int32)
                                                                                                                            · replace hF := iT c64 hF
                                                                                                                              refine lv_tableIn (tgt := 333) (off := 327) hx hb dX8_settle_6 (by rw [c64]; decide) (by rw [c64]; decide) (by rw [c64]; rfl) (by decide) ?_
                                                                                                                              exact (k_X8_settle_333 l D hT aT yT hP0 aP0 yP0 hP1 aP1 yP1) C X (lv_sub hl [0, 2, 3] rfl) hF
                                                                                                                            · replace hF := iF c64 hF
                                                                                                                              by_cases c65 : (gIA gP1 0 x2.toNatClampNeg) = (65 : Int32)
                                                                                                                              · replace hF := iT c65 hF
                                                                                                                                refine lv_tableIn (tgt := 333) (off := 327) hx hb dX8_settle_6 (by rw [c65]; decide) (by rw [c65]; decide) (by rw [c65]; rfl) (by decide) ?_
                                                                                                                                exact (k_X8_settle_333 l D hT aT yT hP0 aP0 yP0 hP1 aP1 yP1) C X (lv_sub hl [0, 2, 3] rfl) hF
                                                                                                                              · replace hF := iF c65 hF
                                                                                                                                by_cases c66 : (gIA gP1 0 x2.toNatClampNeg) = (66 : Int32)
                                                                                                                                · replace hF := iT c66 hF
                                                                                                                                  refine lv_tableIn (tgt := 333) (off := 327) hx hb dX8_settle_6 (by rw [c66]; decide) (by rw [c66]; decide) (by rw [c66]; rfl) (by decide) ?_
                                                                                                                                  exact (k_X8_settle_333 l D hT aT yT hP0 aP0 yP0 hP1 aP1 yP1) C X (lv_sub hl [0, 2, 3] rfl) hF
                                                                                                                                · replace hF := iF c66 hF
                                                                                                                                  by_cases c67 : (gIA gP1 0 x2.toNatClampNeg) = (67 : Int32)
                                                                                                                                  · replace hF := iT c67 hF
                                                                                                                                    refine lv_tableIn (tgt := 331) (off := 325) hx hb dX8_settle_6 (by rw [c67]; decide) (by rw [c67]; decide) (by rw [c67]; rfl) (by decide) ?_
                                                                                                                                    refine lv_iconst (v := (1 : Int32)) hx hb dX8_settle_331 (by decide) ?_
                                                                                                                                    have hq := Option.some.inj hF
                                                                                                                                    subst hq
                                                                                                                                    exact rt_z (v := (1 : Int32)) C X (by decide) dX8_settle_332
                                                                                                                                  · replace hF := iF c67 hF
                                                                                                                                    by_cases c68 : (gIA gP1 0 x2.toNatClampNeg) = (68 : Int32)
                                                                                                                                    · replace hF := iT c68 hF
                                                                                                                                      refine lv_tableIn (tgt := 331) (off := 325) hx hb dX8_settle_6 (by rw [c68]; decide) (by rw [c68]; decide) (by rw [c68]; rfl) (by decide) ?_
                                                                                                                                      refine lv_iconst (v := (1 : Int32)) hx hb dX8_settle_331 (by decide) ?_
                                                                                                                                      have hq := Option.some.inj hF
                                                                                                                                      subst hq
                                                                                                                                      exact rt_z (v := (1 : Int32)) C X (by decide) dX8_settle_332
                                                                                                                                    · replace hF := iF c68 hF
                                                                                                                                      by_cases c69 : (gIA gP1 0 x2.toNatClampNeg) = (69 : Int32)
                                                                                                                                      · replace hF := iT c69 hF
                                                                                                                                        refine lv_tableIn (tgt := 331) (off := 325) hx hb dX8_settle_6 (by rw [c69]; decide) (by rw [c69]; decide) (by rw [c69]; rfl) (by decide) ?_
                                                                                                                                        refine lv_iconst (v := (1 : Int32)) hx hb dX8_settle_331 (by decide) ?_
                                                                                                                                        have hq := Option.some.inj hF
                                                                                                                                        subst hq
                                                                                                                                        exact rt_z (v := (1 : Int32)) C X (by decide) dX8_settle_332
                                                                                                                                      · replace hF := iF c69 hF
                                                                                                                                        by_cases c70 : (gIA gP1 0 x2.toNatClampNeg) = (70 : Int32)
                                                                                                                                        · replace hF := iT c70 hF
                                                                                                                                          refine lv_tableIn (tgt := 331) (off := 325) hx hb dX8_settle_6 (by rw [c70]; decide) (by rw [c70]; decide) (by rw [c70]; rfl) (by decide) ?_
                                                                                                                                          refine lv_iconst (v := (1 : Int32)) hx hb dX8_settle_331 (by decide) ?_
                                                                                                                                          have hq := Option.some.inj hF
                                                                                                                                          subst hq
                                                                                                                                          exact rt_z (v := (1 : Int32)) C X (by decide) dX8_settle_332
                                                                                                                                        · replace hF := iF c70 hF
                                                                                                                                          refine lv_tableOut (tgt := 379) hx hb dX8_settle_6 (tbl_out (3) (70) 68 (by decide) ⟨tne c3 (by decide), ⟨tne c4 (by decide), ⟨tne c5 (by decide), ⟨tne c6 (by decide), ⟨tne c7 (by decide), ⟨tne c8 (by decide), ⟨tne c9 (by decide), ⟨tne c10 (by decide), ⟨tne c11 (by decide), ⟨tne c12 (by decide), ⟨tne c13 (by decide), ⟨tne c14 (by decide), ⟨tne c15 (by decide), ⟨tne c16 (by decide), ⟨tne c17 (by decide), ⟨tne c18 (by decide), ⟨tne c19 (by decide), ⟨tne c20 (by decide), ⟨tne c21 (by decide), ⟨tne c22 (by decide), ⟨tne c23 (by decide), ⟨tne c24 (by decide), ⟨tne c25 (by decide), ⟨tne c26 (by decide), ⟨tne c27 (by decide), ⟨tne c28 (by decide), ⟨tne c29 (by decide), ⟨tne c30 (by decide), ⟨tne c31 (by decide), ⟨tne c32 (by decide), ⟨tne c33 (by decide), ⟨tne c34 (by decide), ⟨tne c35 (by decide), ⟨tne c36 (by decide), ⟨tne c37 (by decide), ⟨tne c38 (by decide), ⟨tne c39 (by decide), ⟨tne c40 (by decide), ⟨tne c41 (by decide), ⟨tne c42 (by decide), ⟨tne c43 (by decide), ⟨tne c44 (by decide), ⟨tne c45 (by decide), ⟨tne c46 (by decide), ⟨tne c47 (by decide), ⟨tne c48 (by decide), ⟨tne c49 (by decide), ⟨tne c50 (by decide), ⟨tne c51 (by decide), ⟨tne c52 (by decide), ⟨tne c53 (by decide), ⟨tne c54 (by decide), ⟨tne c55 (by decide), ⟨tne c56 (by decide), ⟨tne c57 (by decide), ⟨tne c58 (by decide), ⟨tne c59 (by decide), ⟨tne c60 (by decide), ⟨tne c61 (by decide), ⟨tne c62 (by decide), ⟨tne c63 (by decide), ⟨tne c64 (by decide), ⟨tne c65 (by decide), ⟨tne c66 (by decide), ⟨tne c67 (by decide), ⟨tne c68 (by decide), ⟨tne c69 (by decide), ⟨tne c70 (by decide), trivial⟩⟩⟩⟩⟩⟩⟩⟩⟩⟩⟩⟩⟩⟩⟩⟩⟩⟩⟩⟩⟩⟩⟩⟩⟩⟩⟩⟩⟩⟩⟩⟩⟩⟩⟩⟩⟩⟩⟩⟩⟩⟩⟩⟩⟩⟩⟩⟩⟩⟩⟩⟩⟩⟩⟩⟩⟩⟩⟩⟩⟩⟩⟩⟩⟩⟩⟩⟩) (by decide) ?_
                                                                                                                                          exact (k_X8_settle_379 l D hT aT yT hP0 aP0 yP0 hP1 aP1 yP1) C X (lv_sub hl [0, 2, 3] rfl) hF

/-! ### X8_firstFault -/
theorem dX8_firstFault_0 : decode cX8_firstFault 0 = .ok (.iconst 0, 1) := by decide +kernel
theorem dX8_firstFault_1 : decode cX8_firstFault 1 = .ok (.istore_n 3, 1) := by decide +kernel
theorem dX8_firstFault_2 : decode cX8_firstFault 2 = .ok (.iload_n 3, 1) := by decide +kernel
theorem dX8_firstFault_3 : decode cX8_firstFault 3 = .ok (.aload_n 2, 1) := by decide +kernel
theorem dX8_firstFault_4 : decode cX8_firstFault 4 = .ok (.getfield 19, 3) := by decide +kernel
theorem dX8_firstFault_7 : decode cX8_firstFault 7 = .ok (.if_icmp .ge 130, 3) := by decide +kernel
theorem dX8_firstFault_10 : decode cX8_firstFault 10 = .ok (.aload_n 0, 1) := by decide +kernel
theorem dX8_firstFault_11 : decode cX8_firstFault 11 = .ok (.iconst 0, 1) := by decide +kernel
theorem dX8_firstFault_12 : decode cX8_firstFault 12 = .ok (.putfield 15, 3) := by decide +kernel
theorem dX8_firstFault_15 : decode cX8_firstFault 15 = .ok (.aload_n 2, 1) := by decide +kernel
theorem dX8_firstFault_16 : decode cX8_firstFault 16 = .ok (.iload_n 3, 1) := by decide +kernel
theorem dX8_firstFault_17 : decode cX8_firstFault 17 = .ok (.invokevirtual 24, 3) := by decide +kernel
theorem dX8_firstFault_20 : decode cX8_firstFault 20 = .ok (.istore 4, 2) := by decide +kernel
theorem dX8_firstFault_22 : decode cX8_firstFault 22 = .ok (.iload 4, 2) := by decide +kernel
theorem dX8_firstFault_24 : decode cX8_firstFault 24 = .ok (.aload_n 2, 1) := by decide +kernel
theorem dX8_firstFault_25 : decode cX8_firstFault 25 = .ok (.iload_n 3, 1) := by decide +kernel
theorem dX8_firstFault_26 : decode cX8_firstFault 26 = .ok (.invokevirtual 28, 3) := by decide +kernel
theorem dX8_firstFault_29 : decode cX8_firstFault 29 = .ok (.if_icmp .ge 28, 3) := by decide +kernel
theorem dX8_firstFault_32 : decode cX8_firstFault 32 = .ok (.aload_n 0, 1) := by decide +kernel
theorem dX8_firstFault_33 : decode cX8_firstFault 33 = .ok (.aload_n 1, 1) := by decide +kernel
theorem dX8_firstFault_34 : decode cX8_firstFault 34 = .ok (.aload_n 2, 1) := by decide +kernel
theorem dX8_firstFault_35 : decode cX8_firstFault 35 = .ok (.iload 4, 2) := by decide +kernel
theorem dX8_firstFault_37 : decode cX8_firstFault 37 = .ok (.invokevirtual 31, 3) := by decide +kernel
theorem dX8_firstFault_40 : decode cX8_firstFault 40 = .ok (.ifCond .ne 11, 3) := by decide +kernel
theorem dX8_firstFault_43 : decode cX8_firstFault 43 = .ok (.aload_n 2, 1) := by decide +kernel
theorem dX8_firstFault_44 : decode cX8_firstFault 44 = .ok (.getfield 35, 3) := by decide +kernel
theorem dX8_firstFault_47 : decode cX8_firstFault 47 = .ok (.iload 4, 2) := by decide +kernel
theorem dX8_firstFault_49 : decode cX8_firstFault 49 = .ok (.iaload, 1) := by decide +kernel
theorem dX8_firstFault_50 : decode cX8_firstFault 50 = .ok (.ireturn, 1) := by decide +kernel
theorem dX8_firstFault_51 : decode cX8_firstFault 51 = .ok (.iinc 4 1, 3) := by decide +kernel
theorem dX8_firstFault_54 : decode cX8_firstFault 54 = .ok (.goto (-32), 3) := by decide +kernel
theorem dX8_firstFault_57 : decode cX8_firstFault 57 = .ok (.aload_n 0, 1) := by decide +kernel
theorem dX8_firstFault_58 : decode cX8_firstFault 58 = .ok (.getfield 15, 3) := by decide +kernel
theorem dX8_firstFault_61 : decode cX8_firstFault 61 = .ok (.ifCond .le 12, 3) := by decide +kernel
theorem dX8_firstFault_64 : decode cX8_firstFault 64 = .ok (.aload_n 0, 1) := by decide +kernel
theorem dX8_firstFault_65 : decode cX8_firstFault 65 = .ok (.getfield 9, 3) := by decide +kernel
theorem dX8_firstFault_68 : decode cX8_firstFault 68 = .ok (.iconst 0, 1) := by decide +kernel
theorem dX8_firstFault_69 : decode cX8_firstFault 69 = .ok (.iaload, 1) := by decide +kernel
theorem dX8_firstFault_70 : decode cX8_firstFault 70 = .ok (.goto 4, 3) := by decide +kernel
theorem dX8_firstFault_73 : decode cX8_firstFault 73 = .ok (.iconst 0, 1) := by decide +kernel
theorem dX8_firstFault_74 : decode cX8_firstFault 74 = .ok (.istore 4, 2) := by decide +kernel
theorem dX8_firstFault_76 : decode cX8_firstFault 76 = .ok (.aload_n 2, 1) := by decide +kernel
theorem dX8_firstFault_77 : decode cX8_firstFault 77 = .ok (.getfield 38, 3) := by decide +kernel
theorem dX8_firstFault_80 : decode cX8_firstFault 80 = .ok (.iload_n 3, 1) := by decide +kernel
theorem dX8_firstFault_81 : decode cX8_firstFault 81 = .ok (.iload 4, 2) := by decide +kernel
theorem dX8_firstFault_83 : decode cX8_firstFault 83 = .ok (.iastore, 1) := by decide +kernel
theorem dX8_firstFault_84 : decode cX8_firstFault 84 = .ok (.aload_n 2, 1) := by decide +kernel
theorem dX8_firstFault_85 : decode cX8_firstFault 85 = .ok (.getfield 41, 3) := by decide +kernel
theorem dX8_firstFault_88 : decode cX8_firstFault 88 = .ok (.iload_n 3, 1) := by decide +kernel
theorem dX8_firstFault_89 : decode cX8_firstFault 89 = .ok (.iaload, 1) := by decide +kernel
theorem dX8_firstFault_90 : decode cX8_firstFault 90 = .ok (.istore 5, 2) := by decide +kernel
theorem dX8_firstFault_92 : decode cX8_firstFault 92 = .ok (.iload 5, 2) := by decide +kernel
theorem dX8_firstFault_94 : decode cX8_firstFault 94 = .ok (.iconst (-1), 1) := by decide +kernel
theorem dX8_firstFault_95 : decode cX8_firstFault 95 = .ok (.if_icmp .eq 36, 3) := by decide +kernel
theorem dX8_firstFault_98 : decode cX8_firstFault 98 = .ok (.iload 4, 2) := by decide +kernel
theorem dX8_firstFault_100 : decode cX8_firstFault 100 = .ok (.iload 5, 2) := by decide +kernel
theorem dX8_firstFault_102 : decode cX8_firstFault 102 = .ok (.bipush 40, 2) := by decide +kernel
theorem dX8_firstFault_104 : decode cX8_firstFault 104 = .ok (.if_icmp .ge 13, 3) := by decide +kernel
theorem dX8_firstFault_107 : decode cX8_firstFault 107 = .ok (.aload_n 1, 1) := by decide +kernel
theorem dX8_firstFault_108 : decode cX8_firstFault 108 = .ok (.getfield 44, 3) := by decide +kernel
theorem dX8_firstFault_111 : decode cX8_firstFault 111 = .ok (.iload 5, 2) := by decide +kernel
theorem dX8_firstFault_113 : decode cX8_firstFault 113 = .ok (.iaload, 1) := by decide +kernel
theorem dX8_firstFault_114 : decode cX8_firstFault 114 = .ok (.goto 4, 3) := by decide +kernel
theorem dX8_firstFault_117 : decode cX8_firstFault 117 = .ok (.iconst 0, 1) := by decide +kernel
theorem dX8_firstFault_118 : decode cX8_firstFault 118 = .ok (.invokestatic 49, 3) := by decide +kernel
theorem dX8_firstFault_121 : decode cX8_firstFault 121 = .ok (.ifCond .ne 10, 3) := by decide +kernel
theorem dX8_firstFault_124 : decode cX8_firstFault 124 = .ok (.aload_n 2, 1) := by decide +kernel
theorem dX8_firstFault_125 : decode cX8_firstFault 125 = .ok (.getfield 53, 3) := by decide +kernel
theorem dX8_firstFault_128 : decode cX8_firstFault 128 = .ok (.iload_n 3, 1) := by decide +kernel
theorem dX8_firstFault_129 : decode cX8_firstFault 129 = .ok (.iaload, 1) := by decide +kernel
theorem dX8_firstFault_130 : decode cX8_firstFault 130 = .ok (.ireturn, 1) := by decide +kernel
theorem dX8_firstFault_131 : decode cX8_firstFault 131 = .ok (.iinc 3 1, 3) := by decide +kernel
theorem dX8_firstFault_134 : decode cX8_firstFault 134 = .ok (.goto (-132), 3) := by decide +kernel
theorem dX8_firstFault_137 : decode cX8_firstFault 137 = .ok (.iconst (-1), 1) := by decide +kernel
theorem dX8_firstFault_138 : decode cX8_firstFault 138 = .ok (.ireturn, 1) := by decide +kernel
abbrev R_X8_firstFault : Room := ({ frames := 4, cells := 0, slots := 0, locals := 134 } : Room)
def b_X8_firstFault_131 (n : Nat) (rec : (Gs → Gs → Gs → Int32 → Option (Int32 × Gs × Gs)) × (Gs → Gs → Gs → Int32 → Int32 → Option (Int32 × Gs × Gs))) (gT : Gs) (gP0 : Gs) (gP1 : Gs) (v3 : Int32) : Option (Int32 × Gs × Gs) :=
  rec.1 gT gP0 gP1 (v3 + (1 : Int32))
def b_X8_firstFault_118 (n : Nat) (rec : (Gs → Gs → Gs → Int32 → Option (Int32 × Gs × Gs)) × (Gs → Gs → Gs → Int32 → Int32 → Option (Int32 × Gs × Gs))) (gT : Gs) (gP0 : Gs) (gP1 : Gs) (v3 : Int32) (s0 : Int32) (s1 : Int32) : Option (Int32 × Gs × Gs) :=
  bnd (f_X8_comesTo s1 s0) (fun q_7 => if q_7 = 0 then (grd (inB v3 92) (some (gIA gP1 14 v3.toNatClampNeg, gT, gP1))) else (b_X8_firstFault_131 n rec gT gP0 gP1 v3))
def b_X8_firstFault_74 (n : Nat) (rec : (Gs → Gs → Gs → Int32 → Option (Int32 × Gs × Gs)) × (Gs → Gs → Gs → Int32 → Int32 → Option (Int32 × Gs × Gs))) (gT : Gs) (gP0 : Gs) (gP1 : Gs) (v3 : Int32) (s0 : Int32) : Option (Int32 × Gs × Gs) :=
  grd (inB v3 92) (grd (inB v3 92) (if (gIA gP1 13 v3.toNatClampNeg) = (-1 : Int32) then (b_X8_firstFault_131 n rec gT gP0 (sIA gP1 17 (upd (gIA gP1 17) v3.toNatClampNeg s0)) v3) else (if (40 : Int32) ≤ (gIA gP1 13 v3.toNatClampNeg) then (b_X8_firstFault_118 n rec gT gP0 (sIA gP1 17 (upd (gIA gP1 17) v3.toNatClampNeg s0)) v3 (0 : Int32) s0) else (grd (inB (gIA gP1 13 v3.toNatClampNeg) 40) (b_X8_firstFault_118 n rec gT gP0 (sIA gP1 17 (upd (gIA gP1 17) v3.toNatClampNeg s0)) v3 (gIA gP0 7 (gIA gP1 13 v3.toNatClampNeg).toNatClampNeg) s0)))))
def h_X8_firstFault_22 (n : Nat) (rec : (Gs → Gs → Gs → Int32 → Option (Int32 × Gs × Gs)) × (Gs → Gs → Gs → Int32 → Int32 → Option (Int32 × Gs × Gs))) (gT : Gs) (gP0 : Gs) (gP1 : Gs) (v3 : Int32) (v4 : Int32) : Option (Int32 × Gs × Gs) :=
  bnd (f_X0_endOf gP1 v3) (fun q_3 => if q_3 ≤ v4 then (if (gI gT 1) ≤ 0 then (b_X8_firstFault_74 n rec gT gP0 gP1 v3 (0 : Int32)) else (grd (inB (0 : Int32) 512) (b_X8_firstFault_74 n rec gT gP0 gP1 v3 (gIA gT 0 (0 : Int32).toNatClampNeg)))) else (bnd (f_X8_settle gT gP0 gP1 v4) (fun q_12 => if q_12.1 = 0 then (grd (inB v4 840) (some (gIA q_12.2.2 1 v4.toNatClampNeg, q_12.2.1, q_12.2.2))) else (rec.2 q_12.2.1 gP0 q_12.2.2 v3 (v4 + (1 : Int32))))))
def h_X8_firstFault_2 (n : Nat) (rec : (Gs → Gs → Gs → Int32 → Option (Int32 × Gs × Gs)) × (Gs → Gs → Gs → Int32 → Int32 → Option (Int32 × Gs × Gs))) (gT : Gs) (gP0 : Gs) (gP1 : Gs) (v3 : Int32) : Option (Int32 × Gs × Gs) :=
  if (gI gP1 18) ≤ v3 then (some ((-1 : Int32), gT, gP1)) else (bnd (f_X0_beginOf gP1 v3) (fun q_1 => rec.2 (sI gT 1 (0 : Int32)) gP0 gP1 v3 q_1))
def L_X8_firstFault (n : Nat) : Nat → ((Gs → Gs → Gs → Int32 → Option (Int32 × Gs × Gs)) × (Gs → Gs → Gs → Int32 → Int32 → Option (Int32 × Gs × Gs)))
  | 0 => ((fun _ _ _ _ => none), (fun _ _ _ _ _ => none))
  | k + 1 => (h_X8_firstFault_2 n (L_X8_firstFault n k), h_X8_firstFault_22 n (L_X8_firstFault n k))
def f_X8_firstFault (n : Nat) (gT : Gs) (gP0 : Gs) (gP1 : Gs) : Option (Int32 × Gs × Gs) :=
  (L_X8_firstFault n n).1 gT gP0 gP1 (0 : Int32)
def S_X8_firstFault_131 (l : Launch) (D : Dx) (hT : Nat) (aT : Nat → Nat) (yT : Nat → ClassId) (hP0 : Nat) (aP0 : Nat → Nat) (yP0 : Nat → ClassId) (hP1 : Nat) (aP1 : Nat → Nat) (yP1 : Nat → ClassId) (fn : Gs → Gs → Gs → Int32 → Option (Int32 × Gs × Gs)) : Prop :=
  ∀ {p : Program} {e : Env} {s : State} {m : MethodId} {args : Array Value} {below : List Frame} {meth : Method} {c : Code} {H : Heap} {locs : List Loc} {A : Nat → Prop} {ls : Array Slot} {gT : Gs} {gP0 : Gs} {gP1 : Gs} {v3 : Int32} {q : Int32 × Gs × Gs}, Cx p s m args meth c cX8_firstFault (some .int) 6 RX8 lw_all → Hx D (tX8 yT ++ (tX4 yP0 ++ (tX0 yP1))) A s H locs (wX8 hT aT yT gT ++ (wX4 hP0 aP0 yP0 gP0 ++ (wX0 hP1 aP1 yP1 gP1))) → lv_has ls 6 [(0, .ref hT), (1, .ref hP0), (2, .ref hP1), (3, .int v3)] → fn gT gP0 gP1 v3 = some q → W p l e R_X8_firstFault s m args below meth c H locs 0 0 (MQ below (QI D A (wX8 hT aT yT q.2.1 ++ (wX4 hP0 aP0 yP0 gP0 ++ (wX0 hP1 aP1 yP1 q.2.2))) q.1) args s 0 0 A) (F0 m 131 ls [])
def S_X8_firstFault_118 (l : Launch) (D : Dx) (hT : Nat) (aT : Nat → Nat) (yT : Nat → ClassId) (hP0 : Nat) (aP0 : Nat → Nat) (yP0 : Nat → ClassId) (hP1 : Nat) (aP1 : Nat → Nat) (yP1 : Nat → ClassId) (fn : Gs → Gs → Gs → Int32 → Int32 → Int32 → Option (Int32 × Gs × Gs)) : Prop :=
  ∀ {p : Program} {e : Env} {s : State} {m : MethodId} {args : Array Value} {below : List Frame} {meth : Method} {c : Code} {H : Heap} {locs : List Loc} {A : Nat → Prop} {ls : Array Slot} {gT : Gs} {gP0 : Gs} {gP1 : Gs} {v3 : Int32} {s0 : Int32} {s1 : Int32} {q : Int32 × Gs × Gs}, Cx p s m args meth c cX8_firstFault (some .int) 6 RX8 lw_all → Hx D (tX8 yT ++ (tX4 yP0 ++ (tX0 yP1))) A s H locs (wX8 hT aT yT gT ++ (wX4 hP0 aP0 yP0 gP0 ++ (wX0 hP1 aP1 yP1 gP1))) → lv_has ls 6 [(0, .ref hT), (1, .ref hP0), (2, .ref hP1), (3, .int v3)] → fn gT gP0 gP1 v3 s0 s1 = some q → W p l e R_X8_firstFault s m args below meth c H locs 0 0 (MQ below (QI D A (wX8 hT aT yT q.2.1 ++ (wX4 hP0 aP0 yP0 gP0 ++ (wX0 hP1 aP1 yP1 q.2.2))) q.1) args s 0 0 A) (F0 m 118 ls [.int s0, .int s1])
def S_X8_firstFault_74 (l : Launch) (D : Dx) (hT : Nat) (aT : Nat → Nat) (yT : Nat → ClassId) (hP0 : Nat) (aP0 : Nat → Nat) (yP0 : Nat → ClassId) (hP1 : Nat) (aP1 : Nat → Nat) (yP1 : Nat → ClassId) (fn : Gs → Gs → Gs → Int32 → Int32 → Option (Int32 × Gs × Gs)) : Prop :=
  ∀ {p : Program} {e : Env} {s : State} {m : MethodId} {args : Array Value} {below : List Frame} {meth : Method} {c : Code} {H : Heap} {locs : List Loc} {A : Nat → Prop} {ls : Array Slot} {gT : Gs} {gP0 : Gs} {gP1 : Gs} {v3 : Int32} {s0 : Int32} {q : Int32 × Gs × Gs}, Cx p s m args meth c cX8_firstFault (some .int) 6 RX8 lw_all → Hx D (tX8 yT ++ (tX4 yP0 ++ (tX0 yP1))) A s H locs (wX8 hT aT yT gT ++ (wX4 hP0 aP0 yP0 gP0 ++ (wX0 hP1 aP1 yP1 gP1))) → lv_has ls 6 [(0, .ref hT), (1, .ref hP0), (2, .ref hP1), (3, .int v3)] → fn gT gP0 gP1 v3 s0 = some q → W p l e R_X8_firstFault s m args below meth c H locs 0 0 (MQ below (QI D A (wX8 hT aT yT q.2.1 ++ (wX4 hP0 aP0 yP0 gP0 ++ (wX0 hP1 aP1 yP1 q.2.2))) q.1) args s 0 0 A) (F0 m 74 ls [.int s0])
def S_X8_firstFault_22 (l : Launch) (D : Dx) (hT : Nat) (aT : Nat → Nat) (yT : Nat → ClassId) (hP0 : Nat) (aP0 : Nat → Nat) (yP0 : Nat → ClassId) (hP1 : Nat) (aP1 : Nat → Nat) (yP1 : Nat → ClassId) (fn : Gs → Gs → Gs → Int32 → Int32 → Option (Int32 × Gs × Gs)) : Prop :=
  ∀ {p : Program} {e : Env} {s : State} {m : MethodId} {args : Array Value} {below : List Frame} {meth : Method} {c : Code} {H : Heap} {locs : List Loc} {A : Nat → Prop} {ls : Array Slot} {gT : Gs} {gP0 : Gs} {gP1 : Gs} {v3 : Int32} {v4 : Int32} {q : Int32 × Gs × Gs}, Cx p s m args meth c cX8_firstFault (some .int) 6 RX8 lw_all → Hx D (tX8 yT ++ (tX4 yP0 ++ (tX0 yP1))) A s H locs (wX8 hT aT yT gT ++ (wX4 hP0 aP0 yP0 gP0 ++ (wX0 hP1 aP1 yP1 gP1))) → lv_has ls 6 [(0, .ref hT), (1, .ref hP0), (2, .ref hP1), (3, .int v3), (4, .int v4)] → fn gT gP0 gP1 v3 v4 = some q → W p l e R_X8_firstFault s m args below meth c H locs 0 0 (MQ below (QI D A (wX8 hT aT yT q.2.1 ++ (wX4 hP0 aP0 yP0 gP0 ++ (wX0 hP1 aP1 yP1 q.2.2))) q.1) args s 0 0 A) (F0 m 22 ls [])
def S_X8_firstFault_2 (l : Launch) (D : Dx) (hT : Nat) (aT : Nat → Nat) (yT : Nat → ClassId) (hP0 : Nat) (aP0 : Nat → Nat) (yP0 : Nat → ClassId) (hP1 : Nat) (aP1 : Nat → Nat) (yP1 : Nat → ClassId) (fn : Gs → Gs → Gs → Int32 → Option (Int32 × Gs × Gs)) : Prop :=
  ∀ {p : Program} {e : Env} {s : State} {m : MethodId} {args : Array Value} {below : List Frame} {meth : Method} {c : Code} {H : Heap} {locs : List Loc} {A : Nat → Prop} {ls : Array Slot} {gT : Gs} {gP0 : Gs} {gP1 : Gs} {v3 : Int32} {q : Int32 × Gs × Gs}, Cx p s m args meth c cX8_firstFault (some .int) 6 RX8 lw_all → Hx D (tX8 yT ++ (tX4 yP0 ++ (tX0 yP1))) A s H locs (wX8 hT aT yT gT ++ (wX4 hP0 aP0 yP0 gP0 ++ (wX0 hP1 aP1 yP1 gP1))) → lv_has ls 6 [(0, .ref hT), (1, .ref hP0), (2, .ref hP1), (3, .int v3)] → fn gT gP0 gP1 v3 = some q → W p l e R_X8_firstFault s m args below meth c H locs 0 0 (MQ below (QI D A (wX8 hT aT yT q.2.1 ++ (wX4 hP0 aP0 yP0 gP0 ++ (wX0 hP1 aP1 yP1 q.2.2))) q.1) args s 0 0 A) (F0 m 2 ls [])
def SH_X8_firstFault (l : Launch) (D : Dx) (hT : Nat) (aT : Nat → Nat) (yT : Nat → ClassId) (hP0 : Nat) (aP0 : Nat → Nat) (yP0 : Nat → ClassId) (hP1 : Nat) (aP1 : Nat → Nat) (yP1 : Nat → ClassId) (rec : (Gs → Gs → Gs → Int32 → Option (Int32 × Gs × Gs)) × (Gs → Gs → Gs → Int32 → Int32 → Option (Int32 × Gs × Gs))) : Prop := S_X8_firstFault_2 l D hT aT yT hP0 aP0 yP0 hP1 aP1 yP1 rec.1 ∧ S_X8_firstFault_22 l D hT aT yT hP0 aP0 yP0 hP1 aP1 yP1 rec.2
set_option maxHeartbeats 4000000 in
set_option maxRecDepth 100000 in
theorem k_X8_firstFault_131 (l : Launch) (D : Dx) (hT : Nat) (aT : Nat → Nat) (yT : Nat → ClassId) (hP0 : Nat) (aP0 : Nat → Nat) (yP0 : Nat → ClassId) (hP1 : Nat) (aP1 : Nat → Nat) (yP1 : Nat → ClassId) (n : Nat) (rec : (Gs → Gs → Gs → Int32 → Option (Int32 × Gs × Gs)) × (Gs → Gs → Gs → Int32 → Int32 → Option (Int32 × Gs × Gs))) (IH : SH_X8_firstFault l D hT aT yT hP0 aP0 yP0 hP1 aP1 yP1 rec) : S_X8_firstFault_131 l D hT aT yT hP0 aP0 yP0 hP1 aP1 yP1 (b_X8_firstFault_131 n rec) := by
  intro p e s m args below meth c H locs A ls gT gP0 gP1 v3 q C X hl hF
  obtain ⟨hx, hb, hr, hml, hown, hts, hlk⟩ := id C
  unfold b_X8_firstFault_131 at hF
  refine lv_iinc (v := v3 + (1 : Int32)) (lv' := [(3, .int (v3 + (1 : Int32))), (0, .ref hT), (1, .ref hP0), (2, .ref hP1)]) hx hb dX8_firstFault_131 hl (k := 3) rfl rfl (by decide) rfl (fun ls hl => ?_)
  refine lv_goto (tgt := 2) hx hb dX8_firstFault_134 (by decide) ?_
  exact IH.1 C X (lv_sub hl [1, 2, 3, 0] rfl) hF
set_option maxHeartbeats 4000000 in
set_option maxRecDepth 100000 in
theorem k_X8_firstFault_118 (l : Launch) (D : Dx) (hT : Nat) (aT : Nat → Nat) (yT : Nat → ClassId) (hP0 : Nat) (aP0 : Nat → Nat) (yP0 : Nat → ClassId) (hP1 : Nat) (aP1 : Nat → Nat) (yP1 : Nat → ClassId) (n : Nat) (rec : (Gs → Gs → Gs → Int32 → Option (Int32 × Gs × Gs)) × (Gs → Gs → Gs → Int32 → Int32 → Option (Int32 × Gs × Gs))) (IH : SH_X8_firstFault l D hT aT yT hP0 aP0 yP0 hP1 aP1 yP1 rec) : S_X8_firstFault_118 l D hT aT yT hP0 aP0 yP0 hP1 aP1 yP1 (b_X8_firstFault_118 n rec) := by
  intro p e s m args below meth c H locs A ls gT gP0 gP1 v3 s0 s1 q C X hl hF
  obtain ⟨hx, hb, hr, hml, hown, hts, hlk⟩ := id C
  unfold b_X8_firstFault_118 at hF
  obtain ⟨q_7, hc_8, hF⟩ := bnd_some hF
  refine cS_i (As := [.int s1, .int s0]) (rest := []) C X (c_X8_comesTo l D  s1 s0 q_7 hc_8 _) (va_cwS 2 hts (good_S q5_12 q5_13 q1_11 q5_14) rfl rfl rfl (by decide +kernel) ⟨Nat.le_of_ble_eq_true rfl, Nat.le_of_ble_eq_true rfl⟩) (eK X) eP (eD (A := A)) (eF X) hl.1 rfl rfl (Nat.le_of_ble_eq_true rfl) dX8_firstFault_118 ⟨Nat.le_of_ble_eq_true rfl, Nat.le_of_ble_eq_true rfl⟩ (fun t H1 locs1 ht hB hk hS => ?_)
  have X := Hx_after_none X hk hS
  clear hk hS ht hB
  generalize H1 = H at X ⊢
  generalize locs1 = locs at X ⊢
  refine lv_if_ne (tgt := 131) hx hb dX8_firstFault_121 (by decide) (fun c => ?_) (fun c => ?_)
  · replace hF := iF c hF
    exact (k_X8_firstFault_131 l D hT aT yT hP0 aP0 yP0 hP1 aP1 yP1 n rec IH) C X (lv_sub hl [0, 1, 2, 3] rfl) hF
  · replace hF := iT c hF
    refine lv_aload_n hx hb dX8_firstFault_124 rfl (lv_at hl 2 rfl) ?_
    refine va_getN (D := D.1) (ci := 0) (v := .ref (aP1 14)) (C := RX0) (T := TX0) (N := 19) hx hb hts wi_X0 hown X.1 X.2.1 13 rfl rfl 14 (by decide) (X.2.2.2.2.2.1.use q2_12 rfl) (fun _ h9 => h9) (fl_get (by decide)) dX8_firstFault_125 ?_
    refine lv_iload_n hx hb dX8_firstFault_128 rfl (lv_at hl 3 rfl) ?_
    obtain ⟨h_9, hF⟩ := grd_some hF
    refine va_iald (D := D.1) (f := gIA gP1 14) hx hb X.1 X.2.1 25 22 rfl rfl (inB_ok h_9) dX8_firstFault_129 ?_
    have hq := Option.some.inj hF
    subst hq
    exact rt_i C X dX8_firstFault_130
set_option maxHeartbeats 4000000 in
set_option maxRecDepth 100000 in
theorem k_X8_firstFault_74 (l : Launch) (D : Dx) (hT : Nat) (aT : Nat → Nat) (yT : Nat → ClassId) (hP0 : Nat) (aP0 : Nat → Nat) (yP0 : Nat → ClassId) (hP1 : Nat) (aP1 : Nat → Nat) (yP1 : Nat → ClassId) (n : Nat) (rec : (Gs → Gs → Gs → Int32 → Option (Int32 × Gs × Gs)) × (Gs → Gs → Gs → Int32 → Int32 → Option (Int32 × Gs × Gs))) (IH : SH_X8_firstFault l D hT aT yT hP0 aP0 yP0 hP1 aP1 yP1 rec) : S_X8_firstFault_74 l D hT aT yT hP0 aP0 yP0 hP1 aP1 yP1 (b_X8_firstFault_74 n rec) := by
  intro p e s m args below meth c H locs A ls gT gP0 gP1 v3 s0 q C X hl hF
  obtain ⟨hx, hb, hr, hml, hown, hts, hlk⟩ := id C
  unfold b_X8_firstFault_74 at hF
  refine lv_istore (lv' := [(4, .int s0), (0, .ref hT), (1, .ref hP0), (2, .ref hP1), (3, .int v3)]) hx hb dX8_firstFault_74 hl (by decide) rfl (fun ls hl => ?_)
  refine lv_aload_n hx hb dX8_firstFault_76 rfl (lv_at hl 3 rfl) ?_
  refine va_getN (D := D.1) (ci := 0) (v := .ref (aP1 17)) (C := RX0) (T := TX0) (N := 19) hx hb hts wi_X0 hown X.1 X.2.1 13 rfl rfl 17 (by decide) (X.2.2.2.2.2.1.use q2_22 rfl) (fun _ h9 => h9) (fl_get (by decide)) dX8_firstFault_77 ?_
  refine lv_iload_n hx hb dX8_firstFault_80 rfl (lv_at hl 4 rfl) ?_
  refine lv_iload hx hb dX8_firstFault_81 (lv_at hl 0 rfl) ?_
  obtain ⟨h_5, hF⟩ := grd_some hF
  refine va_iast (D := D.1) (f := gIA gP1 17) hx hb X.1 X.2.1 X.2.2.1 X.2.2.2.1 28 25 rfl rfl (inB_ok h_5) dX8_firstFault_83 (fun H locs hP hD hS => ?_)
  have X : Hx D (tX8 yT ++ (tX4 yP0 ++ (tX0 yP1))) A s H locs (wX8 hT aT yT gT ++ (wX4 hP0 aP0 yP0 gP0 ++ (wX0 hP1 aP1 yP1 (sIA gP1 17 (upd (gIA gP1 17) v3.toNatClampNeg s0))))) := Hx_set X (set_r (n := 2) (i := 26) (j := 28) (wG_len rfl) rfl (set_r (n := 11) (i := 15) (j := 26) (wG_len rfl) rfl (wG_sIA (i := 14) (k := 17) ndX0 rfl rfl))) hP hD hS
  refine lv_aload_n hx hb dX8_firstFault_84 rfl (lv_at hl 3 rfl) ?_
  refine va_getN (D := D.1) (ci := 0) (v := .ref (aP1 13)) (C := RX0) (T := TX0) (N := 19) hx hb hts wi_X0 hown X.1 X.2.1 13 rfl rfl 13 (by decide) (X.2.2.2.2.2.1.use q2_9 rfl) (fun _ h9 => h9) (fl_get (by decide)) dX8_firstFault_85 ?_
  refine lv_iload_n hx hb dX8_firstFault_88 rfl (lv_at hl 4 rfl) ?_
  obtain ⟨h_6, hF⟩ := grd_some hF
  refine va_iald (D := D.1) (f := gIA gP1 13) hx hb X.1 X.2.1 24 21 rfl rfl (inB_ok h_6) dX8_firstFault_89 ?_
  refine lv_istore (lv' := [(5, .int (gIA gP1 13 v3.toNatClampNeg)), (4, .int s0), (0, .ref hT), (1, .ref hP0), (2, .ref hP1), (3, .int v3)]) hx hb dX8_firstFault_90 hl (by decide) rfl (fun ls hl => ?_)
  refine lv_iload hx hb dX8_firstFault_92 (lv_at hl 0 rfl) ?_
  refine lv_iconst (v := (-1 : Int32)) hx hb dX8_firstFault_94 (by decide) ?_
  refine lv_icmp_eq (tgt := 131) hx hb dX8_firstFault_95 (by decide) (fun c => ?_) (fun c => ?_)
  · replace hF := iT c hF
    exact (k_X8_firstFault_131 l D hT aT yT hP0 aP0 yP0 hP1 aP1 yP1 n rec IH) C X (lv_sub hl [2, 3, 4, 5] rfl) hF
  · replace hF := iF c hF
    refine lv_iload hx hb dX8_firstFault_98 (lv_at hl 1 rfl) ?_
    refine lv_iload hx hb dX8_firstFault_100 (lv_at hl 0 rfl) ?_
    refine lv_bipush (v := (40 : Int32)) hx hb dX8_firstFault_102 (by decide) ?_
    refine lv_icmp_ge (tgt := 117) hx hb dX8_firstFault_104 (by decide) (fun c => ?_) (fun c => ?_)
    · replace hF := iT c hF
      refine lv_iconst (v := (0 : Int32)) hx hb dX8_firstFault_117 (by decide) ?_
      exact (k_X8_firstFault_118 l D hT aT yT hP0 aP0 yP0 hP1 aP1 yP1 n rec IH) C X (lv_sub hl [2, 3, 4, 5] rfl) hF
    · replace hF := iF c hF
      refine lv_aload_n hx hb dX8_firstFault_107 rfl (lv_at hl 3 rfl) ?_
      refine va_getN (D := D.1) (ci := 4) (v := .ref (aP0 7)) (C := RX4) (T := TX4) (N := 14) hx hb hts wi_X4 hown X.1 X.2.1 2 rfl rfl 7 (by decide) (X.2.2.2.2.2.1.use q2_96 rfl) (fun _ h9 => h9) (fl_get (by decide)) dX8_firstFault_108 ?_
      refine lv_iload hx hb dX8_firstFault_111 (lv_at hl 0 rfl) ?_
      obtain ⟨h_10, hF⟩ := grd_some hF
      refine va_iald (D := D.1) (f := gIA gP0 7) hx hb X.1 X.2.1 6 4 rfl rfl (inB_ok h_10) dX8_firstFault_113 ?_
      refine lv_goto (tgt := 118) hx hb dX8_firstFault_114 (by decide) ?_
      exact (k_X8_firstFault_118 l D hT aT yT hP0 aP0 yP0 hP1 aP1 yP1 n rec IH) C X (lv_sub hl [2, 3, 4, 5] rfl) hF
set_option maxHeartbeats 4000000 in
set_option maxRecDepth 100000 in
theorem k_X8_firstFault_22 (l : Launch) (D : Dx) (hT : Nat) (aT : Nat → Nat) (yT : Nat → ClassId) (hP0 : Nat) (aP0 : Nat → Nat) (yP0 : Nat → ClassId) (hP1 : Nat) (aP1 : Nat → Nat) (yP1 : Nat → ClassId) (n : Nat) (rec : (Gs → Gs → Gs → Int32 → Option (Int32 × Gs × Gs)) × (Gs → Gs → Gs → Int32 → Int32 → Option (Int32 × Gs × Gs))) (IH : SH_X8_firstFault l D hT aT yT hP0 aP0 yP0 hP1 aP1 yP1 rec) : S_X8_firstFault_22 l D hT aT yT hP0 aP0 yP0 hP1 aP1 yP1 (h_X8_firstFault_22 n rec) := by
  intro p e s m args below meth c H locs A ls gT gP0 gP1 v3 v4 q C X hl hF
  obtain ⟨hx, hb, hr, hml, hown, hts, hlk⟩ := id C
  unfold h_X8_firstFault_22 at hF
  refine lv_iload hx hb dX8_firstFault_22 (lv_at hl 4 rfl) ?_
  refine lv_aload_n hx hb dX8_firstFault_24 rfl (lv_at hl 2 rfl) ?_
  refine lv_iload_n hx hb dX8_firstFault_25 rfl (lv_at hl 3 rfl) ?_
  obtain ⟨q_3, hc_4, hF⟩ := bnd_some hF
  refine cV_i (As := [.int v3]) (rest := [.int v4]) C X (c_X0_endOf l D hP1 aP1 yP1 gP1 v3 q_3 hc_4 _) (cwV 1 hts (good_V q4_223 q4_210 q4_211 q1_8 q4_212) rfl rfl rfl (by decide +kernel) ⟨Nat.le_of_ble_eq_true rfl, Nat.le_of_ble_eq_true rfl⟩) (va_recv X.1 X.2.1 (ci := 0) (q0 := 13) rfl rfl) (X.1.sub (tys' := tX0 yP1) [11, 12, 13, 14, 15, 16, 17, 18, 19, 20, 21, 22, 23, 24, 25] rfl) (X.2.1.sub (ws' := wX0 hP1 aP1 yP1 gP1) [13, 14, 15, 16, 17, 18, 19, 20, 21, 22, 23, 24, 25, 26, 27, 28] rfl) (X.2.2.1.sub (ws' := wX0 hP1 aP1 yP1 gP1) [13, 14, 15, 16, 17, 18, 19, 20, 21, 22, 23, 24, 25, 26, 27, 28] (by decide) rfl) (free_of (wC := wX0 hP1 aP1 yP1 gP1) (isC := [13, 14, 15, 16, 17, 18, 19, 20, 21, 22, 23, 24, 25, 26, 27, 28]) X rfl) hl.1 rfl rfl (Nat.le_of_ble_eq_true rfl) dX8_firstFault_26 ⟨Nat.le_of_ble_eq_true rfl, Nat.le_of_ble_eq_true rfl⟩ (fun t H1 locs1 ht hB hk hS => ?_)
  have X : Hx D (tX8 yT ++ (tX4 yP0 ++ (tX0 yP1))) A s H1 locs1 (wX8 hT aT yT gT ++ (wX4 hP0 aP0 yP0 gP0 ++ (wX0 hP1 aP1 yP1 gP1))) := Hx_after (isC := [13, 14, 15, 16, 17, 18, 19, 20, 21, 22, 23, 24, 25, 26, 27, 28]) (isR := [0, 1, 2, 3, 4, 5, 6, 7, 8, 9, 10, 11, 12]) (pm := [0, 1, 2, 3, 4, 5, 6, 7, 8, 9, 10, 11, 12, 13, 14, 15, 16, 17, 18, 19, 20, 21, 22, 23, 24, 25, 26, 27, 28]) (wr := wX8 hT aT yT gT ++ (wX4 hP0 aP0 yP0 gP0)) X ⟨rfl, rfl, by decide, by decide, rfl, by decide⟩ ht hB hk hS
  clear hk hS ht hB
  generalize H1 = H at X ⊢
  generalize locs1 = locs at X ⊢
  refine lv_icmp_ge (tgt := 57) hx hb dX8_firstFault_29 (by decide) (fun c => ?_) (fun c => ?_)
  · replace hF := iT c hF
    refine lv_aload_n hx hb dX8_firstFault_57 rfl (lv_at hl 0 rfl) ?_
    refine va_get (D := D.1) (ci := 8) (v := .int (gI gT 1)) (C := RX8) (T := TX8) (N := 2) hx hb hts wi_X8 hown X.1 X.2.1 0 rfl rfl 1 (by decide) (hts _ q2_223) (fun _ h9 => h9) (fl_get (by decide)) dX8_firstFault_58 ?_
    refine lv_if_le (tgt := 73) hx hb dX8_firstFault_61 (by decide) (fun c => ?_) (fun c => ?_)
    · replace hF := iT c hF
      refine lv_iconst (v := (0 : Int32)) hx hb dX8_firstFault_73 (by decide) ?_
      exact (k_X8_firstFault_74 l D hT aT yT hP0 aP0 yP0 hP1 aP1 yP1 n rec IH) C X (lv_sub hl [0, 1, 2, 3] rfl) hF
    · replace hF := iF c hF
      refine lv_aload_n hx hb dX8_firstFault_64 rfl (lv_at hl 0 rfl) ?_
      refine va_get (D := D.1) (ci := 8) (v := .ref (aT 0)) (C := RX8) (T := TX8) (N := 2) hx hb hts wi_X8 hown X.1 X.2.1 0 rfl rfl 0 (by decide) (hts _ q2_222) (fun _ h9 => h9) (fl_get (by decide)) dX8_firstFault_65 ?_
      refine lv_iconst (v := (0 : Int32)) hx hb dX8_firstFault_68 (by decide) ?_
      obtain ⟨h_11, hF⟩ := grd_some hF
      refine va_iald (D := D.1) (f := gIA gT 0) hx hb X.1 X.2.1 1 0 rfl rfl (inB_ok h_11) dX8_firstFault_69 ?_
      refine lv_goto (tgt := 74) hx hb dX8_firstFault_70 (by decide) ?_
      exact (k_X8_firstFault_74 l D hT aT yT hP0 aP0 yP0 hP1 aP1 yP1 n rec IH) C X (lv_sub hl [0, 1, 2, 3] rfl) hF
  · replace hF := iF c hF
    refine lv_aload_n hx hb dX8_firstFault_32 rfl (lv_at hl 0 rfl) ?_
    refine lv_aload_n hx hb dX8_firstFault_33 rfl (lv_at hl 1 rfl) ?_
    refine lv_aload_n hx hb dX8_firstFault_34 rfl (lv_at hl 2 rfl) ?_
    refine lv_iload hx hb dX8_firstFault_35 (lv_at hl 4 rfl) ?_
    obtain ⟨q_12, hc_13, hF⟩ := bnd_some hF
    refine cV_i (As := [.ref hP0, .ref hP1, .int v4]) (rest := []) C X (c_X8_settle l D hT aT yT hP0 aP0 yP0 hP1 aP1 yP1 gT gP0 gP1 v4 q_12 hc_13 _) (cwV 3 hts (good_V q4_224 q4_226 q0_42 q1_11 q4_227) rfl rfl rfl (by decide +kernel) ⟨Nat.le_of_ble_eq_true rfl, Nat.le_of_ble_eq_true rfl⟩) (va_recv X.1 X.2.1 (ci := 8) (q0 := 0) rfl rfl) X.1 X.2.1 X.2.2.1 (free_all X) hl.1 rfl rfl (Nat.le_of_ble_eq_true rfl) dX8_firstFault_37 ⟨Nat.le_of_ble_eq_true rfl, Nat.le_of_ble_eq_true rfl⟩ (fun t H1 locs1 ht hB hk hS => ?_)
    have X : Hx D (tX8 yT ++ (tX4 yP0 ++ (tX0 yP1))) A s H1 locs1 (wX8 hT aT yT q_12.2.1 ++ (wX4 hP0 aP0 yP0 gP0 ++ (wX0 hP1 aP1 yP1 q_12.2.2))) := Hx_after_all X ht hB hS
    clear hk hS ht hB
    generalize H1 = H at X ⊢
    generalize locs1 = locs at X ⊢
    refine lv_if_ne (tgt := 51) hx hb dX8_firstFault_40 (by decide) (fun c => ?_) (fun c => ?_)
    · replace hF := iF c hF
      refine lv_iinc (v := v4 + (1 : Int32)) (lv' := [(4, .int (v4 + (1 : Int32))), (0, .ref hT), (1, .ref hP0), (2, .ref hP1), (3, .int v3)]) hx hb dX8_firstFault_51 hl (k := 4) rfl rfl (by decide) rfl (fun ls hl => ?_)
      refine lv_goto (tgt := 22) hx hb dX8_firstFault_54 (by decide) ?_
      exact IH.2 C X (lv_sub hl [1, 2, 3, 4, 0] rfl) hF
    · replace hF := iT c hF
      refine lv_aload_n hx hb dX8_firstFault_43 rfl (lv_at hl 2 rfl) ?_
      refine va_getN (D := D.1) (ci := 0) (v := .ref (aP1 1)) (C := RX0) (T := TX0) (N := 19) hx hb hts wi_X0 hown X.1 X.2.1 13 rfl rfl 1 (by decide) (X.2.2.2.2.2.1.use q1_212 rfl) (fun _ h9 => h9) (fl_get (by decide)) dX8_firstFault_44 ?_
      refine lv_iload hx hb dX8_firstFault_47 (lv_at hl 4 rfl) ?_
      obtain ⟨h_14, hF⟩ := grd_some hF
      refine va_iald (D := D.1) (f := gIA q_12.2.2 1) hx hb X.1 X.2.1 15 12 rfl rfl (inB_ok h_14) dX8_firstFault_49 ?_
      have hq := Option.some.inj hF
      subst hq
      exact rt_i C X dX8_firstFault_50
set_option maxHeartbeats 4000000 in
set_option maxRecDepth 100000 in
theorem k_X8_firstFault_2 (l : Launch) (D : Dx) (hT : Nat) (aT : Nat → Nat) (yT : Nat → ClassId) (hP0 : Nat) (aP0 : Nat → Nat) (yP0 : Nat → ClassId) (hP1 : Nat) (aP1 : Nat → Nat) (yP1 : Nat → ClassId) (n : Nat) (rec : (Gs → Gs → Gs → Int32 → Option (Int32 × Gs × Gs)) × (Gs → Gs → Gs → Int32 → Int32 → Option (Int32 × Gs × Gs))) (IH : SH_X8_firstFault l D hT aT yT hP0 aP0 yP0 hP1 aP1 yP1 rec) : S_X8_firstFault_2 l D hT aT yT hP0 aP0 yP0 hP1 aP1 yP1 (h_X8_firstFault_2 n rec) := by
  intro p e s m args below meth c H locs A ls gT gP0 gP1 v3 q C X hl hF
  obtain ⟨hx, hb, hr, hml, hown, hts, hlk⟩ := id C
  unfold h_X8_firstFault_2 at hF
  refine lv_iload_n hx hb dX8_firstFault_2 rfl (lv_at hl 3 rfl) ?_
  refine lv_aload_n hx hb dX8_firstFault_3 rfl (lv_at hl 2 rfl) ?_
  refine va_getN (D := D.1) (ci := 0) (v := .int (gI gP1 18)) (C := RX0) (T := TX0) (N := 19) hx hb hts wi_X0 hown X.1 X.2.1 13 rfl rfl 18 (by decide) (X.2.2.2.2.2.1.use q2_25 rfl) (fun _ h9 => h9) (fl_get (by decide)) dX8_firstFault_4 ?_
  refine lv_icmp_ge (tgt := 137) hx hb dX8_firstFault_7 (by decide) (fun c => ?_) (fun c => ?_)
  · replace hF := iT c hF
    refine lv_iconst (v := (-1 : Int32)) hx hb dX8_firstFault_137 (by decide) ?_
    have hq := Option.some.inj hF
    subst hq
    exact rt_i C X dX8_firstFault_138
  · replace hF := iF c hF
    refine lv_aload_n hx hb dX8_firstFault_10 rfl (lv_at hl 0 rfl) ?_
    refine lv_iconst (v := (0 : Int32)) hx hb dX8_firstFault_11 (by decide) ?_
    refine va_put (D := D.1) (ci := 8) (v := .int (0 : Int32)) (ty := .int) (C := RX8) (T := TX8) (N := 2) hx hb hts wi_X8 tyX8 tyX8_ok nmX8 hown X.1 X.2.1 X.2.2.1 X.2.2.2.1 0 rfl rfl 1 (by decide) (hts _ q2_223) (fun _ h9 => h9) rfl (by decide +kernel) rfl rfl (by rw [List.length_map, List.length_range]; decide) dX8_firstFault_12 (fun H locs hP hD hS => ?_)
    have X : Hx D (tX8 yT ++ (tX4 yP0 ++ (tX0 yP1))) A s H locs (wX8 hT aT yT (sI gT 1 (0 : Int32)) ++ (wX4 hP0 aP0 yP0 gP0 ++ (wX0 hP1 aP1 yP1 gP1))) := Hx_set X (set_l (by rw [wG_len (m := 2) rfl]; decide) (wG_sI (k := 1) rfl)) hP hD hS
    refine lv_aload_n hx hb dX8_firstFault_15 rfl (lv_at hl 2 rfl) ?_
    refine lv_iload_n hx hb dX8_firstFault_16 rfl (lv_at hl 3 rfl) ?_
    obtain ⟨q_1, hc_2, hF⟩ := bnd_some hF
    refine cV_i (As := [.int v3]) (rest := []) C X (c_X0_beginOf l D hP1 aP1 yP1 gP1 v3 q_1 hc_2 _) (cwV 1 hts (good_V q4_222 q4_206 q4_207 q1_8 q4_208) rfl rfl rfl (by decide +kernel) ⟨Nat.le_of_ble_eq_true rfl, Nat.le_of_ble_eq_true rfl⟩) (va_recv X.1 X.2.1 (ci := 0) (q0 := 13) rfl rfl) (X.1.sub (tys' := tX0 yP1) [11, 12, 13, 14, 15, 16, 17, 18, 19, 20, 21, 22, 23, 24, 25] rfl) (X.2.1.sub (ws' := wX0 hP1 aP1 yP1 gP1) [13, 14, 15, 16, 17, 18, 19, 20, 21, 22, 23, 24, 25, 26, 27, 28] rfl) (X.2.2.1.sub (ws' := wX0 hP1 aP1 yP1 gP1) [13, 14, 15, 16, 17, 18, 19, 20, 21, 22, 23, 24, 25, 26, 27, 28] (by decide) rfl) (free_of (wC := wX0 hP1 aP1 yP1 gP1) (isC := [13, 14, 15, 16, 17, 18, 19, 20, 21, 22, 23, 24, 25, 26, 27, 28]) X rfl) hl.1 rfl rfl (Nat.le_of_ble_eq_true rfl) dX8_firstFault_17 ⟨Nat.le_of_ble_eq_true rfl, Nat.le_of_ble_eq_true rfl⟩ (fun t H1 locs1 ht hB hk hS => ?_)
    have X : Hx D (tX8 yT ++ (tX4 yP0 ++ (tX0 yP1))) A s H1 locs1 (wX8 hT aT yT (sI gT 1 (0 : Int32)) ++ (wX4 hP0 aP0 yP0 gP0 ++ (wX0 hP1 aP1 yP1 gP1))) := Hx_after (isC := [13, 14, 15, 16, 17, 18, 19, 20, 21, 22, 23, 24, 25, 26, 27, 28]) (isR := [0, 1, 2, 3, 4, 5, 6, 7, 8, 9, 10, 11, 12]) (pm := [0, 1, 2, 3, 4, 5, 6, 7, 8, 9, 10, 11, 12, 13, 14, 15, 16, 17, 18, 19, 20, 21, 22, 23, 24, 25, 26, 27, 28]) (wr := wX8 hT aT yT (sI gT 1 (0 : Int32)) ++ (wX4 hP0 aP0 yP0 gP0)) X ⟨rfl, rfl, by decide, by decide, rfl, by decide⟩ ht hB hk hS
    clear hk hS ht hB
    generalize H1 = H at X ⊢
    generalize locs1 = locs at X ⊢
    refine lv_istore (lv' := [(4, .int q_1), (0, .ref hT), (1, .ref hP0), (2, .ref hP1), (3, .int v3)]) hx hb dX8_firstFault_20 hl (by decide) rfl (fun ls hl => ?_)
    exact IH.2 C X (lv_sub hl [1, 2, 3, 4, 0] rfl) hF
theorem kL_X8_firstFault (l : Launch) (D : Dx) (hT : Nat) (aT : Nat → Nat) (yT : Nat → ClassId) (hP0 : Nat) (aP0 : Nat → Nat) (yP0 : Nat → ClassId) (hP1 : Nat) (aP1 : Nat → Nat) (yP1 : Nat → ClassId) (n : Nat) : ∀ k, SH_X8_firstFault l D hT aT yT hP0 aP0 yP0 hP1 aP1 yP1 (L_X8_firstFault n k)
  | 0 => ⟨(fun _ _ _ h => by cases h), (fun _ _ _ h => by cases h)⟩
  | k + 1 => ⟨k_X8_firstFault_2 l D hT aT yT hP0 aP0 yP0 hP1 aP1 yP1 n _ (kL_X8_firstFault l D hT aT yT hP0 aP0 yP0 hP1 aP1 yP1 n k), k_X8_firstFault_22 l D hT aT yT hP0 aP0 yP0 hP1 aP1 yP1 n _ (kL_X8_firstFault l D hT aT yT hP0 aP0 yP0 hP1 aP1 yP1 n k)⟩
set_option maxHeartbeats 4000000 in
set_option maxRecDepth 100000 in
theorem c_X8_firstFault (l : Launch) (D : Dx) (hT : Nat) (aT : Nat → Nat) (yT : Nat → ClassId) (hP0 : Nat) (aP0 : Nat → Nat) (yP0 : Nat → ClassId) (hP1 : Nat) (aP1 : Nat → Nat) (yP1 : Nat → ClassId) (n : Nat) (gT : Gs) (gP0 : Gs) (gP1 : Gs) (q : Int32 × Gs × Gs) (hF : f_X8_firstFault n gT gP0 gP1 = some q) (sz : Nat) : Met l yX8_firstFault (ws_ yX8_firstFault cX8_firstFault 6 (some .int)) R_X8_firstFault (PC D (tX8 yT ++ (tX4 yP0 ++ (tX0 yP1))) [.ref hT, .ref hP0, .ref hP1] (wX8 hT aT yT gT ++ (wX4 hP0 aP0 yP0 gP0 ++ (wX0 hP1 aP1 yP1 gP1))) sz) (QI D (va_A (wX8 hT aT yT gT ++ (wX4 hP0 aP0 yP0 gP0 ++ (wX0 hP1 aP1 yP1 gP1))) sz) (wX8 hT aT yT q.2.1 ++ (wX4 hP0 aP0 yP0 gP0 ++ (wX0 hP1 aP1 yP1 q.2.2))) q.1) 0 0 (va_A (wX8 hT aT yT gT ++ (wX4 hP0 aP0 yP0 gP0 ++ (wX0 hP1 aP1 yP1 gP1))) sz) := by
  refine Met.ofW (cc := cX8_firstFault) (maxL := 6) (ret := (some .int)) (by decide) rfl ?_
  intro p e s m args below meth c s₁ B hml hv
  obtain ⟨rfl, hsz, hP, hK, hD, hN⟩ := hv
  subst hsz
  have C : Cx p s m _ meth c cX8_firstFault (some .int) 6 RX8 lw_all := Cx_of B hml
  have X := Hx_start hP hK hD hN
  obtain ⟨hx, hb, hr, -, hown, hts, hlk⟩ := id C
  generalize va_A (wX8 hT aT yT gT ++ (wX4 hP0 aP0 yP0 gP0 ++ (wX0 hP1 aP1 yP1 gP1))) s.heap.size = A at X ⊢
  have hl := lv_entry ([.ref hT, .ref hP0, .ref hP1]) (n := 6) (Nat.le_of_ble_eq_true rfl)
  rw [lg_entry_eq]
  generalize (lg_sl ([.ref hT, .ref hP0, .ref hP1]) ++ List.replicate (6 - (lg_sl ([.ref hT, .ref hP0, .ref hP1])).length) Slot.unset).toArray = ls at hl ⊢
  have hl : lv_has ls 6 [(0, .ref hT), (1, .ref hP0), (2, .ref hP1)] := hl
  unfold f_X8_firstFault at hF
  refine lv_iconst (v := (0 : Int32)) hx hb dX8_firstFault_0 (by decide) ?_
  refine lv_istore_n (lv' := [(3, .int (0 : Int32)), (0, .ref hT), (1, .ref hP0), (2, .ref hP1)]) hx hb dX8_firstFault_1 rfl hl (by decide) rfl (fun ls hl => ?_)
  exact (kL_X8_firstFault l D hT aT yT hP0 aP0 yP0 hP1 aP1 yP1 n n).1 C X (lv_sub hl [1, 2, 3, 0] rfl) hF
