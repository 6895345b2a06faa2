theorem q8_113 : Cond.methodLink RJxe99ae 122 yJxe99ae_isNaN_b9ae7 ∈ lw_all := lw_in (tc_8 (List.mem_of_getElem? (i := 113) rfl)) rfl
theorem q8_114 : Cond.static yJxe99ae_isNaN_b9ae7 ∈ lw_all := lw_in (tc_8 (List.mem_of_getElem? (i := 114) rfl)) rfl
theorem q1_24 : Cond.initialized RJxe99ae ∈ lw_all := lw_in (tc_1 (List.mem_of_getElem? (i := 24) rfl)) rfl
theorem q8_115 : Cond.code yJxe99ae_isNaN_b9ae7 cJxe99ae_isNaN_b9ae7 2 (some .boolean) ∈ lw_all := lw_in (tc_8 (List.mem_of_getElem? (i := 115) rfl)) rfl
theorem q8_119 : Cond.constantLong RJxe99ae 137 (9221120237041090560) ∈ lw_all := lw_in (tc_8 (List.mem_of_getElem? (i := 119) rfl)) rfl
theorem q8_116 : Cond.methodLink RJxe99ae 134 ⟨"java/lang/Double", "doubleToRawLongBits", "(D)J"⟩ ∈ lw_all := lw_in (tc_8 (List.mem_of_getElem? (i := 116) rfl)) rfl
theorem q8_118 : Cond.native ⟨"java/lang/Double", "doubleToRawLongBits", "(D)J"⟩ ∈ lw_all := lw_in (tc_8 (List.mem_of_getElem? (i := 118) rfl)) rfl
theorem q8_117 : Cond.static ⟨"java/lang/Double", "doubleToRawLongBits", "(D)J"⟩ ∈ lw_all := lw_in (tc_8 (List.mem_of_getElem? (i := 117) rfl)) rfl
theorem q8_131 : Cond.methodLink RX12 420 yX12_lengthOf ∈ lw_all := lw_in (tc_8 (List.mem_of_getElem? (i := 131) rfl)) rfl
theorem q8_132 : Cond.static yX12_lengthOf ∈ lw_all := lw_in (tc_8 (List.mem_of_getElem? (i := 132) rfl)) rfl
theorem q1_9 : Cond.initialized RX12 ∈ lw_all := lw_in (tc_1 (List.mem_of_getElem? (i := 9) rfl)) rfl
theorem q8_133 : Cond.code yX12_lengthOf cX12_lengthOf 5 (some .int) ∈ lw_all := lw_in (tc_8 (List.mem_of_getElem? (i := 133) rfl)) rfl
theorem q8_135 : Cond.constantLong RX12 428 (-9223372036854775808) ∈ lw_all := lw_in (tc_8 (List.mem_of_getElem? (i := 135) rfl)) rfl
theorem q8_134 : Cond.constantLong RX12 426 (2147483648) ∈ lw_all := lw_in (tc_8 (List.mem_of_getElem? (i := 134) rfl)) rfl
theorem q8_99 : Cond.constantLong RX12 424 (9223372036854775807) ∈ lw_all := lw_in (tc_8 (List.mem_of_getElem? (i := 99) rfl)) rfl
theorem q9_124 : Cond.constantLong RX12 430 (2047) ∈ lw_all := lw_in (tc_9 (List.mem_of_getElem? (i := 124) rfl)) rfl
theorem q8_152 : Cond.constantLong RX12 454 (4294967295) ∈ lw_all := lw_in (tc_8 (List.mem_of_getElem? (i := 152) rfl)) rfl
theorem q8_153 : Cond.constantLong RX12 456 (4294967296) ∈ lw_all := lw_in (tc_8 (List.mem_of_getElem? (i := 153) rfl)) rfl
theorem q8_149 : Cond.constantLong RX12 448 (65535) ∈ lw_all := lw_in (tc_8 (List.mem_of_getElem? (i := 149) rfl)) rfl
theorem q8_150 : Cond.constantLong RX12 450 (32768) ∈ lw_all := lw_in (tc_8 (List.mem_of_getElem? (i := 150) rfl)) rfl
theorem q8_151 : Cond.constantLong RX12 452 (65536) ∈ lw_all := lw_in (tc_8 (List.mem_of_getElem? (i := 151) rfl)) rfl
theorem q8_146 : Cond.constantLong RX12 442 (255) ∈ lw_all := lw_in (tc_8 (List.mem_of_getElem? (i := 146) rfl)) rfl
theorem q8_147 : Cond.constantLong RX12 444 (128) ∈ lw_all := lw_in (tc_8 (List.mem_of_getElem? (i := 147) rfl)) rfl
theorem q8_148 : Cond.constantLong RX12 446 (256) ∈ lw_all := lw_in (tc_8 (List.mem_of_getElem? (i := 148) rfl)) rfl
theorem q8_128 : Cond.methodLink RX12 458 yX12_made ∈ lw_all := lw_in (tc_8 (List.mem_of_getElem? (i := 128) rfl)) rfl
theorem q8_129 : Cond.static yX12_made ∈ lw_all := lw_in (tc_8 (List.mem_of_getElem? (i := 129) rfl)) rfl
theorem q8_130 : Cond.code yX12_made cX12_made 15 (some .long) ∈ lw_all := lw_in (tc_8 (List.mem_of_getElem? (i := 130) rfl)) rfl
theorem q9_100 : Cond.methodLink RX12 485 yX12_place ∈ lw_all := lw_in (tc_9 (List.mem_of_getElem? (i := 100) rfl)) rfl
theorem q9_101 : Cond.static yX12_place ∈ lw_all := lw_in (tc_9 (List.mem_of_getElem? (i := 101) rfl)) rfl
theorem q9_102 : Cond.code yX12_place cX12_place 2 (some .long) ∈ lw_all := lw_in (tc_9 (List.mem_of_getElem? (i := 102) rfl)) rfl
theorem q9_121 : Cond.methodLink RX12 501 yX12_isFinite ∈ lw_all := lw_in (tc_9 (List.mem_of_getElem? (i := 121) rfl)) rfl
theorem q9_122 : Cond.static yX12_isFinite ∈ lw_all := lw_in (tc_9 (List.mem_of_getElem? (i := 122) rfl)) rfl
theorem q9_123 : Cond.code yX12_isFinite cX12_isFinite 2 (some .boolean) ∈ lw_all := lw_in (tc_9 (List.mem_of_getElem? (i := 123) rfl)) rfl
theorem q8_101 : Cond.methodLink RX12 462 yX12_isReal ∈ lw_all := lw_in (tc_8 (List.mem_of_getElem? (i := 101) rfl)) rfl
theorem q8_102 : Cond.static yX12_isReal ∈ lw_all := lw_in (tc_8 (List.mem_of_getElem? (i := 102) rfl)) rfl
theorem q8_103 : Cond.code yX12_isReal cX12_isReal 1 (some .boolean) ∈ lw_all := lw_in (tc_8 (List.mem_of_getElem? (i := 103) rfl)) rfl
/-! ### Jxe99ae_isNaN_b9ae7 -/
theorem dJxe99ae_isNaN_b9ae7_0 : decode cJxe99ae_isNaN_b9ae7 0 = .ok (.dload_n 0, 1) := by decide +kernel
theorem dJxe99ae_isNaN_b9ae7_1 : decode cJxe99ae_isNaN_b9ae7 1 = .ok (.dload_n 0, 1) := by decide +kernel
theorem dJxe99ae_isNaN_b9ae7_2 : decode cJxe99ae_isNaN_b9ae7 2 = .ok (.dcmp .l, 1) := by decide +kernel
theorem dJxe99ae_isNaN_b9ae7_3 : decode cJxe99ae_isNaN_b9ae7 3 = .ok (.ifCond .eq 7, 3) := by decide +kernel
theorem dJxe99ae_isNaN_b9ae7_6 : decode cJxe99ae_isNaN_b9ae7 6 = .ok (.iconst 1, 1) := by decide +kernel
theorem dJxe99ae_isNaN_b9ae7_7 : decode cJxe99ae_isNaN_b9ae7 7 = .ok (.goto 4, 3) := by decide +kernel
theorem dJxe99ae_isNaN_b9ae7_10 : decode cJxe99ae_isNaN_b9ae7 10 = .ok (.iconst 0, 1) := by decide +kernel
theorem dJxe99ae_isNaN_b9ae7_11 : decode cJxe99ae_isNaN_b9ae7 11 = .ok (.ireturn, 1) := by decide +kernel
abbrev R_Jxe99ae_isNaN_b9ae7 : Room := ({ frames := 0, cells := 0, slots := 0, locals := 0 } : Room)
def f_Jxe99ae_isNaN_b9ae7 (x0 : UInt64) : Option (Int32) :=
  if (Op.cmpValue (FP.dcmp x0 x0) .l) = 0 then (some (0 : Int32)) else (some (1 : Int32))
set_option maxHeartbeats 4000000 in
set_option maxRecDepth 100000 in
theorem c_Jxe99ae_isNaN_b9ae7 (l : Launch) (D : Dx) (x0 : UInt64) (q : Int32) (hF : f_Jxe99ae_isNaN_b9ae7 x0 = some q) (sz : Nat) : Met l yJxe99ae_isNaN_b9ae7 (ws_ yJxe99ae_isNaN_b9ae7 cJxe99ae_isNaN_b9ae7 2 (some .boolean)) R_Jxe99ae_isNaN_b9ae7 (PC D ([]) [.double x0] ([]) sz) (QI D (va_A ([]) sz) ([]) q) 0 0 (va_A ([]) sz) := by
  refine Met.ofW (cc := cJxe99ae_isNaN_b9ae7) (maxL := 2) (ret := (some .boolean)) (by decide) rfl ?_
  intro p e s m args below meth c s₁ B hml hv
  obtain ⟨rfl, hsz, hP, hK, hD, hN⟩ := hv
  subst hsz
  have C : Cx p s m _ meth c cJxe99ae_isNaN_b9ae7 (some .boolean) 2 RJxe99ae lw_all := Cx_of B hml
  have X := Hx_start hP hK hD hN
  obtain ⟨hx, hb, hr, -, hown, hts, hlk⟩ := id C
  generalize va_A ([]) s.heap.size = A at X ⊢
  have hl := lv_entry ([.double x0]) (n := 2) (Nat.le_of_ble_eq_true rfl)
  rw [lg_entry_eq]
  generalize (lg_sl ([.double x0]) ++ List.replicate (2 - (lg_sl ([.double x0])).length) Slot.unset).toArray = ls at hl ⊢
  have hl : lv_has ls 2 [(0, .double x0)] := hl
  unfold f_Jxe99ae_isNaN_b9ae7 at hF
  refine lv_dload_n hx hb dJxe99ae_isNaN_b9ae7_0 rfl (lv_at hl 0 rfl) ?_
  refine lv_dload_n hx hb dJxe99ae_isNaN_b9ae7_1 rfl (lv_at hl 0 rfl) ?_
  refine lv_dcmp hx hb dJxe99ae_isNaN_b9ae7_2 ?_
  refine lv_if_eq (tgt := 10) hx hb dJxe99ae_isNaN_b9ae7_3 (by decide) (fun c => ?_) (fun c => ?_)
  · replace hF := iT c hF
    refine lv_iconst (v := (0 : Int32)) hx hb dJxe99ae_isNaN_b9ae7_10 (by decide) ?_
    have hq := Option.some.inj hF
    subst hq
    exact rt_z (v := (0 : Int32)) C X (by decide) dJxe99ae_isNaN_b9ae7_11
  · replace hF := iF c hF
    refine lv_iconst (v := (1 : Int32)) hx hb dJxe99ae_isNaN_b9ae7_6 (by decide) ?_
    refine lv_goto (tgt := 11) hx hb dJxe99ae_isNaN_b9ae7_7 (by decide) ?_
    have hq := Option.some.inj hF
    subst hq
    exact rt_z (v := (1 : Int32)) C X (by decide) dJxe99ae_isNaN_b9ae7_11

/-! ### Jxe99ae_doubleToLongBits_ccdee -/
theorem dJxe99ae_doubleToLongBits_ccdee_0 : decode cJxe99ae_doubleToLongBits_ccdee 0 = .ok (.dload_n 0, 1) := by decide +kernel
theorem dJxe99ae_doubleToLongBits_ccdee_1 : decode cJxe99ae_doubleToLongBits_ccdee 1 = .ok (.invokestatic 122, 3) := by decide +kernel
theorem dJxe99ae_doubleToLongBits_ccdee_4 : decode cJxe99ae_doubleToLongBits_ccdee 4 = .ok (.ifCond .ne 8, 3) := by decide +kernel
theorem dJxe99ae_doubleToLongBits_ccdee_7 : decode cJxe99ae_doubleToLongBits_ccdee 7 = .ok (.dload_n 0, 1) := by decide +kernel
theorem dJxe99ae_doubleToLongBits_ccdee_8 : decode cJxe99ae_doubleToLongBits_ccdee 8 = .ok (.invokestatic 134, 3) := by decide +kernel
theorem dJxe99ae_doubleToLongBits_ccdee_11 : decode cJxe99ae_doubleToLongBits_ccdee 11 = .ok (.lreturn, 1) := by decide +kernel
theorem dJxe99ae_doubleToLongBits_ccdee_12 : decode cJxe99ae_doubleToLongBits_ccdee 12 = .ok (.ldc2_w 137, 3) := by decide +kernel
theorem dJxe99ae_doubleToLongBits_ccdee_15 : decode cJxe99ae_doubleToLongBits_ccdee 15 = .ok (.lreturn, 1) := by decide +kernel
abbrev R_Jxe99ae_doubleToLongBits_ccdee : Room := ({ frames := 1, cells := 0, slots := 0, locals := 64 } : Room)
def f_Jxe99ae_doubleToLongBits_ccdee (x0 : UInt64) : Option (Int64) :=
  bnd (f_Jxe99ae_isNaN_b9ae7 x0) (fun q_1 => if q_1 = 0 then (some x0.toInt64) else (some (9221120237041090560 : Int64)))
set_option maxHeartbeats 4000000 in
set_option maxRecDepth 100000 in
theorem c_Jxe99ae_doubleToLongBits_ccdee (l : Launch) (D : Dx) (x0 : UInt64) (q : Int64) (hF : f_Jxe99ae_doubleToLongBits_ccdee x0 = some q) (sz : Nat) : Met l yJxe99ae_doubleToLongBits_ccdee (ws_ yJxe99ae_doubleToLongBits_ccdee cJxe99ae_doubleToLongBits_ccdee 2 (some .long)) R_Jxe99ae_doubleToLongBits_ccdee (PC D ([]) [.double x0] ([]) sz) (QL D (va_A ([]) sz) ([]) q) 0 0 (va_A ([]) sz) := by
  refine Met.ofW (cc := cJxe99ae_doubleToLongBits_ccdee) (maxL := 2) (ret := (some .long)) (by decide) rfl ?_
  intro p e s m args below meth c s₁ B hml hv
  obtain ⟨rfl, hsz, hP, hK, hD, hN⟩ := hv
  subst hsz
  have C : Cx p s m _ meth c cJxe99ae_doubleToLongBits_ccdee (some .long) 2 RJxe99ae lw_all := Cx_of B hml
  have X := Hx_start hP hK hD hN
  obtain ⟨hx, hb, hr, -, hown, hts, hlk⟩ := id C
  generalize va_A ([]) s.heap.size = A at X ⊢
  have hl := lv_entry ([.double x0]) (n := 2) (Nat.le_of_ble_eq_true rfl)
  rw [lg_entry_eq]
  generalize (lg_sl ([.double x0]) ++ List.replicate (2 - (lg_sl ([.double x0])).length) Slot.unset).toArray = ls at hl ⊢
  have hl : lv_has ls 2 [(0, .double x0)] := hl
  unfold f_Jxe99ae_doubleToLongBits_ccdee at hF
  refine lv_dload_n hx hb dJxe99ae_doubleToLongBits_ccdee_0 rfl (lv_at hl 0 rfl) ?_
  obtain ⟨q_1, hc_2, hF⟩ := bnd_some hF
  refine cS_i (As := [.double x0]) (rest := []) C X (c_Jxe99ae_isNaN_b9ae7 l D  x0 q_1 hc_2 _) (va_cwS 1 hts (good_S q8_113 q8_114 q1_24 q8_115) rfl rfl rfl (by decide +kernel) ⟨Nat.le_of_ble_eq_true rfl, Nat.le_of_ble_eq_true rfl⟩) (eK X) eP (eD (A := A)) (eF X) hl.1 rfl rfl (Nat.le_of_ble_eq_true rfl) dJxe99ae_doubleToLongBits_ccdee_1 ⟨Nat.le_of_ble_eq_true rfl, Nat.le_of_ble_eq_true rfl⟩ (fun t H1 locs1 ht hB hk hS => ?_)
  have X := Hx_after_none X hk hS
  clear hk hS ht hB
  generalize H1 = H at X ⊢
  generalize locs1 = locs at X ⊢
  refine lv_if_ne (tgt := 12) hx hb dJxe99ae_doubleToLongBits_ccdee_4 (by decide) (fun c => ?_) (fun c => ?_)
  · replace hF := iF c hF
    refine lv_ldc2 hx hb hown (hts _ q8_119) dJxe99ae_doubleToLongBits_ccdee_12 ?_
    have hq := Option.some.inj hF
    subst hq
    exact rt_l C X dJxe99ae_doubleToLongBits_ccdee_15
  · replace hF := iT c hF
    refine lv_dload_n hx hb dJxe99ae_doubleToLongBits_ccdee_7 rfl (lv_at hl 0 rfl) ?_
    refine vn_d2l hx hb (by rw [hml]; exact hl.1.symm) hown (hts _ q8_116) (hts _ q8_118) (hts _ q8_117) (hts _ q1_24) (Nat.le_of_ble_eq_true rfl) (Nat.le_of_ble_eq_true rfl) dJxe99ae_doubleToLongBits_ccdee_8 ?_
    have hq := Option.some.inj hF
    subst hq
    exact rt_l C X dJxe99ae_doubleToLongBits_ccdee_11

/-! ### X12_lengthOf -/
theorem dX12_lengthOf_0 : decode cX12_lengthOf 0 = .ok (.iconst 0, 1) := by decide +kernel
theorem dX12_lengthOf_1 : decode cX12_lengthOf 1 = .ok (.istore_n 2, 1) := by decide +kernel
theorem dX12_lengthOf_2 : decode cX12_lengthOf 2 = .ok (.lload_n 0, 1) := by decide +kernel
theorem dX12_lengthOf_3 : decode cX12_lengthOf 3 = .ok (.lstore_n 3, 1) := by decide +kernel
theorem dX12_lengthOf_4 : decode cX12_lengthOf 4 = .ok (.lload_n 3, 1) := by decide +kernel
theorem dX12_lengthOf_5 : decode cX12_lengthOf 5 = .ok (.lconst 0, 1) := by decide +kernel
theorem dX12_lengthOf_6 : decode cX12_lengthOf 6 = .ok (.lcmp, 1) := by decide +kernel
theorem dX12_lengthOf_7 : decode cX12_lengthOf 7 = .ok (.ifCond .eq 13, 3) := by decide +kernel
theorem dX12_lengthOf_10 : decode cX12_lengthOf 10 = .ok (.lload_n 3, 1) := by decide +kernel
theorem dX12_lengthOf_11 : decode cX12_lengthOf 11 = .ok (.iconst 1, 1) := by decide +kernel
theorem dX12_lengthOf_12 : decode cX12_lengthOf 12 = .ok (.lushr, 1) := by decide +kernel
theorem dX12_lengthOf_13 : decode cX12_lengthOf 13 = .ok (.lstore_n 3, 1) := by decide +kernel
theorem dX12_lengthOf_14 : decode cX12_lengthOf 14 = .ok (.iinc 2 1, 3) := by decide +kernel
theorem dX12_lengthOf_17 : decode cX12_lengthOf 17 = .ok (.goto (-13), 3) := by decide +kernel
theorem dX12_lengthOf_20 : decode cX12_lengthOf 20 = .ok (.iload_n 2, 1) := by decide +kernel
theorem dX12_lengthOf_21 : decode cX12_lengthOf 21 = .ok (.ireturn, 1) := by decide +kernel
abbrev R_X12_lengthOf : Room := ({ frames := 0, cells := 0, slots := 0, locals := 0 } : Room)
def h_X12_lengthOf_4 (n : Nat) (rec : (Int32 → Int64 → Option (Int32))) (v2 : Int32) (v3 : Int64) : Option (Int32) :=
  if v3 = (0 : Int64) then (some v2) else (rec (v2 + (1 : Int32)) ((v3.toUInt64 >>> ((1 : Int32).toInt64.toUInt64 &&& Int64.toUInt64 63)).toInt64))
def L_X12_lengthOf (n : Nat) : Nat → (Int32 → Int64 → Option (Int32))
  | 0 => ((fun _ _ => none))
  | k + 1 => (h_X12_lengthOf_4 n (L_X12_lengthOf n k))
def f_X12_lengthOf (n : Nat) (x0 : Int64) : Option (Int32) :=
  (L_X12_lengthOf n n) (0 : Int32) x0
def S_X12_lengthOf_4 (l : Launch) (D : Dx) (fn : Int32 → Int64 → Option (Int32)) : Prop :=
  ∀ {p : Program} {e : Env} {s : State} {m : MethodId} {args : Array Value} {below : List Frame} {meth : Method} {c : Code} {H : Heap} {locs : List Loc} {A : Nat → Prop} {ls : Array Slot} {v2 : Int32} {v3 : Int64} {q : Int32}, Cx p s m args meth c cX12_lengthOf (some .int) 5 RX12 lw_all → Hx D ([]) A s H locs ([]) → lv_has ls 5 [(2, .int v2), (3, .long v3)] → fn v2 v3 = some q → W p l e R_X12_lengthOf s m args below meth c H locs 0 0 (MQ below (QI D A ([]) q) args s 0 0 A) (F0 m 4 ls [])
def SH_X12_lengthOf (l : Launch) (D : Dx) (rec : (Int32 → Int64 → Option (Int32))) : Prop := S_X12_lengthOf_4 l D rec
set_option maxHeartbeats 4000000 in
set_option maxRecDepth 100000 in
theorem k_X12_lengthOf_4 (l : Launch) (D : Dx) (n : Nat) (rec : (Int32 → Int64 → Option (Int32))) (IH : SH_X12_lengthOf l D rec) : S_X12_lengthOf_4 l D (h_X12_lengthOf_4 n rec) := by
  intro p e s m args below meth c H locs A ls v2 v3 q C X hl hF
  obtain ⟨hx, hb, hr, hml, hown, hts, hlk⟩ := id C
  unfold h_X12_lengthOf_4 at hF
  refine lv_lload_n hx hb dX12_lengthOf_4 rfl (lv_at hl 1 rfl) ?_
  refine lv_lconst (v := (0 : Int64)) hx hb dX12_lengthOf_5 (by decide) ?_
  refine W.lcmp hx hb dX12_lengthOf_6 ?_
  refine lv_if_eq (tgt := 20) hx hb dX12_lengthOf_7 (by decide) (fun c => ?_) (fun c => ?_)
  · have c := (lg_cmp_eq _ _).mp c
    replace hF := iT c hF
    refine lv_iload_n hx hb dX12_lengthOf_20 rfl (lv_at hl 0 rfl) ?_
    have hq := Option.some.inj hF
    subst hq
    exact rt_i C X dX12_lengthOf_21
  · have c := fun h => c ((lg_cmp_eq _ _).mpr h)
    replace hF := iF c hF
    refine lv_lload_n hx hb dX12_lengthOf_10 rfl (lv_at hl 1 rfl) ?_
    refine lv_iconst (v := (1 : Int32)) hx hb dX12_lengthOf_11 (by decide) ?_
    refine lv_lushr hx hb dX12_lengthOf_12 rfl ?_
    refine lv_lstore_n (lv' := [(3, .long ((v3.toUInt64 >>> ((1 : Int32).toInt64.toUInt64 &&& Int64.toUInt64 63)).toInt64)), (2, .int v2)]) hx hb dX12_lengthOf_13 rfl hl (by decide) rfl (fun ls hl => ?_)
    refine lv_iinc (v := v2 + (1 : Int32)) (lv' := [(2, .int (v2 + (1 : Int32))), (3, .long ((v3.toUInt64 >>> ((1 : Int32).toInt64.toUInt64 &&& Int64.toUInt64 63)).toInt64))]) hx hb dX12_lengthOf_14 hl (k := 1) rfl rfl (by decide) rfl (fun ls hl => ?_)
    refine lv_goto (tgt := 4) hx hb dX12_lengthOf_17 (by decide) ?_
    exact IH C X (lv_sub hl [0, 1] rfl) hF
theorem kL_X12_lengthOf (l : Launch) (D : Dx) (n : Nat) : ∀ k, SH_X12_lengthOf l D (L_X12_lengthOf n k)
  | 0 => fun _ _ _ h => by cases h
  | k + 1 => k_X12_lengthOf_4 l D n _ (kL_X12_lengthOf l D n k)
set_option maxHeartbeats 4000000 in
set_option maxRecDepth 100000 in
theorem c_X12_lengthOf (l : Launch) (D : Dx) (n : Nat) (x0 : Int64) (q : Int32) (hF : f_X12_lengthOf n x0 = some q) (sz : Nat) : Met l yX12_lengthOf (ws_ yX12_lengthOf cX12_lengthOf 5 (some .int)) R_X12_lengthOf (PC D ([]) [.long x0] ([]) sz) (QI D (va_A ([]) sz) ([]) q) 0 0 (va_A ([]) sz) := by
  refine Met.ofW (cc := cX12_lengthOf) (maxL := 5) (ret := (some .int)) (by decide) rfl ?_
  intro p e s m args below meth c s₁ B hml hv
  obtain ⟨rfl, hsz, hP, hK, hD, hN⟩ := hv
  subst hsz
  have C : Cx p s m _ meth c cX12_lengthOf (some .int) 5 RX12 lw_all := Cx_of B hml
  have X := Hx_start hP hK hD hN
  obtain ⟨hx, hb, hr, -, hown, hts, hlk⟩ := id C
  generalize va_A ([]) s.heap.size = A at X ⊢
  have hl := lv_entry ([.long x0]) (n := 5) (Nat.le_of_ble_eq_true rfl)
  rw [lg_entry_eq]
  generalize (lg_sl ([.long x0]) ++ List.replicate (5 - (lg_sl ([.long x0])).length) Slot.unset).toArray = ls at hl ⊢
  have hl : lv_has ls 5 [(0, .long x0)] := hl
  unfold f_X12_lengthOf at hF
  refine lv_iconst (v := (0 : Int32)) hx hb dX12_lengthOf_0 (by decide) ?_
  refine lv_istore_n (lv' := [(2, .int (0 : Int32)), (0, .long x0)]) hx hb dX12_lengthOf_1 rfl hl (by decide) rfl (fun ls hl => ?_)
  refine lv_lload_n hx hb dX12_lengthOf_2 rfl (lv_at hl 1 rfl) ?_
  refine lv_lstore_n (lv' := [(3, .long x0), (2, .int (0 : Int32)), (0, .long x0)]) hx hb dX12_lengthOf_3 rfl hl (by decide) rfl (fun ls hl => ?_)
  exact (kL_X12_lengthOf l D n n) C X (lv_sub hl [1, 0] rfl) hF

/-! ### X12_made -/
theorem dX12_made_0 : decode cX12_made 0 = .ok (.iload 4, 2) := by decide +kernel
theorem dX12_made_2 : decode cX12_made 2 = .ok (.bipush 6, 2) := by decide +kernel
theorem dX12_made_4 : decode cX12_made 4 = .ok (.if_icmp .ne 8, 3) := by decide +kernel
theorem dX12_made_7 : decode cX12_made 7 = .ok (.bipush 24, 2) := by decide +kernel
theorem dX12_made_9 : decode cX12_made 9 = .ok (.goto 5, 3) := by decide +kernel
theorem dX12_made_12 : decode cX12_made 12 = .ok (.bipush 53, 2) := by decide +kernel
theorem dX12_made_14 : decode cX12_made 14 = .ok (.istore 5, 2) := by decide +kernel
theorem dX12_made_16 : decode cX12_made 16 = .ok (.iload 4, 2) := by decide +kernel
theorem dX12_made_18 : decode cX12_made 18 = .ok (.bipush 6, 2) := by decide +kernel
theorem dX12_made_20 : decode cX12_made 20 = .ok (.if_icmp .ne 9, 3) := by decide +kernel
theorem dX12_made_23 : decode cX12_made 23 = .ok (.sipush (-149), 3) := by decide +kernel
theorem dX12_made_26 : decode cX12_made 26 = .ok (.goto 6, 3) := by decide +kernel
theorem dX12_made_29 : decode cX12_made 29 = .ok (.sipush (-1074), 3) := by decide +kernel
theorem dX12_made_32 : decode cX12_made 32 = .ok (.istore 6, 2) := by decide +kernel
theorem dX12_made_34 : decode cX12_made 34 = .ok (.lload_n 1, 1) := by decide +kernel
theorem dX12_made_35 : decode cX12_made 35 = .ok (.lstore 7, 2) := by decide +kernel
theorem dX12_made_37 : decode cX12_made 37 = .ok (.iload_n 3, 1) := by decide +kernel
theorem dX12_made_38 : decode cX12_made 38 = .ok (.istore 9, 2) := by decide +kernel
theorem dX12_made_40 : decode cX12_made 40 = .ok (.lload 7, 2) := by decide +kernel
theorem dX12_made_42 : decode cX12_made 42 = .ok (.invokestatic 420, 3) := by decide +kernel
theorem dX12_made_45 : decode cX12_made 45 = .ok (.iload 5, 2) := by decide +kernel
theorem dX12_made_47 : decode cX12_made 47 = .ok (.isub, 1) := by decide +kernel
theorem dX12_made_48 : decode cX12_made 48 = .ok (.istore 10, 2) := by decide +kernel
theorem dX12_made_50 : decode cX12_made 50 = .ok (.iload 9, 2) := by decide +kernel
theorem dX12_made_52 : decode cX12_made 52 = .ok (.iload 10, 2) := by decide +kernel
theorem dX12_made_54 : decode cX12_made 54 = .ok (.iadd, 1) := by decide +kernel
theorem dX12_made_55 : decode cX12_made 55 = .ok (.iload 6, 2) := by decide +kernel
theorem dX12_made_57 : decode cX12_made 57 = .ok (.if_icmp .ge 10, 3) := by decide +kernel
theorem dX12_made_60 : decode cX12_made 60 = .ok (.iload 6, 2) := by decide +kernel
theorem dX12_made_62 : decode cX12_made 62 = .ok (.iload 9, 2) := by decide +kernel
theorem dX12_made_64 : decode cX12_made 64 = .ok (.isub, 1) := by decide +kernel
theorem dX12_made_65 : decode cX12_made 65 = .ok (.istore 10, 2) := by decide +kernel
theorem dX12_made_67 : decode cX12_made 67 = .ok (.iload 10, 2) := by decide +kernel
theorem dX12_made_69 : decode cX12_made 69 = .ok (.bipush 63, 2) := by decide +kernel
theorem dX12_made_71 : decode cX12_made 71 = .ok (.if_icmp .le 13, 3) := by decide +kernel
theorem dX12_made_74 : decode cX12_made 74 = .ok (.lconst 0, 1) := by decide +kernel
theorem dX12_made_75 : decode cX12_made 75 = .ok (.lstore 7, 2) := by decide +kernel
theorem dX12_made_77 : decode cX12_made 77 = .ok (.iload 6, 2) := by decide +kernel
theorem dX12_made_79 : decode cX12_made 79 = .ok (.istore 9, 2) := by decide +kernel
theorem dX12_made_81 : decode cX12_made 81 = .ok (.goto 97, 3) := by decide +kernel
theorem dX12_made_84 : decode cX12_made 84 = .ok (.iload 10, 2) := by decide +kernel
theorem dX12_made_86 : decode cX12_made 86 = .ok (.ifCond .le 70, 3) := by decide +kernel
theorem dX12_made_89 : decode cX12_made 89 = .ok (.lload 7, 2) := by decide +kernel
theorem dX12_made_91 : decode cX12_made 91 = .ok (.lconst 1, 1) := by decide +kernel
theorem dX12_made_92 : decode cX12_made 92 = .ok (.iload 10, 2) := by decide +kernel
theorem dX12_made_94 : decode cX12_made 94 = .ok (.lshl, 1) := by decide +kernel
theorem dX12_made_95 : decode cX12_made 95 = .ok (.lconst 1, 1) := by decide +kernel
theorem dX12_made_96 : decode cX12_made 96 = .ok (.lsub, 1) := by decide +kernel
theorem dX12_made_97 : decode cX12_made 97 = .ok (.land, 1) := by decide +kernel
theorem dX12_made_98 : decode cX12_made 98 = .ok (.lstore 11, 2) := by decide +kernel
theorem dX12_made_100 : decode cX12_made 100 = .ok (.lconst 1, 1) := by decide +kernel
theorem dX12_made_101 : decode cX12_made 101 = .ok (.iload 10, 2) := by decide +kernel
theorem dX12_made_103 : decode cX12_made 103 = .ok (.iconst 1, 1) := by decide +kernel
theorem dX12_made_104 : decode cX12_made 104 = .ok (.isub, 1) := by decide +kernel
theorem dX12_made_105 : decode cX12_made 105 = .ok (.lshl, 1) := by decide +kernel
theorem dX12_made_106 : decode cX12_made 106 = .ok (.lstore 13, 2) := by decide +kernel
theorem dX12_made_108 : decode cX12_made 108 = .ok (.lload 7, 2) := by decide +kernel
theorem dX12_made_110 : decode cX12_made 110 = .ok (.iload 10, 2) := by decide +kernel
theorem dX12_made_112 : decode cX12_made 112 = .ok (.lushr, 1) := by decide +kernel
theorem dX12_made_113 : decode cX12_made 113 = .ok (.lstore 7, 2) := by decide +kernel
theorem dX12_made_115 : decode cX12_made 115 = .ok (.iload 9, 2) := by decide +kernel
theorem dX12_made_117 : decode cX12_made 117 = .ok (.iload 10, 2) := by decide +kernel
theorem dX12_made_119 : decode cX12_made 119 = .ok (.iadd, 1) := by decide +kernel
theorem dX12_made_120 : decode cX12_made 120 = .ok (.istore 9, 2) := by decide +kernel
theorem dX12_made_122 : decode cX12_made 122 = .ok (.lload 11, 2) := by decide +kernel
theorem dX12_made_124 : decode cX12_made 124 = .ok (.lload 13, 2) := by decide +kernel
theorem dX12_made_126 : decode cX12_made 126 = .ok (.lcmp, 1) := by decide +kernel
theorem dX12_made_127 : decode cX12_made 127 = .ok (.ifCond .gt 20, 3) := by decide +kernel
theorem dX12_made_130 : decode cX12_made 130 = .ok (.lload 11, 2) := by decide +kernel
theorem dX12_made_132 : decode cX12_made 132 = .ok (.lload 13, 2) := by decide +kernel
theorem dX12_made_134 : decode cX12_made 134 = .ok (.lcmp, 1) := by decide +kernel
theorem dX12_made_135 : decode cX12_made 135 = .ok (.ifCond .ne 18, 3) := by decide +kernel
theorem dX12_made_138 : decode cX12_made 138 = .ok (.lload 7, 2) := by decide +kernel
theorem dX12_made_140 : decode cX12_made 140 = .ok (.lconst 1, 1) := by decide +kernel
theorem dX12_made_141 : decode cX12_made 141 = .ok (.land, 1) := by decide +kernel
theorem dX12_made_142 : decode cX12_made 142 = .ok (.lconst 1, 1) := by decide +kernel
theorem dX12_made_143 : decode cX12_made 143 = .ok (.lcmp, 1) := by decide +kernel
theorem dX12_made_144 : decode cX12_made 144 = .ok (.ifCond .ne 9, 3) := by decide +kernel
theorem dX12_made_147 : decode cX12_made 147 = .ok (.lload 7, 2) := by decide +kernel
theorem dX12_made_149 : decode cX12_made 149 = .ok (.lconst 1, 1) := by decide +kernel
theorem dX12_made_150 : decode cX12_made 150 = .ok (.ladd, 1) := by decide +kernel
theorem dX12_made_151 : decode cX12_made 151 = .ok (.lstore 7, 2) := by decide +kernel
theorem dX12_made_153 : decode cX12_made 153 = .ok (.goto 25, 3) := by decide +kernel
theorem dX12_made_156 : decode cX12_made 156 = .ok (.lload 7, 2) := by decide +kernel
theorem dX12_made_158 : decode cX12_made 158 = .ok (.lconst 0, 1) := by decide +kernel
theorem dX12_made_159 : decode cX12_made 159 = .ok (.lcmp, 1) := by decide +kernel
theorem dX12_made_160 : decode cX12_made 160 = .ok (.ifCond .eq 18, 3) := by decide +kernel
theorem dX12_made_163 : decode cX12_made 163 = .ok (.lload 7, 2) := by decide +kernel
theorem dX12_made_165 : decode cX12_made 165 = .ok (.iload 10, 2) := by decide +kernel
theorem dX12_made_167 : decode cX12_made 167 = .ok (.ineg, 1) := by decide +kernel
theorem dX12_made_168 : decode cX12_made 168 = .ok (.lshl, 1) := by decide +kernel
theorem dX12_made_169 : decode cX12_made 169 = .ok (.lstore 7, 2) := by decide +kernel
theorem dX12_made_171 : decode cX12_made 171 = .ok (.iload 9, 2) := by decide +kernel
theorem dX12_made_173 : decode cX12_made 173 = .ok (.iload 10, 2) := by decide +kernel
theorem dX12_made_175 : decode cX12_made 175 = .ok (.iadd, 1) := by decide +kernel
theorem dX12_made_176 : decode cX12_made 176 = .ok (.istore 9, 2) := by decide +kernel
theorem dX12_made_178 : decode cX12_made 178 = .ok (.lload 7, 2) := by decide +kernel
theorem dX12_made_180 : decode cX12_made 180 = .ok (.lconst 1, 1) := by decide +kernel
theorem dX12_made_181 : decode cX12_made 181 = .ok (.iload 5, 2) := by decide +kernel
theorem dX12_made_183 : decode cX12_made 183 = .ok (.lshl, 1) := by decide +kernel
theorem dX12_made_184 : decode cX12_made 184 = .ok (.lcmp, 1) := by decide +kernel
theorem dX12_made_185 : decode cX12_made 185 = .ok (.ifCond .ne 12, 3) := by decide +kernel
theorem dX12_made_188 : decode cX12_made 188 = .ok (.lload 7, 2) := by decide +kernel
theorem dX12_made_190 : decode cX12_made 190 = .ok (.iconst 1, 1) := by decide +kernel
theorem dX12_made_191 : decode cX12_made 191 = .ok (.lshr, 1) := by decide +kernel
theorem dX12_made_192 : decode cX12_made 192 = .ok (.lstore 7, 2) := by decide +kernel
theorem dX12_made_194 : decode cX12_made 194 = .ok (.iinc 9 1, 3) := by decide +kernel
theorem dX12_made_197 : decode cX12_made 197 = .ok (.lload 7, 2) := by decide +kernel
theorem dX12_made_199 : decode cX12_made 199 = .ok (.lstore 11, 2) := by decide +kernel
theorem dX12_made_201 : decode cX12_made 201 = .ok (.lload 7, 2) := by decide +kernel
theorem dX12_made_203 : decode cX12_made 203 = .ok (.lconst 1, 1) := by decide +kernel
theorem dX12_made_204 : decode cX12_made 204 = .ok (.iload 5, 2) := by decide +kernel
theorem dX12_made_206 : decode cX12_made 206 = .ok (.iconst 1, 1) := by decide +kernel
theorem dX12_made_207 : decode cX12_made 207 = .ok (.isub, 1) := by decide +kernel
theorem dX12_made_208 : decode cX12_made 208 = .ok (.lshl, 1) := by decide +kernel
theorem dX12_made_209 : decode cX12_made 209 = .ok (.lcmp, 1) := by decide +kernel
theorem dX12_made_210 : decode cX12_made 210 = .ok (.ifCond .lt 59, 3) := by decide +kernel
theorem dX12_made_213 : decode cX12_made 213 = .ok (.iload 9, 2) := by decide +kernel
theorem dX12_made_215 : decode cX12_made 215 = .ok (.iload 6, 2) := by decide +kernel
theorem dX12_made_217 : decode cX12_made 217 = .ok (.isub, 1) := by decide +kernel
theorem dX12_made_218 : decode cX12_made 218 = .ok (.iconst 1, 1) := by decide +kernel
theorem dX12_made_219 : decode cX12_made 219 = .ok (.iadd, 1) := by decide +kernel
theorem dX12_made_220 : decode cX12_made 220 = .ok (.istore 13, 2) := by decide +kernel
theorem dX12_made_222 : decode cX12_made 222 = .ok (.iload 13, 2) := by decide +kernel
theorem dX12_made_224 : decode cX12_made 224 = .ok (.iload 4, 2) := by decide +kernel
theorem dX12_made_226 : decode cX12_made 226 = .ok (.bipush 6, 2) := by decide +kernel
theorem dX12_made_228 : decode cX12_made 228 = .ok (.if_icmp .ne 9, 3) := by decide +kernel
theorem dX12_made_231 : decode cX12_made 231 = .ok (.sipush 255, 3) := by decide +kernel
theorem dX12_made_234 : decode cX12_made 234 = .ok (.goto 6, 3) := by decide +kernel
theorem dX12_made_237 : decode cX12_made 237 = .ok (.sipush 2047, 3) := by decide +kernel
theorem dX12_made_240 : decode cX12_made 240 = .ok (.if_icmp .lt 7, 3) := by decide +kernel
theorem dX12_made_243 : decode cX12_made 243 = .ok (.ldc2_w 424, 3) := by decide +kernel
theorem dX12_made_246 : decode cX12_made 246 = .ok (.lreturn, 1) := by decide +kernel
theorem dX12_made_247 : decode cX12_made 247 = .ok (.iload 13, 2) := by decide +kernel
theorem dX12_made_249 : decode cX12_made 249 = .ok (.i2l, 1) := by decide +kernel
theorem dX12_made_250 : decode cX12_made 250 = .ok (.iload 5, 2) := by decide +kernel
theorem dX12_made_252 : decode cX12_made 252 = .ok (.iconst 1, 1) := by decide +kernel
theorem dX12_made_253 : decode cX12_made 253 = .ok (.isub, 1) := by decide +kernel
theorem dX12_made_254 : decode cX12_made 254 = .ok (.lshl, 1) := by decide +kernel
theorem dX12_made_255 : decode cX12_made 255 = .ok (.lload 7, 2) := by decide +kernel
theorem dX12_made_257 : decode cX12_made 257 = .ok (.lconst 1, 1) := by decide +kernel
theorem dX12_made_258 : decode cX12_made 258 = .ok (.iload 5, 2) := by decide +kernel
theorem dX12_made_260 : decode cX12_made 260 = .ok (.iconst 1, 1) := by decide +kernel
theorem dX12_made_261 : decode cX12_made 261 = .ok (.isub, 1) := by decide +kernel
theorem dX12_made_262 : decode cX12_made 262 = .ok (.lshl, 1) := by decide +kernel
theorem dX12_made_263 : decode cX12_made 263 = .ok (.lconst 1, 1) := by decide +kernel
theorem dX12_made_264 : decode cX12_made 264 = .ok (.lsub, 1) := by decide +kernel
theorem dX12_made_265 : decode cX12_made 265 = .ok (.land, 1) := by decide +kernel
theorem dX12_made_266 : decode cX12_made 266 = .ok (.lor, 1) := by decide +kernel
theorem dX12_made_267 : decode cX12_made 267 = .ok (.lstore 11, 2) := by decide +kernel
theorem dX12_made_269 : decode cX12_made 269 = .ok (.iload 4, 2) := by decide +kernel
theorem dX12_made_271 : decode cX12_made 271 = .ok (.bipush 6, 2) := by decide +kernel
theorem dX12_made_273 : decode cX12_made 273 = .ok (.if_icmp .ne 20, 3) := by decide +kernel
theorem dX12_made_276 : decode cX12_made 276 = .ok (.lload 11, 2) := by decide +kernel
theorem dX12_made_278 : decode cX12_made 278 = .ok (.iload_n 0, 1) := by decide +kernel
theorem dX12_made_279 : decode cX12_made 279 = .ok (.ifCond .eq 9, 3) := by decide +kernel
theorem dX12_made_282 : decode cX12_made 282 = .ok (.ldc2_w 426, 3) := by decide +kernel
theorem dX12_made_285 : decode cX12_made 285 = .ok (.goto 4, 3) := by decide +kernel
theorem dX12_made_288 : decode cX12_made 288 = .ok (.lconst 0, 1) := by decide +kernel
theorem dX12_made_289 : decode cX12_made 289 = .ok (.lor, 1) := by decide +kernel
theorem dX12_made_290 : decode cX12_made 290 = .ok (.l2i, 1) := by decide +kernel
theorem dX12_made_291 : decode cX12_made 291 = .ok (.i2l, 1) := by decide +kernel
theorem dX12_made_292 : decode cX12_made 292 = .ok (.lreturn, 1) := by decide +kernel
theorem dX12_made_293 : decode cX12_made 293 = .ok (.lload 11, 2) := by decide +kernel
theorem dX12_made_295 : decode cX12_made 295 = .ok (.iload_n 0, 1) := by decide +kernel
theorem dX12_made_296 : decode cX12_made 296 = .ok (.ifCond .eq 9, 3) := by decide +kernel
theorem dX12_made_299 : decode cX12_made 299 = .ok (.ldc2_w 428, 3) := by decide +kernel
theorem dX12_made_302 : decode cX12_made 302 = .ok (.goto 4, 3) := by decide +kernel
theorem dX12_made_305 : decode cX12_made 305 = .ok (.lconst 0, 1) := by decide +kernel
theorem dX12_made_306 : decode cX12_made 306 = .ok (.lor, 1) := by decide +kernel
theorem dX12_made_307 : decode cX12_made 307 = .ok (.lreturn, 1) := by decide +kernel
abbrev R_X12_made : Room := ({ frames := 1, cells := 0, slots := 0, locals := 24 } : Room)
def b_X12_made_269 (n : Nat) (v0 : Int32) (v4 : Int32) (v11 : Int64) : Option (Int64) :=
  if v4 = (6 : Int32) then (if v0 = 0 then (some (((v11 ||| (0 : Int64)).toInt32).toInt64)) else (some (((v11 ||| (2147483648 : Int64)).toInt32).toInt64))) else (if v0 = 0 then (some (v11 ||| (0 : Int64))) else (some (v11 ||| (-9223372036854775808 : Int64))))
def b_X12_made_240 (n : Nat) (v0 : Int32) (v4 : Int32) (v5 : Int32) (v7 : Int64) (v13 : Int32) (s0 : Int32) (s1 : Int32) : Option (Int64) :=
  if s1 < s0 then (b_X12_made_269 n v0 v4 ((v13.toInt64 <<< ((v5 - (1 : Int32)).toInt64 &&& 63)) ||| (v7 &&& (((1 : Int64) <<< ((v5 - (1 : Int32)).toInt64 &&& 63)) - (1 : Int64))))) else (some (9223372036854775807 : Int64))
def b_X12_made_197 (n : Nat) (v0 : Int32) (v4 : Int32) (v5 : Int32) (v6 : Int32) (v7 : Int64) (v9 : Int32) : Option (Int64) :=
  if v7 < ((1 : Int64) <<< ((v5 - (1 : Int32)).toInt64 &&& 63)) then (b_X12_made_269 n v0 v4 v7) else (if v4 = (6 : Int32) then (b_X12_made_240 n v0 v4 v5 v7 ((v9 - v6) + (1 : Int32)) (255 : Int32) ((v9 - v6) + (1 : Int32))) else (b_X12_made_240 n v0 v4 v5 v7 ((v9 - v6) + (1 : Int32)) (2047 : Int32) ((v9 - v6) + (1 : Int32))))
def b_X12_made_178 (n : Nat) (v0 : Int32) (v4 : Int32) (v5 : Int32) (v6 : Int32) (v7 : Int64) (v9 : Int32) : Option (Int64) :=
  if v7 = ((1 : Int64) <<< (v5.toInt64 &&& 63)) then (b_X12_made_197 n v0 v4 v5 v6 (v7 >>> ((1 : Int32).toInt64 &&& 63)) (v9 + (1 : Int32))) else (b_X12_made_197 n v0 v4 v5 v6 v7 v9)
def b_X12_made_153 (n : Nat) (v0 : Int32) (v4 : Int32) (v5 : Int32) (v6 : Int32) (v7 : Int64) (v9 : Int32) : Option (Int64) :=
  b_X12_made_178 n v0 v4 v5 v6 v7 v9
def b_X12_made_147 (n : Nat) (v0 : Int32) (v4 : Int32) (v5 : Int32) (v6 : Int32) (v7 : Int64) (v9 : Int32) : Option (Int64) :=
  b_X12_made_153 n v0 v4 v5 v6 (v7 + (1 : Int64)) v9
def b_X12_made_67 (n : Nat) (v0 : Int32) (v4 : Int32) (v5 : Int32) (v6 : Int32) (v7 : Int64) (v9 : Int32) (v10 : Int32) : Option (Int64) :=
  if v10 ≤ (63 : Int32) then (if v10 ≤ 0 then (if v7 = (0 : Int64) then (b_X12_made_178 n v0 v4 v5 v6 v7 v9) else (b_X12_made_178 n v0 v4 v5 v6 (v7 <<< ((-v10).toInt64 &&& 63)) (v9 + v10))) else (if ((1 : Int64) <<< ((v10 - (1 : Int32)).toInt64 &&& 63)) < (v7 &&& (((1 : Int64) <<< (v10.toInt64 &&& 63)) - (1 : Int64))) then (b_X12_made_147 n v0 v4 v5 v6 ((v7.toUInt64 >>> (v10.toInt64.toUInt64 &&& Int64.toUInt64 63)).toInt64) (v9 + v10)) else (if (v7 &&& (((1 : Int64) <<< (v10.toInt64 &&& 63)) - (1 : Int64))) = ((1 : Int64) <<< ((v10 - (1 : Int32)).toInt64 &&& 63)) then (if (((v7.toUInt64 >>> (v10.toInt64.toUInt64 &&& Int64.toUInt64 63)).toInt64) &&& (1 : Int64)) = (1 : Int64) then (b_X12_made_147 n v0 v4 v5 v6 ((v7.toUInt64 >>> (v10.toInt64.toUInt64 &&& Int64.toUInt64 63)).toInt64) (v9 + v10)) else (b_X12_made_153 n v0 v4 v5 v6 ((v7.toUInt64 >>> (v10.toInt64.toUInt64 &&& Int64.toUInt64 63)).toInt64) (v9 + v10))) else (b_X12_made_153 n v0 v4 v5 v6 ((v7.toUInt64 >>> (v10.toInt64.toUInt64 &&& Int64.toUInt64 63)).toInt64) (v9 + v10))))) else (b_X12_made_178 n v0 v4 v5 v6 (0 : Int64) v6)
def b_X12_made_32 (n : Nat) (v0 : Int32) (v1 : Int64) (v3 : Int32) (v4 : Int32) (v5 : Int32) (s0 : Int32) : Option (Int64) :=
  bnd (f_X12_lengthOf n v1) (fun q_1 => if s0 ≤ (v3 + (q_1 - v5)) then (b_X12_made_67 n v0 v4 v5 s0 v1 v3 (q_1 - v5)) else (b_X12_made_67 n v0 v4 v5 s0 v1 v3 (s0 - v3)))
def b_X12_made_14 (n : Nat) (v0 : Int32) (v1 : Int64) (v3 : Int32) (v4 : Int32) (s0 : Int32) : Option (Int64) :=
  if v4 = (6 : Int32) then (b_X12_made_32 n v0 v1 v3 v4 s0 (-149 : Int32)) else (b_X12_made_32 n v0 v1 v3 v4 s0 (-1074 : Int32))
def f_X12_made (n : Nat) (x0 : Int32) (x1 : Int64) (x2 : Int32) (x3 : Int32) : Option (Int64) :=
  if x3 = (6 : Int32) then (b_X12_made_14 n x0 x1 x2 x3 (24 : Int32)) else (b_X12_made_14 n x0 x1 x2 x3 (53 : Int32))
def S_X12_made_269 (l : Launch) (D : Dx) (fn : Int32 → Int32 → Int64 → Option (Int64)) : Prop :=
  ∀ {p : Program} {e : Env} {s : State} {m : MethodId} {args : Array Value} {below : List Frame} {meth : Method} {c : Code} {H : Heap} {locs : List Loc} {A : Nat → Prop} {ls : Array Slot} {v0 : Int32} {v4 : Int32} {v11 : Int64} {q : Int64}, Cx p s m args meth c cX12_made (some .long) 15 RX12 lw_all → Hx D ([]) A s H locs ([]) → lv_has ls 15 [(0, .int v0), (4, .int v4), (11, .long v11)] → fn v0 v4 v11 = some q → W p l e R_X12_made s m args below meth c H locs 0 0 (MQ below (QL D A ([]) q) args s 0 0 A) (F0 m 269 ls [])
def S_X12_made_240 (l : Launch) (D : Dx) (fn : Int32 → Int32 → Int32 → Int64 → Int32 → Int32 → Int32 → Option (Int64)) : Prop :=
  ∀ {p : Program} {e : Env} {s : State} {m : MethodId} {args : Array Value} {below : List Frame} {meth : Method} {c : Code} {H : Heap} {locs : List Loc} {A : Nat → Prop} {ls : Array Slot} {v0 : Int32} {v4 : Int32} {v5 : Int32} {v7 : Int64} {v13 : Int32} {s0 : Int32} {s1 : Int32} {q : Int64}, Cx p s m args meth c cX12_made (some .long) 15 RX12 lw_all → Hx D ([]) A s H locs ([]) → lv_has ls 15 [(0, .int v0), (4, .int v4), (5, .int v5), (7, .long v7), (13, .int v13)] → fn v0 v4 v5 v7 v13 s0 s1 = some q → W p l e R_X12_made s m args below meth c H locs 0 0 (MQ below (QL D A ([]) q) args s 0 0 A) (F0 m 240 ls [.int s0, .int s1])
def S_X12_made_197 (l : Launch) (D : Dx) (fn : Int32 → Int32 → Int32 → Int32 → Int64 → Int32 → Option (Int64)) : Prop :=
  ∀ {p : Program} {e : Env} {s : State} {m : MethodId} {args : Array Value} {below : List Frame} {meth : Method} {c : Code} {H : Heap} {locs : List Loc} {A : Nat → Prop} {ls : Array Slot} {v0 : Int32} {v4 : Int32} {v5 : Int32} {v6 : Int32} {v7 : Int64} {v9 : Int32} {q : Int64}, Cx p s m args meth c cX12_made (some .long) 15 RX12 lw_all → Hx D ([]) A s H locs ([]) → lv_has ls 15 [(0, .int v0), (4, .int v4), (5, .int v5), (6, .int v6), (7, .long v7), (9, .int v9)] → fn v0 v4 v5 v6 v7 v9 = some q → W p l e R_X12_made s m args below meth c H locs 0 0 (MQ below (QL D A ([]) q) args s 0 0 A) (F0 m 197 ls [])
def S_X12_made_178 (l : Launch) (D : Dx) (fn : Int32 → Int32 → Int32 → Int32 → Int64 → Int32 → Option (Int64)) : Prop :=
  ∀ {p : Program} {e : Env} {s : State} {m : MethodId} {args : Array Value} {below : List Frame} {meth : Method} {c : Code} {H : Heap} {locs : List Loc} {A : Nat → Prop} {ls : Array Slot} {v0 : Int32} {v4 : Int32} {v5 : Int32} {v6 : Int32} {v7 : Int64} {v9 : Int32} {q : Int64}, Cx p s m args meth c cX12_made (some .long) 15 RX12 lw_all → Hx D ([]) A s H locs ([]) → lv_has ls 15 [(0, .int v0), (4, .int v4), (5, .int v5), (6, .int v6), (7, .long v7), (9, .int v9)] → fn v0 v4 v5 v6 v7 v9 = some q → W p l e R_X12_made s m args below meth c H locs 0 0 (MQ below (QL D A ([]) q) args s 0 0 A) (F0 m 178 ls [])
def S_X12_made_153 (l : Launch) (D : Dx) (fn : Int32 → Int32 → Int32 → Int32 → Int64 → Int32 → Option (Int64)) : Prop :=
  ∀ {p : Program} {e : Env} {s : State} {m : MethodId} {args : Array Value} {below : List Frame} {meth : Method} {c : Code} {H : Heap} {locs : List Loc} {A : Nat → Prop} {ls : Array Slot} {v0 : Int32} {v4 : Int32} {v5 : Int32} {v6 : Int32} {v7 : Int64} {v9 : Int32} {q : Int64}, Cx p s m args meth c cX12_made (some .long) 15 RX12 lw_all → Hx D ([]) A s H locs ([]) → lv_has ls 15 [(0, .int v0), (4, .int v4), (5, .int v5), (6, .int v6), (7, .long v7), (9, .int v9)] → fn v0 v4 v5 v6 v7 v9 = some q → W p l e R_X12_made s m args below meth c H locs 0 0 (MQ below (QL D A ([]) q) args s 0 0 A) (F0 m 153 ls [])
def S_X12_made_147 (l : Launch) (D : Dx) (fn : Int32 → Int32 → Int32 → Int32 → Int64 → Int32 → Option (Int64)) : Prop :=
  ∀ {p : Program} {e : Env} {s : State} {m : MethodId} {args : Array Value} {below : List Frame} {meth : Method} {c : Code} {H : Heap} {locs : List Loc} {A : Nat → Prop} {ls : Array Slot} {v0 : Int32} {v4 : Int32} {v5 : Int32} {v6 : Int32} {v7 : Int64} {v9 : Int32} {q : Int64}, Cx p s m args meth c cX12_made (some .long) 15 RX12 lw_all → Hx D ([]) A s H locs ([]) → lv_has ls 15 [(0, .int v0), (4, .int v4), (5, .int v5), (6, .int v6), (7, .long v7), (9, .int v9)] → fn v0 v4 v5 v6 v7 v9 = some q → W p l e R_X12_made s m args below meth c H locs 0 0 (MQ below (QL D A ([]) q) args s 0 0 A) (F0 m 147 ls [])
def S_X12_made_67 (l : Launch) (D : Dx) (fn : Int32 → Int32 → Int32 → Int32 → Int64 → Int32 → Int32 → Option (Int64)) : Prop :=
  ∀ {p : Program} {e : Env} {s : State} {m : MethodId} {args : Array Value} {below : List Frame} {meth : Method} {c : Code} {H : Heap} {locs : List Loc} {A : Nat → Prop} {ls : Array Slot} {v0 : Int32} {v4 : Int32} {v5 : Int32} {v6 : Int32} {v7 : Int64} {v9 : Int32} {v10 : Int32} {q : Int64}, Cx p s m args meth c cX12_made (some .long) 15 RX12 lw_all → Hx D ([]) A s H locs ([]) → lv_has ls 15 [(0, .int v0), (4, .int v4), (5, .int v5), (6, .int v6), (7, .long v7), (9, .int v9), (10, .int v10)] → fn v0 v4 v5 v6 v7 v9 v10 = some q → W p l e R_X12_made s m args below meth c H locs 0 0 (MQ below (QL D A ([]) q) args s 0 0 A) (F0 m 67 ls [])
def S_X12_made_32 (l : Launch) (D : Dx) (fn : Int32 → Int64 → Int32 → Int32 → Int32 → Int32 → Option (Int64)) : Prop :=
  ∀ {p : Program} {e : Env} {s : State} {m : MethodId} {args : Array Value} {below : List Frame} {meth : Method} {c : Code} {H : Heap} {locs : List Loc} {A : Nat → Prop} {ls : Array Slot} {v0 : Int32} {v1 : Int64} {v3 : Int32} {v4 : Int32} {v5 : Int32} {s0 : Int32} {q : Int64}, Cx p s m args meth c cX12_made (some .long) 15 RX12 lw_all → Hx D ([]) A s H locs ([]) → lv_has ls 15 [(0, .int v0), (1, .long v1), (3, .int v3), (4, .int v4), (5, .int v5)] → fn v0 v1 v3 v4 v5 s0 = some q → W p l e R_X12_made s m args below meth c H locs 0 0 (MQ below (QL D A ([]) q) args s 0 0 A) (F0 m 32 ls [.int s0])
def S_X12_made_14 (l : Launch) (D : Dx) (fn : Int32 → Int64 → Int32 → Int32 → Int32 → Option (Int64)) : Prop :=
  ∀ {p : Program} {e : Env} {s : State} {m : MethodId} {args : Array Value} {below : List Frame} {meth : Method} {c : Code} {H : Heap} {locs : List Loc} {A : Nat → Prop} {ls : Array Slot} {v0 : Int32} {v1 : Int64} {v3 : Int32} {v4 : Int32} {s0 : Int32} {q : Int64}, Cx p s m args meth c cX12_made (some .long) 15 RX12 lw_all → Hx D ([]) A s H locs ([]) → lv_has ls 15 [(0, .int v0), (1, .long v1), (3, .int v3), (4, .int v4)] → fn v0 v1 v3 v4 s0 = some q → W p l e R_X12_made s m args below meth c H locs 0 0 (MQ below (QL D A ([]) q) args s 0 0 A) (F0 m 14 ls [.int s0])
set_option maxHeartbeats 4000000 in
set_option maxRecDepth 100000 in
theorem k_X12_made_269 (l : Launch) (D : Dx) (n : Nat) : S_X12_made_269 l D (b_X12_made_269 n) := by
  intro p e s m args below meth c H locs A ls v0 v4 v11 q C X hl hF
  obtain ⟨hx, hb, hr, hml, hown, hts, hlk⟩ := id C
  unfold b_X12_made_269 at hF
  refine lv_iload hx hb dX12_made_269 (lv_at hl 1 rfl) ?_
  refine lv_bipush (v := (6 : Int32)) hx hb dX12_made_271 (by decide) ?_
  refine lv_icmp_ne (tgt := 293) hx hb dX12_made_273 (by decide) (fun c => ?_) (fun c => ?_)
  · replace hF := iF c hF
    refine lv_lload hx hb dX12_made_293 (lv_at hl 2 rfl) ?_
    refine lv_iload_n hx hb dX12_made_295 rfl (lv_at hl 0 rfl) ?_
    refine lv_if_eq (tgt := 305) hx hb dX12_made_296 (by decide) (fun c => ?_) (fun c => ?_)
    · replace hF := iT c hF
      refine lv_lconst (v := (0 : Int64)) hx hb dX12_made_305 (by decide) ?_
      refine lv_lor hx hb dX12_made_306 ?_
      have hq := Option.some.inj hF
      subst hq
      exact rt_l C X dX12_made_307
    · replace hF := iF c hF
      refine lv_ldc2 hx hb hown (hts _ q8_135) dX12_made_299 ?_
      refine lv_goto (tgt := 306) hx hb dX12_made_302 (by decide) ?_
      refine lv_lor hx hb dX12_made_306 ?_
      have hq := Option.some.inj hF
      subst hq
      exact rt_l C X dX12_made_307
  · replace hF := iT c hF
    refine lv_lload hx hb dX12_made_276 (lv_at hl 2 rfl) ?_
    refine lv_iload_n hx hb dX12_made_278 rfl (lv_at hl 0 rfl) ?_
    refine lv_if_eq (tgt := 288) hx hb dX12_made_279 (by decide) (fun c => ?_) (fun c => ?_)
    · replace hF := iT c hF
      refine lv_lconst (v := (0 : Int64)) hx hb dX12_made_288 (by decide) ?_
      refine lv_lor hx hb dX12_made_289 ?_
      refine lv_l2i hx hb dX12_made_290 rfl ?_
      refine lv_i2l hx hb dX12_made_291 rfl ?_
      have hq := Option.some.inj hF
      subst hq
      exact rt_l C X dX12_made_292
    · replace hF := iF c hF
      refine lv_ldc2 hx hb hown (hts _ q8_134) dX12_made_282 ?_
      refine lv_goto (tgt := 289) hx hb dX12_made_285 (by decide) ?_
      refine lv_lor hx hb dX12_made_289 ?_
      refine lv_l2i hx hb dX12_made_290 rfl ?_
      refine lv_i2l hx hb dX12_made_291 rfl ?_
      have hq := Option.some.inj hF
      subst hq
      exact rt_l C X dX12_made_292
set_option maxHeartbeats 4000000 in
set_option maxRecDepth 100000 in
theorem k_X12_made_240 (l : Launch) (D : Dx) (n : Nat) : S_X12_made_240 l D (b_X12_made_240 n) := by
  intro p e s m args below meth c H locs A ls v0 v4 v5 v7 v13 s0 s1 q C X hl hF
  obtain ⟨hx, hb, hr, hml, hown, hts, hlk⟩ := id C
  unfold b_X12_made_240 at hF
  refine lv_icmp_lt (tgt := 247) hx hb dX12_made_240 (by decide) (fun c => ?_) (fun c => ?_)
  · replace hF := iT c hF
    refine lv_iload hx hb dX12_made_247 (lv_at hl 4 rfl) ?_
    refine lv_i2l hx hb dX12_made_249 rfl ?_
    refine lv_iload hx hb dX12_made_250 (lv_at hl 2 rfl) ?_
    refine lv_iconst (v := (1 : Int32)) hx hb dX12_made_252 (by decide) ?_
    refine lv_isub hx hb dX12_made_253 ?_
    refine lv_lshl hx hb dX12_made_254 rfl ?_
    refine lv_lload hx hb dX12_made_255 (lv_at hl 3 rfl) ?_
    refine lv_lconst (v := (1 : Int64)) hx hb dX12_made_257 (by decide) ?_
    refine lv_iload hx hb dX12_made_258 (lv_at hl 2 rfl) ?_
    refine lv_iconst (v := (1 : Int32)) hx hb dX12_made_260 (by decide) ?_
    refine lv_isub hx hb dX12_made_261 ?_
    refine lv_lshl hx hb dX12_made_262 rfl ?_
    refine lv_lconst (v := (1 : Int64)) hx hb dX12_made_263 (by decide) ?_
    refine lv_lsub hx hb dX12_made_264 ?_
    refine lv_land hx hb dX12_made_265 ?_
    refine lv_lor hx hb dX12_made_266 ?_
    refine lv_lstore (lv' := [(11, .long ((v13.toInt64 <<< ((v5 - (1 : Int32)).toInt64 &&& 63)) ||| (v7 &&& (((1 : Int64) <<< ((v5 - (1 : Int32)).toInt64 &&& 63)) - (1 : Int64))))), (0, .int v0), (4, .int v4), (5, .int v5), (7, .long v7), (13, .int v13)]) hx hb dX12_made_267 hl (by decide) rfl (fun ls hl => ?_)
    exact (k_X12_made_269 l D  n) C X (lv_sub hl [1, 2, 0] rfl) hF
  · replace hF := iF c hF
    refine lv_ldc2 hx hb hown (hts _ q8_99) dX12_made_243 ?_
    have hq := Option.some.inj hF
    subst hq
    exact rt_l C X dX12_made_246
set_option maxHeartbeats 4000000 in
set_option maxRecDepth 100000 in
theorem k_X12_made_197 (l : Launch) (D : Dx) (n : Nat) : S_X12_made_197 l D (b_X12_made_197 n) := by
  intro p e s m args below meth c H locs A ls v0 v4 v5 v6 v7 v9 q C X hl hF
  obtain ⟨hx, hb, hr, hml, hown, hts, hlk⟩ := id C
  unfold b_X12_made_197 at hF
  refine lv_lload hx hb dX12_made_197 (lv_at hl 4 rfl) ?_
  refine lv_lstore (lv' := [(11, .long v7), (0, .int v0), (4, .int v4), (5, .int v5), (6, .int v6), (7, .long v7), (9, .int v9)]) hx hb dX12_made_199 hl (by decide) rfl (fun ls hl => ?_)
  refine lv_lload hx hb dX12_made_201 (lv_at hl 5 rfl) ?_
  refine lv_lconst (v := (1 : Int64)) hx hb dX12_made_203 (by decide) ?_
  refine lv_iload hx hb dX12_made_204 (lv_at hl 3 rfl) ?_
  refine lv_iconst (v := (1 : Int32)) hx hb dX12_made_206 (by decide) ?_
  refine lv_isub hx hb dX12_made_207 ?_
  refine lv_lshl hx hb dX12_made_208 rfl ?_
  refine W.lcmp hx hb dX12_made_209 ?_
  refine lv_if_lt (tgt := 269) hx hb dX12_made_210 (by decide) (fun c => ?_) (fun c => ?_)
  · have c := (lg_cmp_lt _ _).mp c
    replace hF := iT c hF
    exact (k_X12_made_269 l D  n) C X (lv_sub hl [1, 2, 0] rfl) hF
  · have c := fun h => c ((lg_cmp_lt _ _).mpr h)
    replace hF := iF c hF
    refine lv_iload hx hb dX12_made_213 (lv_at hl 6 rfl) ?_
    refine lv_iload hx hb dX12_made_215 (lv_at hl 4 rfl) ?_
    refine lv_isub hx hb dX12_made_217 ?_
    refine lv_iconst (v := (1 : Int32)) hx hb dX12_made_218 (by decide) ?_
    refine lv_iadd hx hb dX12_made_219 ?_
    refine lv_istore (lv' := [(13, .int ((v9 - v6) + (1 : Int32))), (11, .long v7), (0, .int v0), (4, .int v4), (5, .int v5), (6, .int v6), (7, .long v7), (9, .int v9)]) hx hb dX12_made_220 hl (by decide) rfl (fun ls hl => ?_)
    refine lv_iload hx hb dX12_made_222 (lv_at hl 0 rfl) ?_
    refine lv_iload hx hb dX12_made_224 (lv_at hl 3 rfl) ?_
    refine lv_bipush (v := (6 : Int32)) hx hb dX12_made_226 (by decide) ?_
    refine lv_icmp_ne (tgt := 237) hx hb dX12_made_228 (by decide) (fun c => ?_) (fun c => ?_)
    · replace hF := iF c hF
      refine lv_sipush (v := (2047 : Int32)) hx hb dX12_made_237 (by decide) ?_
      exact (k_X12_made_240 l D  n) C X (lv_sub hl [2, 3, 4, 6, 0] rfl) hF
    · replace hF := iT c hF
      refine lv_sipush (v := (255 : Int32)) hx hb dX12_made_231 (by decide) ?_
      refine lv_goto (tgt := 240) hx hb dX12_made_234 (by decide) ?_
      exact (k_X12_made_240 l D  n) C X (lv_sub hl [2, 3, 4, 6, 0] rfl) hF
set_option maxHeartbeats 4000000 in
set_option maxRecDepth 100000 in
theorem k_X12_made_178 (l : Launch) (D : Dx) (n : Nat) : S_X12_made_178 l D (b_X12_made_178 n) := by
  intro p e s m args below meth c H locs A ls v0 v4 v5 v6 v7 v9 q C X hl hF
  obtain ⟨hx, hb, hr, hml, hown, hts, hlk⟩ := id C
  unfold b_X12_made_178 at hF
  refine lv_lload hx hb dX12_made_178 (lv_at hl 4 rfl) ?_
  refine lv_lconst (v := (1 : Int64)) hx hb dX12_made_180 (by decide) ?_
  refine lv_iload hx hb dX12_made_181 (lv_at hl 2 rfl) ?_
  refine lv_lshl hx hb dX12_made_183 rfl ?_
  refine W.lcmp hx hb dX12_made_184 ?_
  refine lv_if_ne (tgt := 197) hx hb dX12_made_185 (by decide) (fun c => ?_) (fun c => ?_)
  · have c := fun h => c ((lg_cmp_eq _ _).mpr h)
    replace hF := iF c hF
    exact (k_X12_made_197 l D  n) C X (lv_sub hl [0, 1, 2, 3, 4, 5] rfl) hF
  · have c := (lg_cmp_eq _ _).mp c
    replace hF := iT c hF
    refine lv_lload hx hb dX12_made_188 (lv_at hl 4 rfl) ?_
    refine lv_iconst (v := (1 : Int32)) hx hb dX12_made_190 (by decide) ?_
    refine lv_lshr hx hb dX12_made_191 rfl ?_
    refine lv_lstore (lv' := [(7, .long (v7 >>> ((1 : Int32).toInt64 &&& 63))), (0, .int v0), (4, .int v4), (5, .int v5), (6, .int v6), (9, .int v9)]) hx hb dX12_made_192 hl (by decide) rfl (fun ls hl => ?_)
    refine lv_iinc (v := v9 + (1 : Int32)) (lv' := [(9, .int (v9 + (1 : Int32))), (7, .long (v7 >>> ((1 : Int32).toInt64 &&& 63))), (0, .int v0), (4, .int v4), (5, .int v5), (6, .int v6)]) hx hb dX12_made_194 hl (k := 5) rfl rfl (by decide) rfl (fun ls hl => ?_)
    exact (k_X12_made_197 l D  n) C X (lv_sub hl [2, 3, 4, 5, 1, 0] rfl) hF
set_option maxHeartbeats 4000000 in
set_option maxRecDepth 100000 in
theorem k_X12_made_153 (l : Launch) (D : Dx) (n : Nat) : S_X12_made_153 l D (b_X12_made_153 n) := by
  intro p e s m args below meth c H locs A ls v0 v4 v5 v6 v7 v9 q C X hl hF
  obtain ⟨hx, hb, hr, hml, hown, hts, hlk⟩ := id C
  unfold b_X12_made_153 at hF
  refine lv_goto (tgt := 178) hx hb dX12_made_153 (by decide) ?_
  exact (k_X12_made_178 l D  n) C X (lv_sub hl [0, 1, 2, 3, 4, 5] rfl) hF
set_option maxHeartbeats 4000000 in
set_option maxRecDepth 100000 in
theorem k_X12_made_147 (l : Launch) (D : Dx) (n : Nat) : S_X12_made_147 l D (b_X12_made_147 n) := by
  intro p e s m args below meth c H locs A ls v0 v4 v5 v6 v7 v9 q C X hl hF
  obtain ⟨hx, hb, hr, hml, hown, hts, hlk⟩ := id C
  unfold b_X12_made_147 at hF
  refine lv_lload hx hb dX12_made_147 (lv_at hl 4 rfl) ?_
  refine lv_lconst (v := (1 : Int64)) hx hb dX12_made_149 (by decide) ?_
  refine lv_ladd hx hb dX12_made_150 ?_
  refine lv_lstore (lv' := [(7, .long (v7 + (1 : Int64))), (0, .int v0), (4, .int v4), (5, .int v5), (6, .int v6), (9, .int v9)]) hx hb dX12_made_151 hl (by decide) rfl (fun ls hl => ?_)
  exact (k_X12_made_153 l D  n) C X (lv_sub hl [1, 2, 3, 4, 0, 5] rfl) hF
set_option maxHeartbeats 4000000 in
set_option maxRecDepth 100000 in
theorem k_X12_made_67 (l : Launch) (D : Dx) (n : Nat) : S_X12_made_67 l D (b_X12_made_67 n) := by
  intro p e s m args below meth c H locs A ls v0 v4 v5 v6 v7 v9 v10 q C X hl hF
  obtain ⟨hx, hb, hr, hml, hown, hts, hlk⟩ := id C
  unfold b_X12_made_67 at hF
  refine lv_iload hx hb dX12_made_67 (lv_at hl 6 rfl) ?_
  refine lv_bipush (v := (63 : Int32)) hx hb dX12_made_69 (by decide) ?_
  refine lv_icmp_le (tgt := 84) hx hb dX12_made_71 (by decide) (fun c => ?_) (fun c => ?_)
  · replace hF := iT c hF
    refine lv_iload hx hb dX12_made_84 (lv_at hl 6 rfl) ?_
    refine lv_if_le (tgt := 156) hx hb dX12_made_86 (by decide) (fun c => ?_) (fun c => ?_)
    · replace hF := iT c hF
      refine lv_lload hx hb dX12_made_156 (lv_at hl 4 rfl) ?_
      refine lv_lconst (v := (0 : Int64)) hx hb dX12_made_158 (by decide) ?_
      refine W.lcmp hx hb dX12_made_159 ?_
      refine lv_if_eq (tgt := 178) hx hb dX12_made_160 (by decide) (fun c => ?_) (fun c => ?_)
      · have c := (lg_cmp_eq _ _).mp c
        replace hF := iT c hF
        exact (k_X12_made_178 l D  n) C X (lv_sub hl [0, 1, 2, 3, 4, 5] rfl) hF
      · have c := fun h => c ((lg_cmp_eq _ _).mpr h)
        replace hF := iF c hF
        refine lv_lload hx hb dX12_made_163 (lv_at hl 4 rfl) ?_
        refine lv_iload hx hb dX12_made_165 (lv_at hl 6 rfl) ?_
        refine lv_ineg hx hb dX12_made_167 ?_
        refine lv_lshl hx hb dX12_made_168 rfl ?_
        refine lv_lstore (lv' := [(7, .long (v7 <<< ((-v10).toInt64 &&& 63))), (0, .int v0), (4, .int v4), (5, .int v5), (6, .int v6), (9, .int v9), (10, .int v10)]) hx hb dX12_made_169 hl (by decide) rfl (fun ls hl => ?_)
        refine lv_iload hx hb dX12_made_171 (lv_at hl 5 rfl) ?_
        refine lv_iload hx hb dX12_made_173 (lv_at hl 6 rfl) ?_
        refine lv_iadd hx hb dX12_made_175 ?_
        refine lv_istore (lv' := [(9, .int (v9 + v10)), (7, .long (v7 <<< ((-v10).toInt64 &&& 63))), (0, .int v0), (4, .int v4), (5, .int v5), (6, .int v6), (10, .int v10)]) hx hb dX12_made_176 hl (by decide) rfl (fun ls hl => ?_)
        exact (k_X12_made_178 l D  n) C X (lv_sub hl [2, 3, 4, 5, 1, 0] rfl) hF
    · replace hF := iF c hF
      refine lv_lload hx hb dX12_made_89 (lv_at hl 4 rfl) ?_
      refine lv_lconst (v := (1 : Int64)) hx hb dX12_made_91 (by decide) ?_
      refine lv_iload hx hb dX12_made_92 (lv_at hl 6 rfl) ?_
      refine lv_lshl hx hb dX12_made_94 rfl ?_
      refine lv_lconst (v := (1 : Int64)) hx hb dX12_made_95 (by decide) ?_
      refine lv_lsub hx hb dX12_made_96 ?_
      refine lv_land hx hb dX12_made_97 ?_
      refine lv_lstore (lv' := [(11, .long (v7 &&& (((1 : Int64) <<< (v10.toInt64 &&& 63)) - (1 : Int64)))), (0, .int v0), (4, .int v4), (5, .int v5), (6, .int v6), (7, .long v7), (9, .int v9), (10, .int v10)]) hx hb dX12_made_98 hl (by decide) rfl (fun ls hl => ?_)
      refine lv_lconst (v := (1 : Int64)) hx hb dX12_made_100 (by decide) ?_
      refine lv_iload hx hb dX12_made_101 (lv_at hl 7 rfl) ?_
      refine lv_iconst (v := (1 : Int32)) hx hb dX12_made_103 (by decide) ?_
      refine lv_isub hx hb dX12_made_104 ?_
      refine lv_lshl hx hb dX12_made_105 rfl ?_
      refine lv_lstore (lv' := [(13, .long ((1 : Int64) <<< ((v10 - (1 : Int32)).toInt64 &&& 63))), (11, .long (v7 &&& (((1 : Int64) <<< (v10.toInt64 &&& 63)) - (1 : Int64)))), (0, .int v0), (4, .int v4), (5, .int v5), (6, .int v6), (7, .long v7), (9, .int v9), (10, .int v10)]) hx hb dX12_made_106 hl (by decide) rfl (fun ls hl => ?_)
      refine lv_lload hx hb dX12_made_108 (lv_at hl 6 rfl) ?_
      refine lv_iload hx hb dX12_made_110 (lv_at hl 8 rfl) ?_
      refine lv_lushr hx hb dX12_made_112 rfl ?_
      refine lv_lstore (lv' := [(7, .long ((v7.toUInt64 >>> (v10.toInt64.toUInt64 &&& Int64.toUInt64 63)).toInt64)), (13, .long ((1 : Int64) <<< ((v10 - (1 : Int32)).toInt64 &&& 63))), (11, .long (v7 &&& (((1 : Int64) <<< (v10.toInt64 &&& 63)) - (1 : Int64)))), (0, .int v0), (4, .int v4), (5, .int v5), (6, .int v6), (9, .int v9), (10, .int v10)]) hx hb dX12_made_113 hl (by decide) rfl (fun ls hl => ?_)
      refine lv_iload hx hb dX12_made_115 (lv_at hl 7 rfl) ?_
      refine lv_iload hx hb dX12_made_117 (lv_at hl 8 rfl) ?_
      refine lv_iadd hx hb dX12_made_119 ?_
      refine lv_istore (lv' := [(9, .int (v9 + v10)), (7, .long ((v7.toUInt64 >>> (v10.toInt64.toUInt64 &&& Int64.toUInt64 63)).toInt64)), (13, .long ((1 : Int64) <<< ((v10 - (1 : Int32)).toInt64 &&& 63))), (11, .long (v7 &&& (((1 : Int64) <<< (v10.toInt64 &&& 63)) - (1 : Int64)))), (0, .int v0), (4, .int v4), (5, .int v5), (6, .int v6), (10, .int v10)]) hx hb dX12_made_120 hl (by decide) rfl (fun ls hl => ?_)
      refine lv_lload hx hb dX12_made_122 (lv_at hl 3 rfl) ?_
      refine lv_lload hx hb dX12_made_124 (lv_at hl 2 rfl) ?_
      refine W.lcmp hx hb dX12_made_126 ?_
      refine lv_if_gt (tgt := 147) hx hb dX12_made_127 (by decide) (fun c => ?_) (fun c => ?_)
      · have c := (lg_cmp_gt _ _).mp c
        replace hF := iT c hF
        exact (k_X12_made_147 l D  n) C X (lv_sub hl [4, 5, 6, 7, 1, 0] rfl) hF
      · have c := fun h => c ((lg_cmp_gt _ _).mpr h)
        replace hF := iF c hF
        refine lv_lload hx hb dX12_made_130 (lv_at hl 3 rfl) ?_
        refine lv_lload hx hb dX12_made_132 (lv_at hl 2 rfl) ?_
        refine W.lcmp hx hb dX12_made_134 ?_
        refine lv_if_ne (tgt := 153) hx hb dX12_made_135 (by decide) (fun c => ?_) (fun c => ?_)
        · have c := fun h => c ((lg_cmp_eq _ _).mpr h)
          replace hF := iF c hF
          exact (k_X12_made_153 l D  n) C X (lv_sub hl [4, 5, 6, 7, 1, 0] rfl) hF
        · have c := (lg_cmp_eq _ _).mp c
          replace hF := iT c hF
          refine lv_lload hx hb dX12_made_138 (lv_at hl 1 rfl) ?_
          refine lv_lconst (v := (1 : Int64)) hx hb dX12_made_140 (by decide) ?_
          refine lv_land hx hb dX12_made_141 ?_
          refine lv_lconst (v := (1 : Int64)) hx hb dX12_made_142 (by decide) ?_
          refine W.lcmp hx hb dX12_made_143 ?_
          refine lv_if_ne (tgt := 153) hx hb dX12_made_144 (by decide) (fun c => ?_) (fun c => ?_)
          · have c := fun h => c ((lg_cmp_eq _ _).mpr h)
            replace hF := iF c hF
            exact (k_X12_made_153 l D  n) C X (lv_sub hl [4, 5, 6, 7, 1, 0] rfl) hF
          · have c := (lg_cmp_eq _ _).mp c
            replace hF := iT c hF
            exact (k_X12_made_147 l D  n) C X (lv_sub hl [4, 5, 6, 7, 1, 0] rfl) hF
  · replace hF := iF c hF
    refine lv_lconst (v := (0 : Int64)) hx hb dX12_made_74 (by decide) ?_
    refine lv_lstore (lv' := [(7, .long (0 : Int64)), (0, .int v0), (4, .int v4), (5, .int v5), (6, .int v6), (9, .int v9), (10, .int v10)]) hx hb dX12_made_75 hl (by decide) rfl (fun ls hl => ?_)
    refine lv_iload hx hb dX12_made_77 (lv_at hl 4 rfl) ?_
    refine lv_istore (lv' := [(9, .int v6), (7, .long (0 : Int64)), (0, .int v0), (4, .int v4), (5, .int v5), (6, .int v6), (10, .int v10)]) hx hb dX12_made_79 hl (by decide) rfl (fun ls hl => ?_)
    refine lv_goto (tgt := 178) hx hb dX12_made_81 (by decide) ?_
    exact (k_X12_made_178 l D  n) C X (lv_sub hl [2, 3, 4, 5, 1, 0] rfl) hF
set_option maxHeartbeats 4000000 in
set_option maxRecDepth 100000 in
theorem k_X12_made_32 (l : Launch) (D : Dx) (n : Nat) : S_X12_made_32 l D (b_X12_made_32 n) := by
  intro p e s m args below meth c H locs A ls v0 v1 v3 v4 v5 s0 q C X hl hF
  obtain ⟨hx, hb, hr, hml, hown, hts, hlk⟩ := id C
  unfold b_X12_made_32 at hF
  refine lv_istore (lv' := [(6, .int s0), (0, .int v0), (1, .long v1), (3, .int v3), (4, .int v4), (5, .int v5)]) hx hb dX12_made_32 hl (by decide) rfl (fun ls hl => ?_)
  refine lv_lload_n hx hb dX12_made_34 rfl (lv_at hl 2 rfl) ?_
  refine lv_lstore (lv' := [(7, .long v1), (6, .int s0), (0, .int v0), (1, .long v1), (3, .int v3), (4, .int v4), (5, .int v5)]) hx hb dX12_made_35 hl (by decide) rfl (fun ls hl => ?_)
  refine lv_iload_n hx hb dX12_made_37 rfl (lv_at hl 4 rfl) ?_
  refine lv_istore (lv' := [(9, .int v3), (7, .long v1), (6, .int s0), (0, .int v0), (1, .long v1), (3, .int v3), (4, .int v4), (5, .int v5)]) hx hb dX12_made_38 hl (by decide) rfl (fun ls hl => ?_)
  refine lv_lload hx hb dX12_made_40 (lv_at hl 1 rfl) ?_
  obtain ⟨q_1, hc_2, hF⟩ := bnd_some hF
  refine cS_i (As := [.long v1]) (rest := []) C X (c_X12_lengthOf l D  n v1 q_1 hc_2 _) (va_cwS 1 hts (good_S q8_131 q8_132 q1_9 q8_133) rfl rfl rfl (by decide +kernel) ⟨Nat.le_of_ble_eq_true rfl, Nat.le_of_ble_eq_true rfl⟩) (eK X) eP (eD (A := A)) (eF X) hl.1 rfl rfl (Nat.le_of_ble_eq_true rfl) dX12_made_42 ⟨Nat.le_of_ble_eq_true rfl, Nat.le_of_ble_eq_true rfl⟩ (fun t H1 locs1 ht hB hk hS => ?_)
  have X := Hx_after_none X hk hS
  clear hk hS ht hB
  generalize H1 = H at X ⊢
  generalize locs1 = locs at X ⊢
  refine lv_iload hx hb dX12_made_45 (lv_at hl 7 rfl) ?_
  refine lv_isub hx hb dX12_made_47 ?_
  refine lv_istore (lv' := [(10, .int (q_1 - v5)), (9, .int v3), (7, .long v1), (6, .int s0), (0, .int v0), (1, .long v1), (3, .int v3), (4, .int v4), (5, .int v5)]) hx hb dX12_made_48 hl (by decide) rfl (fun ls hl => ?_)
  refine lv_iload hx hb dX12_made_50 (lv_at hl 1 rfl) ?_
  refine lv_iload hx hb dX12_made_52 (lv_at hl 0 rfl) ?_
  refine lv_iadd hx hb dX12_made_54 ?_
  refine lv_iload hx hb dX12_made_55 (lv_at hl 3 rfl) ?_
  refine lv_icmp_ge (tgt := 67) hx hb dX12_made_57 (by decide) (fun c => ?_) (fun c => ?_)
  · replace hF := iT c hF
    exact (k_X12_made_67 l D  n) C X (lv_sub hl [4, 7, 8, 3, 2, 1, 0] rfl) hF
  · replace hF := iF c hF
    refine lv_iload hx hb dX12_made_60 (lv_at hl 3 rfl) ?_
    refine lv_iload hx hb dX12_made_62 (lv_at hl 1 rfl) ?_
    refine lv_isub hx hb dX12_made_64 ?_
    refine lv_istore (lv' := [(10, .int (s0 - v3)), (9, .int v3), (7, .long v1), (6, .int s0), (0, .int v0), (1, .long v1), (3, .int v3), (4, .int v4), (5, .int v5)]) hx hb dX12_made_65 hl (by decide) rfl (fun ls hl => ?_)
    exact (k_X12_made_67 l D  n) C X (lv_sub hl [4, 7, 8, 3, 2, 1, 0] rfl) hF
set_option maxHeartbeats 4000000 in
set_option maxRecDepth 100000 in
theorem k_X12_made_14 (l : Launch) (D : Dx) (n : Nat) : S_X12_made_14 l D (b_X12_made_14 n) := by
  intro p e s m args below meth c H locs A ls v0 v1 v3 v4 s0 q C X hl hF
  obtain ⟨hx, hb, hr, hml, hown, hts, hlk⟩ := id C
  unfold b_X12_made_14 at hF
  refine lv_istore (lv' := [(5, .int s0), (0, .int v0), (1, .long v1), (3, .int v3), (4, .int v4)]) hx hb dX12_made_14 hl (by decide) rfl (fun ls hl => ?_)
  refine lv_iload hx hb dX12_made_16 (lv_at hl 4 rfl) ?_
  refine lv_bipush (v := (6 : Int32)) hx hb dX12_made_18 (by decide) ?_
  refine lv_icmp_ne (tgt := 29) hx hb dX12_made_20 (by decide) (fun c => ?_) (fun c => ?_)
  · replace hF := iF c hF
    refine lv_sipush (v := (-1074 : Int32)) hx hb dX12_made_29 (by decide) ?_
    exact (k_X12_made_32 l D  n) C X (lv_sub hl [1, 2, 3, 4, 0] rfl) hF
  · replace hF := iT c hF
    refine lv_sipush (v := (-149 : Int32)) hx hb dX12_made_23 (by decide) ?_
    refine lv_goto (tgt := 32) hx hb dX12_made_26 (by decide) ?_
    exact (k_X12_made_32 l D  n) C X (lv_sub hl [1, 2, 3, 4, 0] rfl) hF
set_option maxHeartbeats 4000000 in
set_option maxRecDepth 100000 in
theorem c_X12_made (l : Launch) (D : Dx) (n : Nat) (x0 : Int32) (x1 : Int64) (x2 : Int32) (x3 : Int32) (q : Int64) (hF : f_X12_made n x0 x1 x2 x3 = some q) (sz : Nat) : Met l yX12_made (ws_ yX12_made cX12_made 15 (some .long)) R_X12_made (PC D ([]) [.int x0, .long x1, .int x2, .int x3] ([]) sz) (QL D (va_A ([]) sz) ([]) q) 0 0 (va_A ([]) sz) := by
  refine Met.ofW (cc := cX12_made) (maxL := 15) (ret := (some .long)) (by decide) rfl ?_
  intro p e s m args below meth c s₁ B hml hv
  obtain ⟨rfl, hsz, hP, hK, hD, hN⟩ := hv
  subst hsz
  have C : Cx p s m _ meth c cX12_made (some .long) 15 RX12 lw_all := Cx_of B hml
  have X := Hx_start hP hK hD hN
  obtain ⟨hx, hb, hr, -, hown, hts, hlk⟩ := id C
  generalize va_A ([]) s.heap.size = A at X ⊢
  have hl := lv_entry ([.int x0, .long x1, .int x2, .int x3]) (n := 15) (Nat.le_of_ble_eq_true rfl)
  rw [lg_entry_eq]
  generalize (lg_sl ([.int x0, .long x1, .int x2, .int x3]) ++ List.replicate (15 - (lg_sl ([.int x0, .long x1, .int x2, .int x3])).length) Slot.unset).toArray = ls at hl ⊢
  have hl : lv_has ls 15 [(0, .int x0), (1, .long x1), (3, .int x2), (4, .int x3)] := hl
  unfold f_X12_made at hF
  refine lv_iload hx hb dX12_made_0 (lv_at hl 3 rfl) ?_
  refine lv_bipush (v := (6 : Int32)) hx hb dX12_made_2 (by decide) ?_
  refine lv_icmp_ne (tgt := 12) hx hb dX12_made_4 (by decide) (fun c => ?_) (fun c => ?_)
  · replace hF := iF c hF
    refine lv_bipush (v := (53 : Int32)) hx hb dX12_made_12 (by decide) ?_
    exact (k_X12_made_14 l D  n) C X (lv_sub hl [0, 1, 2, 3] rfl) hF
  · replace hF := iT c hF
    refine lv_bipush (v := (24 : Int32)) hx hb dX12_made_7 (by decide) ?_
    refine lv_goto (tgt := 14) hx hb dX12_made_9 (by decide) ?_
    exact (k_X12_made_14 l D  n) C X (lv_sub hl [0, 1, 2, 3] rfl) hF

/-! ### X12_isReal -/
theorem dX12_isReal_0 : decode cX12_isReal 0 = .ok (.iload_n 0, 1) := by decide +kernel
theorem dX12_isReal_1 : decode cX12_isReal 1 = .ok (.bipush 6, 2) := by decide +kernel
theorem dX12_isReal_3 : decode cX12_isReal 3 = .ok (.if_icmp .lt 7, 3) := by decide +kernel
theorem dX12_isReal_6 : decode cX12_isReal 6 = .ok (.iconst 1, 1) := by decide +kernel
theorem dX12_isReal_7 : decode cX12_isReal 7 = .ok (.goto 4, 3) := by decide +kernel
theorem dX12_isReal_10 : decode cX12_isReal 10 = .ok (.iconst 0, 1) := by decide +kernel
theorem dX12_isReal_11 : decode cX12_isReal 11 = .ok (.ireturn, 1) := by decide +kernel
abbrev R_X12_isReal : Room := ({ frames := 0, cells := 0, slots := 0, locals := 0 } : Room)
def f_X12_isReal (x0 : Int32) : Option (Int32) :=
  if x0 < (6 : Int32) then (some (0 : Int32)) else (some (1 : Int32))
set_option maxHeartbeats 4000000 in
set_option maxRecDepth 100000 in
theorem c_X12_isReal (l : Launch) (D : Dx) (x0 : Int32) (q : Int32) (hF : f_X12_isReal x0 = some q) (sz : Nat) : Met l yX12_isReal (ws_ yX12_isReal cX12_isReal 1 (some .boolean)) R_X12_isReal (PC D ([]) [.int x0] ([]) sz) (QI D (va_A ([]) sz) ([]) q) 0 0 (va_A ([]) sz) := by
  refine Met.ofW (cc := cX12_isReal) (maxL := 1) (ret := (some .boolean)) (by decide) rfl ?_
  intro p e s m args below meth c s₁ B hml hv
  obtain ⟨rfl, hsz, hP, hK, hD, hN⟩ := hv
  subst hsz
  have C : Cx p s m _ meth c cX12_isReal (some .boolean) 1 RX12 lw_all := Cx_of B hml
  have X := Hx_start hP hK hD hN
  obtain ⟨hx, hb, hr, -, hown, hts, hlk⟩ := id C
  generalize va_A ([]) s.heap.size = A at X ⊢
  have hl := lv_entry ([.int x0]) (n := 1) (Nat.le_of_ble_eq_true rfl)
  rw [lg_entry_eq]
  generalize (lg_sl ([.int x0]) ++ List.replicate (1 - (lg_sl ([.int x0])).length) Slot.unset).toArray = ls at hl ⊢
  have hl : lv_has ls 1 [(0, .int x0)] := hl
  unfold f_X12_isReal at hF
  refine lv_iload_n hx hb dX12_isReal_0 rfl (lv_at hl 0 rfl) ?_
  refine lv_bipush (v := (6 : Int32)) hx hb dX12_isReal_1 (by decide) ?_
  refine lv_icmp_lt (tgt := 10) hx hb dX12_isReal_3 (by decide) (fun c => ?_) (fun c => ?_)
  · replace hF := iT c hF
    refine lv_iconst (v := (0 : Int32)) hx hb dX12_isReal_10 (by decide) ?_
    have hq := Option.some.inj hF
    subst hq
    exact rt_z (v := (0 : Int32)) C X (by decide) dX12_isReal_11
  · replace hF := iF c hF
    refine lv_iconst (v := (1 : Int32)) hx hb dX12_isReal_6 (by decide) ?_
    refine lv_goto (tgt := 11) hx hb dX12_isReal_7 (by decide) ?_
    have hq := Option.some.inj hF
    subst hq
    exact rt_z (v := (1 : Int32)) C X (by decide) dX12_isReal_11

/-! ### X12_isFinite -/
theorem dX12_isFinite_0 : decode cX12_isFinite 0 = .ok (.lload_n 0, 1) := by decide +kernel
theorem dX12_isFinite_1 : decode cX12_isFinite 1 = .ok (.bipush 52, 2) := by decide +kernel
theorem dX12_isFinite_3 : decode cX12_isFinite 3 = .ok (.lshr, 1) := by decide +kernel
theorem dX12_isFinite_4 : decode cX12_isFinite 4 = .ok (.ldc2_w 430, 3) := by decide +kernel
theorem dX12_isFinite_7 : decode cX12_isFinite 7 = .ok (.land, 1) := by decide +kernel
theorem dX12_isFinite_8 : decode cX12_isFinite 8 = .ok (.ldc2_w 430, 3) := by decide +kernel
theorem dX12_isFinite_11 : decode cX12_isFinite 11 = .ok (.lcmp, 1) := by decide +kernel
theorem dX12_isFinite_12 : decode cX12_isFinite 12 = .ok (.ifCond .eq 7, 3) := by decide +kernel
theorem dX12_isFinite_15 : decode cX12_isFinite 15 = .ok (.iconst 1, 1) := by decide +kernel
theorem dX12_isFinite_16 : decode cX12_isFinite 16 = .ok (.goto 4, 3) := by decide +kernel
theorem dX12_isFinite_19 : decode cX12_isFinite 19 = .ok (.iconst 0, 1) := by decide +kernel
theorem dX12_isFinite_20 : decode cX12_isFinite 20 = .ok (.ireturn, 1) := by decide +kernel
abbrev R_X12_isFinite : Room := ({ frames := 0, cells := 0, slots := 0, locals := 0 } : Room)
def f_X12_isFinite (x0 : Int64) : Option (Int32) :=
  if ((x0 >>> ((52 : Int32).toInt64 &&& 63)) &&& (2047 : Int64)) = (2047 : Int64) then (some (0 : Int32)) else (some (1 : Int32))
set_option maxHeartbeats 4000000 in
set_option maxRecDepth 100000 in
theorem c_X12_isFinite (l : Launch) (D : Dx) (x0 : Int64) (q : Int32) (hF : f_X12_isFinite x0 = some q) (sz : Nat) : Met l yX12_isFinite (ws_ yX12_isFinite cX12_isFinite 2 (some .boolean)) R_X12_isFinite (PC D ([]) [.long x0] ([]) sz) (QI D (va_A ([]) sz) ([]) q) 0 0 (va_A ([]) sz) := by
  refine Met.ofW (cc := cX12_isFinite) (maxL := 2) (ret := (some .boolean)) (by decide) rfl ?_
  intro p e s m args below meth c s₁ B hml hv
  obtain ⟨rfl, hsz, hP, hK, hD, hN⟩ := hv
  subst hsz
  have C : Cx p s m _ meth c cX12_isFinite (some .boolean) 2 RX12 lw_all := Cx_of B hml
  have X := Hx_start hP hK hD hN
  obtain ⟨hx, hb, hr, -, hown, hts, hlk⟩ := id C
  generalize va_A ([]) s.heap.size = A at X ⊢
  have hl := lv_entry ([.long x0]) (n := 2) (Nat.le_of_ble_eq_true rfl)
  rw [lg_entry_eq]
  generalize (lg_sl ([.long x0]) ++ List.replicate (2 - (lg_sl ([.long x0])).length) Slot.unset).toArray = ls at hl ⊢
  have hl : lv_has ls 2 [(0, .long x0)] := hl
  unfold f_X12_isFinite at hF
  refine lv_lload_n hx hb dX12_isFinite_0 rfl (lv_at hl 0 rfl) ?_
  refine lv_bipush (v := (52 : Int32)) hx hb dX12_isFinite_1 (by decide) ?_
  refine lv_lshr hx hb dX12_isFinite_3 rfl ?_
  refine lv_ldc2 hx hb hown (hts _ q9_124) dX12_isFinite_4 ?_
  refine lv_land hx hb dX12_isFinite_7 ?_
  refine lv_ldc2 hx hb hown (hts _ q9_124) dX12_isFinite_8 ?_
  refine W.lcmp hx hb dX12_isFinite_11 ?_
  refine lv_if_eq (tgt := 19) hx hb dX12_isFinite_12 (by decide) (fun c => ?_) (fun c => ?_)
  · have c := (lg_cmp_eq _ _).mp c
    replace hF := iT c hF
    refine lv_iconst (v := (0 : Int32)) hx hb dX12_isFinite_19 (by decide) ?_
    have hq := Option.some.inj hF
    subst hq
    exact rt_z (v := (0 : Int32)) C X (by decide) dX12_isFinite_20
  · have c := fun h => c ((lg_cmp_eq _ _).mpr h)
    replace hF := iF c hF
    refine lv_iconst (v := (1 : Int32)) hx hb dX12_isFinite_15 (by decide) ?_
    refine lv_goto (tgt := 20) hx hb dX12_isFinite_16 (by decide) ?_
    have hq := Option.some.inj hF
    subst hq
    exact rt_z (v := (1 : Int32)) C X (by decide) dX12_isFinite_20

/-! ### X12_isZero -/
theorem dX12_isZero_0 : decode cX12_isZero 0 = .ok (.iload_n 2, 1) := by decide +kernel
theorem dX12_isZero_1 : decode cX12_isZero 1 = .ok (.bipush 6, 2) := by decide +kernel
theorem dX12_isZero_3 : decode cX12_isZero 3 = .ok (.if_icmp .ne 18, 3) := by decide +kernel
theorem dX12_isZero_6 : decode cX12_isZero 6 = .ok (.lload_n 0, 1) := by decide +kernel
theorem dX12_isZero_7 : decode cX12_isZero 7 = .ok (.l2i, 1) := by decide +kernel
theorem dX12_isZero_8 : decode cX12_isZero 8 = .ok (.iconst 1, 1) := by decide +kernel
theorem dX12_isZero_9 : decode cX12_isZero 9 = .ok (.ishl, 1) := by decide +kernel
theorem dX12_isZero_10 : decode cX12_isZero 10 = .ok (.ifCond .ne 7, 3) := by decide +kernel
theorem dX12_isZero_13 : decode cX12_isZero 13 = .ok (.iconst 1, 1) := by decide +kernel
theorem dX12_isZero_14 : decode cX12_isZero 14 = .ok (.goto 20, 3) := by decide +kernel
theorem dX12_isZero_17 : decode cX12_isZero 17 = .ok (.iconst 0, 1) := by decide +kernel
theorem dX12_isZero_18 : decode cX12_isZero 18 = .ok (.goto 16, 3) := by decide +kernel
theorem dX12_isZero_21 : decode cX12_isZero 21 = .ok (.lload_n 0, 1) := by decide +kernel
theorem dX12_isZero_22 : decode cX12_isZero 22 = .ok (.iconst 1, 1) := by decide +kernel
theorem dX12_isZero_23 : decode cX12_isZero 23 = .ok (.lshl, 1) := by decide +kernel
theorem dX12_isZero_24 : decode cX12_isZero 24 = .ok (.lconst 0, 1) := by decide +kernel
theorem dX12_isZero_25 : decode cX12_isZero 25 = .ok (.lcmp, 1) := by decide +kernel
theorem dX12_isZero_26 : decode cX12_isZero 26 = .ok (.ifCond .ne 7, 3) := by decide +kernel
theorem dX12_isZero_29 : decode cX12_isZero 29 = .ok (.iconst 1, 1) := by decide +kernel
theorem dX12_isZero_30 : decode cX12_isZero 30 = .ok (.goto 4, 3) := by decide +kernel
theorem dX12_isZero_33 : decode cX12_isZero 33 = .ok (.iconst 0, 1) := by decide +kernel
theorem dX12_isZero_34 : decode cX12_isZero 34 = .ok (.ireturn, 1) := by decide +kernel
abbrev R_X12_isZero : Room := ({ frames := 0, cells := 0, slots := 0, locals := 0 } : Room)
def f_X12_isZero (x0 : Int64) (x1 : Int32) : Option (Int32) :=
  if x1 = (6 : Int32) then (if (x0.toInt32 <<< ((1 : Int32) &&& 31)) = 0 then (some (1 : Int32)) else (some (0 : Int32))) else (if (x0 <<< ((1 : Int32).toInt64 &&& 63)) = (0 : Int64) then (some (1 : Int32)) else (some (0 : Int32)))
set_option maxHeartbeats 4000000 in
set_option maxRecDepth 100000 in
theorem c_X12_isZero (l : Launch) (D : Dx) (x0 : Int64) (x1 : Int32) (q : Int32) (hF : f_X12_isZero x0 x1 = some q) (sz : Nat) : Met l yX12_isZero (ws_ yX12_isZero cX12_isZero 3 (some .boolean)) R_X12_isZero (PC D ([]) [.long x0, .int x1] ([]) sz) (QI D (va_A ([]) sz) ([]) q) 0 0 (va_A ([]) sz) := by
  refine Met.ofW (cc := cX12_isZero) (maxL := 3) (ret := (some .boolean)) (by decide) rfl ?_
  intro p e s m args below meth c s₁ B hml hv
  obtain ⟨rfl, hsz, hP, hK, hD, hN⟩ := hv
  subst hsz
  have C : Cx p s m _ meth c cX12_isZero (some .boolean) 3 RX12 lw_all := Cx_of B hml
  have X := Hx_start hP hK hD hN
  obtain ⟨hx, hb, hr, -, hown, hts, hlk⟩ := id C
  generalize va_A ([]) s.heap.size = A at X ⊢
  have hl := lv_entry ([.long x0, .int x1]) (n := 3) (Nat.le_of_ble_eq_true rfl)
  rw [lg_entry_eq]
  generalize (lg_sl ([.long x0, .int x1]) ++ List.replicate (3 - (lg_sl ([.long x0, .int x1])).length) Slot.unset).toArray = ls at hl ⊢
  have hl : lv_has ls 3 [(0, .long x0), (2, .int x1)] := hl
  unfold f_X12_isZero at hF
  refine lv_iload_n hx hb dX12_isZero_0 rfl (lv_at hl 1 rfl) ?_
  refine lv_bipush (v := (6 : Int32)) hx hb dX12_isZero_1 (by decide) ?_
  refine lv_icmp_ne (tgt := 21) hx hb dX12_isZero_3 (by decide) (fun c => ?_) (fun c => ?_)
  · replace hF := iF c hF
    refine lv_lload_n hx hb dX12_isZero_21 rfl (lv_at hl 0 rfl) ?_
    refine lv_iconst (v := (1 : Int32)) hx hb dX12_isZero_22 (by decide) ?_
    refine lv_lshl hx hb dX12_isZero_23 rfl ?_
    refine lv_lconst (v := (0 : Int64)) hx hb dX12_isZero_24 (by decide) ?_
    refine W.lcmp hx hb dX12_isZero_25 ?_
    refine lv_if_ne (tgt := 33) hx hb dX12_isZero_26 (by decide) (fun c => ?_) (fun c => ?_)
    · have c := fun h => c ((lg_cmp_eq _ _).mpr h)
      replace hF := iF c hF
      refine lv_iconst (v := (0 : Int32)) hx hb dX12_isZero_33 (by decide) ?_
      have hq := Option.some.inj hF
      subst hq
      exact rt_z (v := (0 : Int32)) C X (by decide) dX12_isZero_34
    · have c := (lg_cmp_eq _ _).mp c
      replace hF := iT c hF
      refine lv_iconst (v := (1 : Int32)) hx hb dX12_isZero_29 (by decide) ?_
      refine lv_goto (tgt := 34) hx hb dX12_isZero_30 (by decide) ?_
      have hq := Option.some.inj hF
      subst hq
      exact rt_z (v := (1 : Int32)) C X (by decide) dX12_isZero_34
  · replace hF := iT c hF
    refine lv_lload_n hx hb dX12_isZero_6 rfl (lv_at hl 0 rfl) ?_
    refine lv_l2i hx hb dX12_isZero_7 rfl ?_
    refine lv_iconst (v := (1 : Int32)) hx hb dX12_isZero_8 (by decide) ?_
    refine lv_ishl hx hb dX12_isZero_9 ?_
    refine lv_if_ne (tgt := 17) hx hb dX12_isZero_10 (by decide) (fun c => ?_) (fun c => ?_)
    · replace hF := iF c hF
      refine lv_iconst (v := (0 : Int32)) hx hb dX12_isZero_17 (by decide) ?_
      refine lv_goto (tgt := 34) hx hb dX12_isZero_18 (by decide) ?_
      have hq := Option.some.inj hF
      subst hq
      exact rt_z (v := (0 : Int32)) C X (by decide) dX12_isZero_34
    · replace hF := iT c hF
      refine lv_iconst (v := (1 : Int32)) hx hb dX12_isZero_13 (by decide) ?_
      refine lv_goto (tgt := 34) hx hb dX12_isZero_14 (by decide) ?_
      have hq := Option.some.inj hF
      subst hq
      exact rt_z (v := (1 : Int32)) C X (by decide) dX12_isZero_34

/-! ### X12_wholeOf -/
theorem dX12_wholeOf_0 : decode cX12_wholeOf 0 = .ok (.iload_n 0, 1) := by decide +kernel
theorem dX12_wholeOf_1 : decode cX12_wholeOf 1 = .ok (.ifCond .eq 8, 3) := by decide +kernel
theorem dX12_wholeOf_4 : decode cX12_wholeOf 4 = .ok (.lload_n 1, 1) := by decide +kernel
theorem dX12_wholeOf_5 : decode cX12_wholeOf 5 = .ok (.lneg, 1) := by decide +kernel
theorem dX12_wholeOf_6 : decode cX12_wholeOf 6 = .ok (.goto 4, 3) := by decide +kernel
theorem dX12_wholeOf_9 : decode cX12_wholeOf 9 = .ok (.lload_n 1, 1) := by decide +kernel
theorem dX12_wholeOf_10 : decode cX12_wholeOf 10 = .ok (.lreturn, 1) := by decide +kernel
abbrev R_X12_wholeOf : Room := ({ frames := 0, cells := 0, slots := 0, locals := 0 } : Room)
def f_X12_wholeOf (x0 : Int32) (x1 : Int64) : Option (Int64) :=
  if x0 = 0 then (some x1) else (some (-x1))
set_option maxHeartbeats 4000000 in
set_option maxRecDepth 100000 in
theorem c_X12_wholeOf (l : Launch) (D : Dx) (x0 : Int32) (x1 : Int64) (q : Int64) (hF : f_X12_wholeOf x0 x1 = some q) (sz : Nat) : Met l yX12_wholeOf (ws_ yX12_wholeOf cX12_wholeOf 3 (some .long)) R_X12_wholeOf (PC D ([]) [.int x0, .long x1] ([]) sz) (QL D (va_A ([]) sz) ([]) q) 0 0 (va_A ([]) sz) := by
  refine Met.ofW (cc := cX12_wholeOf) (maxL := 3) (ret := (some .long)) (by decide) rfl ?_
  intro p e s m args below meth c s₁ B hml hv
  obtain ⟨rfl, hsz, hP, hK, hD, hN⟩ := hv
  subst hsz
  have C : Cx p s m _ meth c cX12_wholeOf (some .long) 3 RX12 lw_all := Cx_of B hml
  have X := Hx_start hP hK hD hN
  obtain ⟨hx, hb, hr, -, hown, hts, hlk⟩ := id C
  generalize va_A ([]) s.heap.size = A at X ⊢
  have hl := lv_entry ([.int x0, .long x1]) (n := 3) (Nat.le_of_ble_eq_true rfl)
  rw [lg_entry_eq]
  generalize (lg_sl ([.int x0, .long x1]) ++ List.replicate (3 - (lg_sl ([.int x0, .long x1])).length) Slot.unset).toArray = ls at hl ⊢
  have hl : lv_has ls 3 [(0, .int x0), (1, .long x1)] := hl
  unfold f_X12_wholeOf at hF
  refine lv_iload_n hx hb dX12_wholeOf_0 rfl (lv_at hl 0 rfl) ?_
  refine lv_if_eq (tgt := 9) hx hb dX12_wholeOf_1 (by decide) (fun c => ?_) (fun c => ?_)
  · replace hF := iT c hF
    refine lv_lload_n hx hb dX12_wholeOf_9 rfl (lv_at hl 1 rfl) ?_
    have hq := Option.some.inj hF
    subst hq
    exact rt_l C X dX12_wholeOf_10
  · replace hF := iF c hF
    refine lv_lload_n hx hb dX12_wholeOf_4 rfl (lv_at hl 1 rfl) ?_
    refine lv_lneg hx hb dX12_wholeOf_5 ?_
    refine lv_goto (tgt := 10) hx hb dX12_wholeOf_6 (by decide) ?_
    have hq := Option.some.inj hF
    subst hq
    exact rt_l C X dX12_wholeOf_10

/-! ### X12_narrowed -/
theorem dX12_narrowed_0 : decode cX12_narrowed 0 = .ok (.iload_n 2, 1) := by decide +kernel
theorem dX12_narrowed_1 : decode cX12_narrowed 1 = .ok (.iconst 1, 1) := by decide +kernel
theorem dX12_narrowed_2 : decode cX12_narrowed 2 = .ok (.if_icmp .ne 33, 3) := by decide +kernel
theorem dX12_narrowed_5 : decode cX12_narrowed 5 = .ok (.lload_n 0, 1) := by decide +kernel
theorem dX12_narrowed_6 : decode cX12_narrowed 6 = .ok (.ldc2_w 442, 3) := by decide +kernel
theorem dX12_narrowed_9 : decode cX12_narrowed 9 = .ok (.land, 1) := by decide +kernel
theorem dX12_narrowed_10 : decode cX12_narrowed 10 = .ok (.ldc2_w 444, 3) := by decide +kernel
theorem dX12_narrowed_13 : decode cX12_narrowed 13 = .ok (.lcmp, 1) := by decide +kernel
theorem dX12_narrowed_14 : decode cX12_narrowed 14 = .ok (.ifCond .lt 15, 3) := by decide +kernel
theorem dX12_narrowed_17 : decode cX12_narrowed 17 = .ok (.lload_n 0, 1) := by decide +kernel
theorem dX12_narrowed_18 : decode cX12_narrowed 18 = .ok (.ldc2_w 442, 3) := by decide +kernel
theorem dX12_narrowed_21 : decode cX12_narrowed 21 = .ok (.land, 1) := by decide +kernel
theorem dX12_narrowed_22 : decode cX12_narrowed 22 = .ok (.ldc2_w 446, 3) := by decide +kernel
theorem dX12_narrowed_25 : decode cX12_narrowed 25 = .ok (.lsub, 1) := by decide +kernel
theorem dX12_narrowed_26 : decode cX12_narrowed 26 = .ok (.goto 8, 3) := by decide +kernel
theorem dX12_narrowed_29 : decode cX12_narrowed 29 = .ok (.lload_n 0, 1) := by decide +kernel
theorem dX12_narrowed_30 : decode cX12_narrowed 30 = .ok (.ldc2_w 442, 3) := by decide +kernel
theorem dX12_narrowed_33 : decode cX12_narrowed 33 = .ok (.land, 1) := by decide +kernel
theorem dX12_narrowed_34 : decode cX12_narrowed 34 = .ok (.lreturn, 1) := by decide +kernel
theorem dX12_narrowed_35 : decode cX12_narrowed 35 = .ok (.iload_n 2, 1) := by decide +kernel
theorem dX12_narrowed_36 : decode cX12_narrowed 36 = .ok (.iconst 2, 1) := by decide +kernel
theorem dX12_narrowed_37 : decode cX12_narrowed 37 = .ok (.if_icmp .ne 33, 3) := by decide +kernel
theorem dX12_narrowed_40 : decode cX12_narrowed 40 = .ok (.lload_n 0, 1) := by decide +kernel
theorem dX12_narrowed_41 : decode cX12_narrowed 41 = .ok (.ldc2_w 448, 3) := by decide +kernel
theorem dX12_narrowed_44 : decode cX12_narrowed 44 = .ok (.land, 1) := by decide +kernel
theorem dX12_narrowed_45 : decode cX12_narrowed 45 = .ok (.ldc2_w 450, 3) := by decide +kernel
theorem dX12_narrowed_48 : decode cX12_narrowed 48 = .ok (.lcmp, 1) := by decide +kernel
theorem dX12_narrowed_49 : decode cX12_narrowed 49 = .ok (.ifCond .lt 15, 3) := by decide +kernel
theorem dX12_narrowed_52 : decode cX12_narrowed 52 = .ok (.lload_n 0, 1) := by decide +kernel
theorem dX12_narrowed_53 : decode cX12_narrowed 53 = .ok (.ldc2_w 448, 3) := by decide +kernel
theorem dX12_narrowed_56 : decode cX12_narrowed 56 = .ok (.land, 1) := by decide +kernel
theorem dX12_narrowed_57 : decode cX12_narrowed 57 = .ok (.ldc2_w 452, 3) := by decide +kernel
theorem dX12_narrowed_60 : decode cX12_narrowed 60 = .ok (.lsub, 1) := by decide +kernel
theorem dX12_narrowed_61 : decode cX12_narrowed 61 = .ok (.goto 8, 3) := by decide +kernel
theorem dX12_narrowed_64 : decode cX12_narrowed 64 = .ok (.lload_n 0, 1) := by decide +kernel
theorem dX12_narrowed_65 : decode cX12_narrowed 65 = .ok (.ldc2_w 448, 3) := by decide +kernel
theorem dX12_narrowed_68 : decode cX12_narrowed 68 = .ok (.land, 1) := by decide +kernel
theorem dX12_narrowed_69 : decode cX12_narrowed 69 = .ok (.lreturn, 1) := by decide +kernel
theorem dX12_narrowed_70 : decode cX12_narrowed 70 = .ok (.iload_n 2, 1) := by decide +kernel
theorem dX12_narrowed_71 : decode cX12_narrowed 71 = .ok (.iconst 3, 1) := by decide +kernel
theorem dX12_narrowed_72 : decode cX12_narrowed 72 = .ok (.if_icmp .ne 9, 3) := by decide +kernel
theorem dX12_narrowed_75 : decode cX12_narrowed 75 = .ok (.lload_n 0, 1) := by decide +kernel
theorem dX12_narrowed_76 : decode cX12_narrowed 76 = .ok (.ldc2_w 448, 3) := by decide +kernel
theorem dX12_narrowed_79 : decode cX12_narrowed 79 = .ok (.land, 1) := by decide +kernel
theorem dX12_narrowed_80 : decode cX12_narrowed 80 = .ok (.lreturn, 1) := by decide +kernel
theorem dX12_narrowed_81 : decode cX12_narrowed 81 = .ok (.iload_n 2, 1) := by decide +kernel
theorem dX12_narrowed_82 : decode cX12_narrowed 82 = .ok (.iconst 4, 1) := by decide +kernel
theorem dX12_narrowed_83 : decode cX12_narrowed 83 = .ok (.if_icmp .ne 33, 3) := by decide +kernel
theorem dX12_narrowed_86 : decode cX12_narrowed 86 = .ok (.lload_n 0, 1) := by decide +kernel
theorem dX12_narrowed_87 : decode cX12_narrowed 87 = .ok (.ldc2_w 454, 3) := by decide +kernel
theorem dX12_narrowed_90 : decode cX12_narrowed 90 = .ok (.land, 1) := by decide +kernel
theorem dX12_narrowed_91 : decode cX12_narrowed 91 = .ok (.ldc2_w 426, 3) := by decide +kernel
theorem dX12_narrowed_94 : decode cX12_narrowed 94 = .ok (.lcmp, 1) := by decide +kernel
theorem dX12_narrowed_95 : decode cX12_narrowed 95 = .ok (.ifCond .lt 15, 3) := by decide +kernel
theorem dX12_narrowed_98 : decode cX12_narrowed 98 = .ok (.lload_n 0, 1) := by decide +kernel
theorem dX12_narrowed_99 : decode cX12_narrowed 99 = .ok (.ldc2_w 454, 3) := by decide +kernel
theorem dX12_narrowed_102 : decode cX12_narrowed 102 = .ok (.land, 1) := by decide +kernel
theorem dX12_narrowed_103 : decode cX12_narrowed 103 = .ok (.ldc2_w 456, 3) := by decide +kernel
theorem dX12_narrowed_106 : decode cX12_narrowed 106 = .ok (.lsub, 1) := by decide +kernel
theorem dX12_narrowed_107 : decode cX12_narrowed 107 = .ok (.goto 8, 3) := by decide +kernel
theorem dX12_narrowed_110 : decode cX12_narrowed 110 = .ok (.lload_n 0, 1) := by decide +kernel
theorem dX12_narrowed_111 : decode cX12_narrowed 111 = .ok (.ldc2_w 454, 3) := by decide +kernel
theorem dX12_narrowed_114 : decode cX12_narrowed 114 = .ok (.land, 1) := by decide +kernel
theorem dX12_narrowed_115 : decode cX12_narrowed 115 = .ok (.lreturn, 1) := by decide +kernel
theorem dX12_narrowed_116 : decode cX12_narrowed 116 = .ok (.lload_n 0, 1) := by decide +kernel
theorem dX12_narrowed_117 : decode cX12_narrowed 117 = .ok (.lreturn, 1) := by decide +kernel
abbrev R_X12_narrowed : Room := ({ frames := 0, cells := 0, slots := 0, locals := 0 } : Room)
def f_X12_narrowed (x0 : Int64) (x1 : Int32) : Option (Int64) :=
  if x1 = (1 : Int32) then (if (x0 &&& (255 : Int64)) < (128 : Int64) then (some (x0 &&& (255 : Int64))) else (some ((x0 &&& (255 : Int64)) - (256 : Int64)))) else (if x1 = (2 : Int32) then (if (x0 &&& (65535 : Int64)) < (32768 : Int64) then (some (x0 &&& (65535 : Int64))) else (some ((x0 &&& (65535 : Int64)) - (65536 : Int64)))) else (if x1 = (3 : Int32) then (some (x0 &&& (65535 : Int64))) else (if x1 = (4 : Int32) then (if (x0 &&& (4294967295 : Int64)) < (2147483648 : Int64) then (some (x0 &&& (4294967295 : Int64))) else (some ((x0 &&& (4294967295 : Int64)) - (4294967296 : Int64)))) else (some x0))))
set_option maxHeartbeats 4000000 in
set_option maxRecDepth 100000 in
theorem c_X12_narrowed (l : Launch) (D : Dx) (x0 : Int64) (x1 : Int32) (q : Int64) (hF : f_X12_narrowed x0 x1 = some q) (sz : Nat) : Met l yX12_narrowed (ws_ yX12_narrowed cX12_narrowed 3 (some .long)) R_X12_narrowed (PC D ([]) [.long x0, .int x1] ([]) sz) (QL D (va_A ([]) sz) ([]) q) 0 0 (va_A ([]) sz) := by
  refine Met.ofW (cc := cX12_narrowed) (maxL := 3) (ret := (some .long)) (by decide) rfl ?_
  intro p e s m args below meth c s₁ B hml hv
  obtain ⟨rfl, hsz, hP, hK, hD, hN⟩ := hv
  subst hsz
  have C : Cx p s m _ meth c cX12_narrowed (some .long) 3 RX12 lw_all := Cx_of B hml
  have X := Hx_start hP hK hD hN
  obtain ⟨hx, hb, hr, -, hown, hts, hlk⟩ := id C
  generalize va_A ([]) s.heap.size = A at X ⊢
  have hl := lv_entry ([.long x0, .int x1]) (n := 3) (Nat.le_of_ble_eq_true rfl)
  rw [lg_entry_eq]
  generalize (lg_sl ([.long x0, .int x1]) ++ List.replicate (3 - (lg_sl ([.long x0, .int x1])).length) Slot.unset).toArray = ls at hl ⊢
  have hl : lv_has ls 3 [(0, .long x0), (2, .int x1)] := hl
  unfold f_X12_narrowed at hF
  refine lv_iload_n hx hb dX12_narrowed_0 rfl (lv_at hl 1 rfl) ?_
  refine lv_iconst (v := (1 : Int32)) hx hb dX12_narrowed_1 (by decide) ?_
  refine lv_icmp_ne (tgt := 35) hx hb dX12_narrowed_2 (by decide) (fun c => ?_) (fun c => ?_)
  · replace hF := iF c hF
    refine lv_iload_n hx hb dX12_narrowed_35 rfl (lv_at hl 1 rfl) ?_
    refine lv_iconst (v := (2 : Int32)) hx hb dX12_narrowed_36 (by decide) ?_
    refine lv_icmp_ne (tgt := 70) hx hb dX12_narrowed_37 (by decide) (fun c => ?_) (fun c => ?_)
    · replace hF := iF c hF
      refine lv_iload_n hx hb dX12_narrowed_70 rfl (lv_at hl 1 rfl) ?_
      refine lv_iconst (v := (3 : Int32)) hx hb dX12_narrowed_71 (by decide) ?_
      refine lv_icmp_ne (tgt := 81) hx hb dX12_narrowed_72 (by decide) (fun c => ?_) (fun c => ?_)
      · replace hF := iF c hF
        refine lv_iload_n hx hb dX12_narrowed_81 rfl (lv_at hl 1 rfl) ?_
        refine lv_iconst (v := (4 : Int32)) hx hb dX12_narrowed_82 (by decide) ?_
        refine lv_icmp_ne (tgt := 116) hx hb dX12_narrowed_83 (by decide) (fun c => ?_) (fun c => ?_)
        · replace hF := iF c hF
          refine lv_lload_n hx hb dX12_narrowed_116 rfl (lv_at hl 0 rfl) ?_
          have hq := Option.some.inj hF
          subst hq
          exact rt_l C X dX12_narrowed_117
        · replace hF := iT c hF
          refine lv_lload_n hx hb dX12_narrowed_86 rfl (lv_at hl 0 rfl) ?_
          refine lv_ldc2 hx hb hown (hts _ q8_152) dX12_narrowed_87 ?_
          refine lv_land hx hb dX12_narrowed_90 ?_
          refine lv_ldc2 hx hb hown (hts _ q8_134) dX12_narrowed_91 ?_
          refine W.lcmp hx hb dX12_narrowed_94 ?_
          refine lv_if_lt (tgt := 110) hx hb dX12_narrowed_95 (by decide) (fun c => ?_) (fun c => ?_)
          · have c := (lg_cmp_lt _ _).mp c
            replace hF := iT c hF
            refine lv_lload_n hx hb dX12_narrowed_110 rfl (lv_at hl 0 rfl) ?_
            refine lv_ldc2 hx hb hown (hts _ q8_152) dX12_narrowed_111 ?_
            refine lv_land hx hb dX12_narrowed_114 ?_
            have hq := Option.some.inj hF
            subst hq
            exact rt_l C X dX12_narrowed_115
          · have c := fun h => c ((lg_cmp_lt _ _).mpr h)
            replace hF := iF c hF
            refine lv_lload_n hx hb dX12_narrowed_98 rfl (lv_at hl 0 rfl) ?_
            refine lv_ldc2 hx hb hown (hts _ q8_152) dX12_narrowed_99 ?_
            refine lv_land hx hb dX12_narrowed_102 ?_
            refine lv_ldc2 hx hb hown (hts _ q8_153) dX12_narrowed_103 ?_
            refine lv_lsub hx hb dX12_narrowed_106 ?_
            refine lv_goto (tgt := 115) hx hb dX12_narrowed_107 (by decide) ?_
            have hq := Option.some.inj hF
            subst hq
            exact rt_l C X dX12_narrowed_115
      · replace hF := iT c hF
        refine lv_lload_n hx hb dX12_narrowed_75 rfl (lv_at hl 0 rfl) ?_
        refine lv_ldc2 hx hb hown (hts _ q8_149) dX12_narrowed_76 ?_
        refine lv_land hx hb dX12_narrowed_79 ?_
        have hq := Option.some.inj hF
        subst hq
        exact rt_l C X dX12_narrowed_80
    · replace hF := iT c hF
      refine lv_lload_n hx hb dX12_narrowed_40 rfl (lv_at hl 0 rfl) ?_
      refine lv_ldc2 hx hb hown (hts _ q8_149) dX12_narrowed_41 ?_
      refine lv_land hx hb dX12_narrowed_44 ?_
      refine lv_ldc2 hx hb hown (hts _ q8_150) dX12_narrowed_45 ?_
      refine W.lcmp hx hb dX12_narrowed_48 ?_
      refine lv_if_lt (tgt := 64) hx hb dX12_narrowed_49 (by decide) (fun c => ?_) (fun c => ?_)
      · have c := (lg_cmp_lt _ _).mp c
        replace hF := iT c hF
        refine lv_lload_n hx hb dX12_narrowed_64 rfl (lv_at hl 0 rfl) ?_
        refine lv_ldc2 hx hb hown (hts _ q8_149) dX12_narrowed_65 ?_
        refine lv_land hx hb dX12_narrowed_68 ?_
        have hq := Option.some.inj hF
        subst hq
        exact rt_l C X dX12_narrowed_69
      · have c := fun h => c ((lg_cmp_lt _ _).mpr h)
        replace hF := iF c hF
        refine lv_lload_n hx hb dX12_narrowed_52 rfl (lv_at hl 0 rfl) ?_
        refine lv_ldc2 hx hb hown (hts _ q8_149) dX12_narrowed_53 ?_
        refine lv_land hx hb dX12_narrowed_56 ?_
        refine lv_ldc2 hx hb hown (hts _ q8_151) dX12_narrowed_57 ?_
        refine lv_lsub hx hb dX12_narrowed_60 ?_
        refine lv_goto (tgt := 69) hx hb dX12_narrowed_61 (by decide) ?_
        have hq := Option.some.inj hF
        subst hq
        exact rt_l C X dX12_narrowed_69
  · replace hF := iT c hF
    refine lv_lload_n hx hb dX12_narrowed_5 rfl (lv_at hl 0 rfl) ?_
    refine lv_ldc2 hx hb hown (hts _ q8_146) dX12_narrowed_6 ?_
    refine lv_land hx hb dX12_narrowed_9 ?_
    refine lv_ldc2 hx hb hown (hts _ q8_147) dX12_narrowed_10 ?_
    refine W.lcmp hx hb dX12_narrowed_13 ?_
    refine lv_if_lt (tgt := 29) hx hb dX12_narrowed_14 (by decide) (fun c => ?_) (fun c => ?_)
    · have c := (lg_cmp_lt _ _).mp c
      replace hF := iT c hF
      refine lv_lload_n hx hb dX12_narrowed_29 rfl (lv_at hl 0 rfl) ?_
      refine lv_ldc2 hx hb hown (hts _ q8_146) dX12_narrowed_30 ?_
      refine lv_land hx hb dX12_narrowed_33 ?_
      have hq := Option.some.inj hF
      subst hq
      exact rt_l C X dX12_narrowed_34
    · have c := fun h => c ((lg_cmp_lt _ _).mpr h)
      replace hF := iF c hF
      refine lv_lload_n hx hb dX12_narrowed_17 rfl (lv_at hl 0 rfl) ?_
      refine lv_ldc2 hx hb hown (hts _ q8_146) dX12_narrowed_18 ?_
      refine lv_land hx hb dX12_narrowed_21 ?_
      refine lv_ldc2 hx hb hown (hts _ q8_148) dX12_narrowed_22 ?_
      refine lv_lsub hx hb dX12_narrowed_25 ?_
      refine lv_goto (tgt := 34) hx hb dX12_narrowed_26 (by decide) ?_
      have hq := Option.some.inj hF
      subst hq
      exact rt_l C X dX12_narrowed_34

/-! ### X12_fromWhole -/
theorem dX12_fromWhole_0 : decode cX12_fromWhole 0 = .ok (.lload_n 0, 1) := by decide +kernel
theorem dX12_fromWhole_1 : decode cX12_fromWhole 1 = .ok (.ldc2_w 428, 3) := by decide +kernel
theorem dX12_fromWhole_4 : decode cX12_fromWhole 4 = .ok (.lcmp, 1) := by decide +kernel
theorem dX12_fromWhole_5 : decode cX12_fromWhole 5 = .ok (.ifCond .ne 12, 3) := by decide +kernel
theorem dX12_fromWhole_8 : decode cX12_fromWhole 8 = .ok (.iconst 1, 1) := by decide +kernel
theorem dX12_fromWhole_9 : decode cX12_fromWhole 9 = .ok (.lconst 1, 1) := by decide +kernel
theorem dX12_fromWhole_10 : decode cX12_fromWhole 10 = .ok (.bipush 63, 2) := by decide +kernel
theorem dX12_fromWhole_12 : decode cX12_fromWhole 12 = .ok (.iload_n 2, 1) := by decide +kernel
theorem dX12_fromWhole_13 : decode cX12_fromWhole 13 = .ok (.invokestatic 458, 3) := by decide +kernel
theorem dX12_fromWhole_16 : decode cX12_fromWhole 16 = .ok (.lreturn, 1) := by decide +kernel
theorem dX12_fromWhole_17 : decode cX12_fromWhole 17 = .ok (.lload_n 0, 1) := by decide +kernel
theorem dX12_fromWhole_18 : decode cX12_fromWhole 18 = .ok (.lconst 0, 1) := by decide +kernel
theorem dX12_fromWhole_19 : decode cX12_fromWhole 19 = .ok (.lcmp, 1) := by decide +kernel
theorem dX12_fromWhole_20 : decode cX12_fromWhole 20 = .ok (.ifCond .ge 7, 3) := by decide +kernel
theorem dX12_fromWhole_23 : decode cX12_fromWhole 23 = .ok (.iconst 1, 1) := by decide +kernel
theorem dX12_fromWhole_24 : decode cX12_fromWhole 24 = .ok (.goto 4, 3) := by decide +kernel
theorem dX12_fromWhole_27 : decode cX12_fromWhole 27 = .ok (.iconst 0, 1) := by decide +kernel
theorem dX12_fromWhole_28 : decode cX12_fromWhole 28 = .ok (.lload_n 0, 1) := by decide +kernel
theorem dX12_fromWhole_29 : decode cX12_fromWhole 29 = .ok (.lconst 0, 1) := by decide +kernel
theorem dX12_fromWhole_30 : decode cX12_fromWhole 30 = .ok (.lcmp, 1) := by decide +kernel
theorem dX12_fromWhole_31 : decode cX12_fromWhole 31 = .ok (.ifCond .ge 8, 3) := by decide +kernel
theorem dX12_fromWhole_34 : decode cX12_fromWhole 34 = .ok (.lload_n 0, 1) := by decide +kernel
theorem dX12_fromWhole_35 : decode cX12_fromWhole 35 = .ok (.lneg, 1) := by decide +kernel
theorem dX12_fromWhole_36 : decode cX12_fromWhole 36 = .ok (.goto 4, 3) := by decide +kernel
theorem dX12_fromWhole_39 : decode cX12_fromWhole 39 = .ok (.lload_n 0, 1) := by decide +kernel
theorem dX12_fromWhole_40 : decode cX12_fromWhole 40 = .ok (.iconst 0, 1) := by decide +kernel
theorem dX12_fromWhole_41 : decode cX12_fromWhole 41 = .ok (.iload_n 2, 1) := by decide +kernel
theorem dX12_fromWhole_42 : decode cX12_fromWhole 42 = .ok (.invokestatic 458, 3) := by decide +kernel
theorem dX12_fromWhole_45 : decode cX12_fromWhole 45 = .ok (.lreturn, 1) := by decide +kernel
abbrev R_X12_fromWhole : Room := ({ frames := 2, cells := 0, slots := 0, locals := 58 } : Room)
def b_X12_fromWhole_40 (n : Nat) (v2 : Int32) (s0 : Int64) (s1 : Int32) : Option (Int64) :=
  bnd (f_X12_made n s1 s0 (0 : Int32) v2) (fun q_1 => some q_1)
def b_X12_fromWhole_28 (n : Nat) (v0 : Int64) (v2 : Int32) (s0 : Int32) : Option (Int64) :=
  if (0 : Int64) ≤ v0 then (b_X12_fromWhole_40 n v2 v0 s0) else (b_X12_fromWhole_40 n v2 (-v0) s0)
def f_X12_fromWhole (n : Nat) (x0 : Int64) (x1 : Int32) : Option (Int64) :=
  if x0 = (-9223372036854775808 : Int64) then (bnd (f_X12_made n (1 : Int32) (1 : Int64) (63 : Int32) x1) (fun q_3 => some q_3)) else (if (0 : Int64) ≤ x0 then (b_X12_fromWhole_28 n x0 x1 (0 : Int32)) else (b_X12_fromWhole_28 n x0 x1 (1 : Int32)))
def S_X12_fromWhole_40 (l : Launch) (D : Dx) (fn : Int32 → Int64 → Int32 → Option (Int64)) : Prop :=
  ∀ {p : Program} {e : Env} {s : State} {m : MethodId} {args : Array Value} {below : List Frame} {meth : Method} {c : Code} {H : Heap} {locs : List Loc} {A : Nat → Prop} {ls : Array Slot} {v2 : Int32} {s0 : Int64} {s1 : Int32} {q : Int64}, Cx p s m args meth c cX12_fromWhole (some .long) 3 RX12 lw_all → Hx D ([]) A s H locs ([]) → lv_has ls 3 [(2, .int v2)] → fn v2 s0 s1 = some q → W p l e R_X12_fromWhole s m args below meth c H locs 0 0 (MQ below (QL D A ([]) q) args s 0 0 A) (F0 m 40 ls [.long s0, .int s1])
def S_X12_fromWhole_28 (l : Launch) (D : Dx) (fn : Int64 → Int32 → Int32 → Option (Int64)) : Prop :=
  ∀ {p : Program} {e : Env} {s : State} {m : MethodId} {args : Array Value} {below : List Frame} {meth : Method} {c : Code} {H : Heap} {locs : List Loc} {A : Nat → Prop} {ls : Array Slot} {v0 : Int64} {v2 : Int32} {s0 : Int32} {q : Int64}, Cx p s m args meth c cX12_fromWhole (some .long) 3 RX12 lw_all → Hx D ([]) A s H locs ([]) → lv_has ls 3 [(0, .long v0), (2, .int v2)] → fn v0 v2 s0 = some q → W p l e R_X12_fromWhole s m args below meth c H locs 0 0 (MQ below (QL D A ([]) q) args s 0 0 A) (F0 m 28 ls [.int s0])
set_option maxHeartbeats 4000000 in
set_option maxRecDepth 100000 in
theorem k_X12_fromWhole_40 (l : Launch) (D : Dx) (n : Nat) : S_X12_fromWhole_40 l D (b_X12_fromWhole_40 n) := by
  intro p e s m args below meth c H locs A ls v2 s0 s1 q C X hl hF
  obtain ⟨hx, hb, hr, hml, hown, hts, hlk⟩ := id C
  unfold b_X12_fromWhole_40 at hF
  refine lv_iconst (v := (0 : Int32)) hx hb dX12_fromWhole_40 (by decide) ?_
  refine lv_iload_n hx hb dX12_fromWhole_41 rfl (lv_at hl 0 rfl) ?_
  obtain ⟨q_1, hc_2, hF⟩ := bnd_some hF
  refine cS_l (As := [.int s1, .long s0, .int (0 : Int32), .int v2]) (rest := []) C X (c_X12_made l D  n s1 s0 (0 : Int32) v2 q_1 hc_2 _) (va_cwS 4 hts (good_S q8_128 q8_129 q1_9 q8_130) rfl rfl rfl (by decide +kernel) ⟨Nat.le_of_ble_eq_true rfl, Nat.le_of_ble_eq_true rfl⟩) (eK X) eP (eD (A := A)) (eF X) hl.1 rfl rfl (Nat.le_of_ble_eq_true rfl) dX12_fromWhole_42 ⟨Nat.le_of_ble_eq_true rfl, Nat.le_of_ble_eq_true rfl⟩ (fun t H1 locs1 ht hB hk hS => ?_)
  have X := Hx_after_none X hk hS
  clear hk hS ht hB
  generalize H1 = H at X ⊢
  generalize locs1 = locs at X ⊢
  have hq := Option.some.inj hF
  subst hq
  exact rt_l C X dX12_fromWhole_45
set_option maxHeartbeats 4000000 in
set_option maxRecDepth 100000 in
theorem k_X12_fromWhole_28 (l : Launch) (D : Dx) (n : Nat) : S_X12_fromWhole_28 l D (b_X12_fromWhole_28 n) := by
  intro p e s m args below meth c H locs A ls v0 v2 s0 q C X hl hF
  obtain ⟨hx, hb, hr, hml, hown, hts, hlk⟩ := id C
  unfold b_X12_fromWhole_28 at hF
  refine lv_lload_n hx hb dX12_fromWhole_28 rfl (lv_at hl 0 rfl) ?_
  refine lv_lconst (v := (0 : Int64)) hx hb dX12_fromWhole_29 (by decide) ?_
  refine W.lcmp hx hb dX12_fromWhole_30 ?_
  refine lv_if_ge (tgt := 39) hx hb dX12_fromWhole_31 (by decide) (fun c => ?_) (fun c => ?_)
  · have c := (lg_cmp_ge _ _).mp c
    replace hF := iT c hF
    refine lv_lload_n hx hb dX12_fromWhole_39 rfl (lv_at hl 0 rfl) ?_
    exact (k_X12_fromWhole_40 l D  n) C X (lv_sub hl [1] rfl) hF
  · have c := fun h => c ((lg_cmp_ge _ _).mpr h)
    replace hF := iF c hF
    refine lv_lload_n hx hb dX12_fromWhole_34 rfl (lv_at hl 0 rfl) ?_
    refine lv_lneg hx hb dX12_fromWhole_35 ?_
    refine lv_goto (tgt := 40) hx hb dX12_fromWhole_36 (by decide) ?_
    exact (k_X12_fromWhole_40 l D  n) C X (lv_sub hl [1] rfl) hF
set_option maxHeartbeats 4000000 in
set_option maxRecDepth 100000 in
theorem c_X12_fromWhole (l : Launch) (D : Dx) (n : Nat) (x0 : Int64) (x1 : Int32) (q : Int64) (hF : f_X12_fromWhole n x0 x1 = some q) (sz : Nat) : Met l yX12_fromWhole (ws_ yX12_fromWhole cX12_fromWhole 3 (some .long)) R_X12_fromWhole (PC D ([]) [.long x0, .int x1] ([]) sz) (QL D (va_A ([]) sz) ([]) q) 0 0 (va_A ([]) sz) := by
  refine Met.ofW (cc := cX12_fromWhole) (maxL := 3) (ret := (some .long)) (by decide) rfl ?_
  intro p e s m args below meth c s₁ B hml hv
  obtain ⟨rfl, hsz, hP, hK, hD, hN⟩ := hv
  subst hsz
  have C : Cx p s m _ meth c cX12_fromWhole (some .long) 3 RX12 lw_all := Cx_of B hml
  have X := Hx_start hP hK hD hN
  obtain ⟨hx, hb, hr, -, hown, hts, hlk⟩ := id C
  generalize va_A ([]) s.heap.size = A at X ⊢
  have hl := lv_entry ([.long x0, .int x1]) (n := 3) (Nat.le_of_ble_eq_true rfl)
  rw [lg_entry_eq]
  generalize (lg_sl ([.long x0, .int x1]) ++ List.replicate (3 - (lg_sl ([.long x0, .int x1])).length) Slot.unset).toArray = ls at hl ⊢
  have hl : lv_has ls 3 [(0, .long x0), (2, .int x1)] := hl
  unfold f_X12_fromWhole at hF
  refine lv_lload_n hx hb dX12_fromWhole_0 rfl (lv_at hl 0 rfl) ?_
  refine lv_ldc2 hx hb hown (hts _ q8_135) dX12_fromWhole_1 ?_
  refine W.lcmp hx hb dX12_fromWhole_4 ?_
  refine lv_if_ne (tgt := 17) hx hb dX12_fromWhole_5 (by decide) (fun c => ?_) (fun c => ?_)
  · have c := fun h => c ((lg_cmp_eq _ _).mpr h)
    replace hF := iF c hF
    refine lv_lload_n hx hb dX12_fromWhole_17 rfl (lv_at hl 0 rfl) ?_
    refine lv_lconst (v := (0 : Int64)) hx hb dX12_fromWhole_18 (by decide) ?_
    refine W.lcmp hx hb dX12_fromWhole_19 ?_
    refine lv_if_ge (tgt := 27) hx hb dX12_fromWhole_20 (by decide) (fun c => ?_) (fun c => ?_)
    · have c := (lg_cmp_ge _ _).mp c
      replace hF := iT c hF
      refine lv_iconst (v := (0 : Int32)) hx hb dX12_fromWhole_27 (by decide) ?_
      exact (k_X12_fromWhole_28 l D  n) C X (lv_sub hl [0, 1] rfl) hF
    · have c := fun h => c ((lg_cmp_ge _ _).mpr h)
      replace hF := iF c hF
      refine lv_iconst (v := (1 : Int32)) hx hb dX12_fromWhole_23 (by decide) ?_
      refine lv_goto (tgt := 28) hx hb dX12_fromWhole_24 (by decide) ?_
      exact (k_X12_fromWhole_28 l D  n) C X (lv_sub hl [0, 1] rfl) hF
  · have c := (lg_cmp_eq _ _).mp c
    replace hF := iT c hF
    refine lv_iconst (v := (1 : Int32)) hx hb dX12_fromWhole_8 (by decide) ?_
    refine lv_lconst (v := (1 : Int64)) hx hb dX12_fromWhole_9 (by decide) ?_
    refine lv_bipush (v := (63 : Int32)) hx hb dX12_fromWhole_10 (by decide) ?_
    refine lv_iload_n hx hb dX12_fromWhole_12 rfl (lv_at hl 1 rfl) ?_
    obtain ⟨q_3, hc_4, hF⟩ := bnd_some hF
    refine cS_l (As := [.int (1 : Int32), .long (1 : Int64), .int (63 : Int32), .int x1]) (rest := []) C X (c_X12_made l D  n (1 : Int32) (1 : Int64) (63 : Int32) x1 q_3 hc_4 _) (va_cwS 4 hts (good_S q8_128 q8_129 q1_9 q8_130) rfl rfl rfl (by decide +kernel) ⟨Nat.le_of_ble_eq_true rfl, Nat.le_of_ble_eq_true rfl⟩) (eK X) eP (eD (A := A)) (eF X) hl.1 rfl rfl (Nat.le_of_ble_eq_true rfl) dX12_fromWhole_13 ⟨Nat.le_of_ble_eq_true rfl, Nat.le_of_ble_eq_true rfl⟩ (fun t H1 locs1 ht hB hk hS => ?_)
    have X := Hx_after_none X hk hS
    clear hk hS ht hB
    generalize H1 = H at X ⊢
    generalize locs1 = locs at X ⊢
    have hq := Option.some.inj hF
    subst hq
    exact rt_l C X dX12_fromWhole_16

/-! ### X12_withoutSign -/
theorem dX12_withoutSign_0 : decode cX12_withoutSign 0 = .ok (.lload_n 0, 1) := by decide +kernel
theorem dX12_withoutSign_1 : decode cX12_withoutSign 1 = .ok (.ldc2_w 424, 3) := by decide +kernel
theorem dX12_withoutSign_4 : decode cX12_withoutSign 4 = .ok (.land, 1) := by decide +kernel
theorem dX12_withoutSign_5 : decode cX12_withoutSign 5 = .ok (.lreturn, 1) := by decide +kernel
abbrev R_X12_withoutSign : Room := ({ frames := 0, cells := 0, slots := 0, locals := 0 } : Room)
def f_X12_withoutSign (x0 : Int64) : Option (Int64) :=
  some (x0 &&& (9223372036854775807 : Int64))
set_option maxHeartbeats 4000000 in
set_option maxRecDepth 100000 in
theorem c_X12_withoutSign (l : Launch) (D : Dx) (x0 : Int64) (q : Int64) (hF : f_X12_withoutSign x0 = some q) (sz : Nat) : Met l yX12_withoutSign (ws_ yX12_withoutSign cX12_withoutSign 2 (some .long)) R_X12_withoutSign (PC D ([]) [.long x0] ([]) sz) (QL D (va_A ([]) sz) ([]) q) 0 0 (va_A ([]) sz) := by
  refine Met.ofW (cc := cX12_withoutSign) (maxL := 2) (ret := (some .long)) (by decide) rfl ?_
  intro p e s m args below meth c s₁ B hml hv
  obtain ⟨rfl, hsz, hP, hK, hD, hN⟩ := hv
  subst hsz
  have C : Cx p s m _ meth c cX12_withoutSign (some .long) 2 RX12 lw_all := Cx_of B hml
  have X := Hx_start hP hK hD hN
  obtain ⟨hx, hb, hr, -, hown, hts, hlk⟩ := id C
  generalize va_A ([]) s.heap.size = A at X ⊢
  have hl := lv_entry ([.long x0]) (n := 2) (Nat.le_of_ble_eq_true rfl)
  rw [lg_entry_eq]
  generalize (lg_sl ([.long x0]) ++ List.replicate (2 - (lg_sl ([.long x0])).length) Slot.unset).toArray = ls at hl ⊢
  have hl : lv_has ls 2 [(0, .long x0)] := hl
  unfold f_X12_withoutSign at hF
  refine lv_lload_n hx hb dX12_withoutSign_0 rfl (lv_at hl 0 rfl) ?_
  refine lv_ldc2 hx hb hown (hts _ q8_99) dX12_withoutSign_1 ?_
  refine lv_land hx hb dX12_withoutSign_4 ?_
  have hq := Option.some.inj hF
  subst hq
  exact rt_l C X dX12_withoutSign_5

/-! ### X12_place -/
theorem dX12_place_0 : decode cX12_place 0 = .ok (.lload_n 0, 1) := by decide +kernel
theorem dX12_place_1 : decode cX12_place 1 = .ok (.lconst 0, 1) := by decide +kernel
theorem dX12_place_2 : decode cX12_place 2 = .ok (.lcmp, 1) := by decide +kernel
theorem dX12_place_3 : decode cX12_place 3 = .ok (.ifCond .ge 11, 3) := by decide +kernel
theorem dX12_place_6 : decode cX12_place 6 = .ok (.lload_n 0, 1) := by decide +kernel
theorem dX12_place_7 : decode cX12_place 7 = .ok (.ldc2_w 424, 3) := by decide +kernel
theorem dX12_place_10 : decode cX12_place 10 = .ok (.lxor, 1) := by decide +kernel
theorem dX12_place_11 : decode cX12_place 11 = .ok (.goto 4, 3) := by decide +kernel
theorem dX12_place_14 : decode cX12_place 14 = .ok (.lload_n 0, 1) := by decide +kernel
theorem dX12_place_15 : decode cX12_place 15 = .ok (.lreturn, 1) := by decide +kernel
abbrev R_X12_place : Room := ({ frames := 0, cells := 0, slots := 0, locals := 0 } : Room)
def f_X12_place (x0 : Int64) : Option (Int64) :=
  if (0 : Int64) ≤ x0 then (some x0) else (some (x0 ^^^ (9223372036854775807 : Int64)))
set_option maxHeartbeats 4000000 in
set_option maxRecDepth 100000 in
theorem c_X12_place (l : Launch) (D : Dx) (x0 : Int64) (q : Int64) (hF : f_X12_place x0 = some q) (sz : Nat) : Met l yX12_place (ws_ yX12_place cX12_place 2 (some .long)) R_X12_place (PC D ([]) [.long x0] ([]) sz) (QL D (va_A ([]) sz) ([]) q) 0 0 (va_A ([]) sz) := by
  refine Met.ofW (cc := cX12_place) (maxL := 2) (ret := (some .long)) (by decide) rfl ?_
  intro p e s m args below meth c s₁ B hml hv
  obtain ⟨rfl, hsz, hP, hK, hD, hN⟩ := hv
  subst hsz
  have C : Cx p s m _ meth c cX12_place (some .long) 2 RX12 lw_all := Cx_of B hml
  have X := Hx_start hP hK hD hN
  obtain ⟨hx, hb, hr, -, hown, hts, hlk⟩ := id C
  generalize va_A ([]) s.heap.size = A at X ⊢
  have hl := lv_entry ([.long x0]) (n := 2) (Nat.le_of_ble_eq_true rfl)
  rw [lg_entry_eq]
  generalize (lg_sl ([.long x0]) ++ List.replicate (2 - (lg_sl ([.long x0])).length) Slot.unset).toArray = ls at hl ⊢
  have hl : lv_has ls 2 [(0, .long x0)] := hl
  unfold f_X12_place at hF
  refine lv_lload_n hx hb dX12_place_0 rfl (lv_at hl 0 rfl) ?_
  refine lv_lconst (v := (0 : Int64)) hx hb dX12_place_1 (by decide) ?_
  refine W.lcmp hx hb dX12_place_2 ?_
  refine lv_if_ge (tgt := 14) hx hb dX12_place_3 (by decide) (fun c => ?_) (fun c => ?_)
  · have c := (lg_cmp_ge _ _).mp c
    replace hF := iT c hF
    refine lv_lload_n hx hb dX12_place_14 rfl (lv_at hl 0 rfl) ?_
    have hq := Option.some.inj hF
    subst hq
    exact rt_l C X dX12_place_15
  · have c := fun h => c ((lg_cmp_ge _ _).mpr h)
    replace hF := iF c hF
    refine lv_lload_n hx hb dX12_place_6 rfl (lv_at hl 0 rfl) ?_
    refine lv_ldc2 hx hb hown (hts _ q8_99) dX12_place_7 ?_
    refine lv_lxor hx hb dX12_place_10 ?_
    refine lv_goto (tgt := 15) hx hb dX12_place_11 (by decide) ?_
    have hq := Option.some.inj hF
    subst hq
    exact rt_l C X dX12_place_15

/-! ### X12_order -/
theorem dX12_order_0 : decode cX12_order 0 = .ok (.lload_n 0, 1) := by decide +kernel
theorem dX12_order_1 : decode cX12_order 1 = .ok (.iconst 1, 1) := by decide +kernel
theorem dX12_order_2 : decode cX12_order 2 = .ok (.lshl, 1) := by decide +kernel
theorem dX12_order_3 : decode cX12_order 3 = .ok (.lconst 0, 1) := by decide +kernel
theorem dX12_order_4 : decode cX12_order 4 = .ok (.lcmp, 1) := by decide +kernel
theorem dX12_order_5 : decode cX12_order 5 = .ok (.ifCond .ne 7, 3) := by decide +kernel
theorem dX12_order_8 : decode cX12_order 8 = .ok (.lconst 0, 1) := by decide +kernel
theorem dX12_order_9 : decode cX12_order 9 = .ok (.goto 4, 3) := by decide +kernel
theorem dX12_order_12 : decode cX12_order 12 = .ok (.lload_n 0, 1) := by decide +kernel
theorem dX12_order_13 : decode cX12_order 13 = .ok (.invokestatic 485, 3) := by decide +kernel
theorem dX12_order_16 : decode cX12_order 16 = .ok (.lstore 4, 2) := by decide +kernel
theorem dX12_order_18 : decode cX12_order 18 = .ok (.lload_n 2, 1) := by decide +kernel
theorem dX12_order_19 : decode cX12_order 19 = .ok (.iconst 1, 1) := by decide +kernel
theorem dX12_order_20 : decode cX12_order 20 = .ok (.lshl, 1) := by decide +kernel
theorem dX12_order_21 : decode cX12_order 21 = .ok (.lconst 0, 1) := by decide +kernel
theorem dX12_order_22 : decode cX12_order 22 = .ok (.lcmp, 1) := by decide +kernel
theorem dX12_order_23 : decode cX12_order 23 = .ok (.ifCond .ne 7, 3) := by decide +kernel
theorem dX12_order_26 : decode cX12_order 26 = .ok (.lconst 0, 1) := by decide +kernel
theorem dX12_order_27 : decode cX12_order 27 = .ok (.goto 4, 3) := by decide +kernel
theorem dX12_order_30 : decode cX12_order 30 = .ok (.lload_n 2, 1) := by decide +kernel
theorem dX12_order_31 : decode cX12_order 31 = .ok (.invokestatic 485, 3) := by decide +kernel
theorem dX12_order_34 : decode cX12_order 34 = .ok (.lstore 6, 2) := by decide +kernel
theorem dX12_order_36 : decode cX12_order 36 = .ok (.lload 4, 2) := by decide +kernel
theorem dX12_order_38 : decode cX12_order 38 = .ok (.lload 6, 2) := by decide +kernel
theorem dX12_order_40 : decode cX12_order 40 = .ok (.lcmp, 1) := by decide +kernel
theorem dX12_order_41 : decode cX12_order 41 = .ok (.ifCond .ge 7, 3) := by decide +kernel
theorem dX12_order_44 : decode cX12_order 44 = .ok (.iconst (-1), 1) := by decide +kernel
theorem dX12_order_45 : decode cX12_order 45 = .ok (.goto 16, 3) := by decide +kernel
theorem dX12_order_48 : decode cX12_order 48 = .ok (.lload 4, 2) := by decide +kernel
theorem dX12_order_50 : decode cX12_order 50 = .ok (.lload 6, 2) := by decide +kernel
theorem dX12_order_52 : decode cX12_order 52 = .ok (.lcmp, 1) := by decide +kernel
theorem dX12_order_53 : decode cX12_order 53 = .ok (.ifCond .le 7, 3) := by decide +kernel
theorem dX12_order_56 : decode cX12_order 56 = .ok (.iconst 1, 1) := by decide +kernel
theorem dX12_order_57 : decode cX12_order 57 = .ok (.goto 4, 3) := by decide +kernel
theorem dX12_order_60 : decode cX12_order 60 = .ok (.iconst 0, 1) := by decide +kernel
theorem dX12_order_61 : decode cX12_order 61 = .ok (.ireturn, 1) := by decide +kernel
abbrev R_X12_order : Room := ({ frames := 1, cells := 0, slots := 0, locals := 21 } : Room)
def b_X12_order_31 (v4 : Int64) (s0 : Int64) : Option (Int32) :=
  bnd (f_X12_place s0) (fun q_3 => if q_3 ≤ v4 then (if v4 ≤ q_3 then (some (0 : Int32)) else (some (1 : Int32))) else (some (-1 : Int32)))
def b_X12_order_13 (v2 : Int64) (s0 : Int64) : Option (Int32) :=
  bnd (f_X12_place s0) (fun q_1 => if (v2 <<< ((1 : Int32).toInt64 &&& 63)) = (0 : Int64) then (b_X12_order_31 q_1 (0 : Int64)) else (b_X12_order_31 q_1 v2))
def f_X12_order (x0 : Int64) (x1 : Int64) : Option (Int32) :=
  if (x0 <<< ((1 : Int32).toInt64 &&& 63)) = (0 : Int64) then (b_X12_order_13 x1 (0 : Int64)) else (b_X12_order_13 x1 x0)
def S_X12_order_31 (l : Launch) (D : Dx) (fn : Int64 → Int64 → Option (Int32)) : Prop :=
  ∀ {p : Program} {e : Env} {s : State} {m : MethodId} {args : Array Value} {below : List Frame} {meth : Method} {c : Code} {H : Heap} {locs : List Loc} {A : Nat → Prop} {ls : Array Slot} {v4 : Int64} {s0 : Int64} {q : Int32}, Cx p s m args meth c cX12_order (some .int) 8 RX12 lw_all → Hx D ([]) A s H locs ([]) → lv_has ls 8 [(4, .long v4)] → fn v4 s0 = some q → W p l e R_X12_order s m args below meth c H locs 0 0 (MQ below (QI D A ([]) q) args s 0 0 A) (F0 m 31 ls [.long s0])
def S_X12_order_13 (l : Launch) (D : Dx) (fn : Int64 → Int64 → Option (Int32)) : Prop :=
  ∀ {p : Program} {e : Env} {s : State} {m : MethodId} {args : Array Value} {below : List Frame} {meth : Method} {c : Code} {H : Heap} {locs : List Loc} {A : Nat → Prop} {ls : Array Slot} {v2 : Int64} {s0 : Int64} {q : Int32}, Cx p s m args meth c cX12_order (some .int) 8 RX12 lw_all → Hx D ([]) A s H locs ([]) → lv_has ls 8 [(2, .long v2)] → fn v2 s0 = some q → W p l e R_X12_order s m args below meth c H locs 0 0 (MQ below (QI D A ([]) q) args s 0 0 A) (F0 m 13 ls [.long s0])
set_option maxHeartbeats 4000000 in
set_option maxRecDepth 100000 in
theorem k_X12_order_31 (l : Launch) (D : Dx) : S_X12_order_31 l D (b_X12_order_31) := by
  intro p e s m args below meth c H locs A ls v4 s0 q C X hl hF
  obtain ⟨hx, hb, hr, hml, hown, hts, hlk⟩ := id C
  unfold b_X12_order_31 at hF
  obtain ⟨q_3, hc_4, hF⟩ := bnd_some hF
  refine cS_l (As := [.long s0]) (rest := []) C X (c_X12_place l D  s0 q_3 hc_4 _) (va_cwS 1 hts (good_S q9_100 q9_101 q1_9 q9_102) rfl rfl rfl (by decide +kernel) ⟨Nat.le_of_ble_eq_true rfl, Nat.le_of_ble_eq_true rfl⟩) (eK X) eP (eD (A := A)) (eF X) hl.1 rfl rfl (Nat.le_of_ble_eq_true rfl) dX12_order_31 ⟨Nat.le_of_ble_eq_true rfl, Nat.le_of_ble_eq_true rfl⟩ (fun t H1 locs1 ht hB hk hS => ?_)
  have X := Hx_after_none X hk hS
  clear hk hS ht hB
  generalize H1 = H at X ⊢
  generalize locs1 = locs at X ⊢
  refine lv_lstore (lv' := [(6, .long q_3), (4, .long v4)]) hx hb dX12_order_34 hl (by decide) rfl (fun ls hl => ?_)
  refine lv_lload hx hb dX12_order_36 (lv_at hl 1 rfl) ?_
  refine lv_lload hx hb dX12_order_38 (lv_at hl 0 rfl) ?_
  refine W.lcmp hx hb dX12_order_40 ?_
  refine lv_if_ge (tgt := 48) hx hb dX12_order_41 (by decide) (fun c => ?_) (fun c => ?_)
  · have c := (lg_cmp_ge _ _).mp c
    replace hF := iT c hF
    refine lv_lload hx hb dX12_order_48 (lv_at hl 1 rfl) ?_
    refine lv_lload hx hb dX12_order_50 (lv_at hl 0 rfl) ?_
    refine W.lcmp hx hb dX12_order_52 ?_
    refine lv_if_le (tgt := 60) hx hb dX12_order_53 (by decide) (fun c => ?_) (fun c => ?_)
    · have c := (lg_cmp_le _ _).mp c
      replace hF := iT c hF
      refine lv_iconst (v := (0 : Int32)) hx hb dX12_order_60 (by decide) ?_
      have hq := Option.some.inj hF
      subst hq
      exact rt_i C X dX12_order_61
    · have c := fun h => c ((lg_cmp_le _ _).mpr h)
      replace hF := iF c hF
      refine lv_iconst (v := (1 : Int32)) hx hb dX12_order_56 (by decide) ?_
      refine lv_goto (tgt := 61) hx hb dX12_order_57 (by decide) ?_
      have hq := Option.some.inj hF
      subst hq
      exact rt_i C X dX12_order_61
  · have c := fun h => c ((lg_cmp_ge _ _).mpr h)
    replace hF := iF c hF
    refine lv_iconst (v := (-1 : Int32)) hx hb dX12_order_44 (by decide) ?_
    refine lv_goto (tgt := 61) hx hb dX12_order_45 (by decide) ?_
    have hq := Option.some.inj hF
    subst hq
    exact rt_i C X dX12_order_61
set_option maxHeartbeats 4000000 in
set_option maxRecDepth 100000 in
theorem k_X12_order_13 (l : Launch) (D : Dx) : S_X12_order_13 l D (b_X12_order_13) := by
  intro p e s m args below meth c H locs A ls v2 s0 q C X hl hF
  obtain ⟨hx, hb, hr, hml, hown, hts, hlk⟩ := id C
  unfold b_X12_order_13 at hF
  obtain ⟨q_1, hc_2, hF⟩ := bnd_some hF
  refine cS_l (As := [.long s0]) (rest := []) C X (c_X12_place l D  s0 q_1 hc_2 _) (va_cwS 1 hts (good_S q9_100 q9_101 q1_9 q9_102) rfl rfl rfl (by decide +kernel) ⟨Nat.le_of_ble_eq_true rfl, Nat.le_of_ble_eq_true rfl⟩) (eK X) eP (eD (A := A)) (eF X) hl.1 rfl rfl (Nat.le_of_ble_eq_true rfl) dX12_order_13 ⟨Nat.le_of_ble_eq_true rfl, Nat.le_of_ble_eq_true rfl⟩ (fun t H1 locs1 ht hB hk hS => ?_)
  have X := Hx_after_none X hk hS
  clear hk hS ht hB
  generalize H1 = H at X ⊢
  generalize locs1 = locs at X ⊢
  refine lv_lstore (lv' := [(4, .long q_1), (2, .long v2)]) hx hb dX12_order_16 hl (by decide) rfl (fun ls hl => ?_)
  refine lv_lload_n hx hb dX12_order_18 rfl (lv_at hl 1 rfl) ?_
  refine lv_iconst (v := (1 : Int32)) hx hb dX12_order_19 (by decide) ?_
  refine lv_lshl hx hb dX12_order_20 rfl ?_
  refine lv_lconst (v := (0 : Int64)) hx hb dX12_order_21 (by decide) ?_
  refine W.lcmp hx hb dX12_order_22 ?_
  refine lv_if_ne (tgt := 30) hx hb dX12_order_23 (by decide) (fun c => ?_) (fun c => ?_)
  · have c := fun h => c ((lg_cmp_eq _ _).mpr h)
    replace hF := iF c hF
    refine lv_lload_n hx hb dX12_order_30 rfl (lv_at hl 1 rfl) ?_
    exact (k_X12_order_31 l D ) C X (lv_sub hl [0] rfl) hF
  · have c := (lg_cmp_eq _ _).mp c
    replace hF := iT c hF
    refine lv_lconst (v := (0 : Int64)) hx hb dX12_order_26 (by decide) ?_
    refine lv_goto (tgt := 31) hx hb dX12_order_27 (by decide) ?_
    exact (k_X12_order_31 l D ) C X (lv_sub hl [0] rfl) hF
set_option maxHeartbeats 4000000 in
set_option maxRecDepth 100000 in
theorem c_X12_order (l : Launch) (D : Dx) (x0 : Int64) (x1 : Int64) (q : Int32) (hF : f_X12_order x0 x1 = some q) (sz : Nat) : Met l yX12_order (ws_ yX12_order cX12_order 8 (some .int)) R_X12_order (PC D ([]) [.long x0, .long x1] ([]) sz) (QI D (va_A ([]) sz) ([]) q) 0 0 (va_A ([]) sz) := by
  refine Met.ofW (cc := cX12_order) (maxL := 8) (ret := (some .int)) (by decide) rfl ?_
  intro p e s m args below meth c s₁ B hml hv
  obtain ⟨rfl, hsz, hP, hK, hD, hN⟩ := hv
  subst hsz
  have C : Cx p s m _ meth c cX12_order (some .int) 8 RX12 lw_all := Cx_of B hml
  have X := Hx_start hP hK hD hN
  obtain ⟨hx, hb, hr, -, hown, hts, hlk⟩ := id C
  generalize va_A ([]) s.heap.size = A at X ⊢
  have hl := lv_entry ([.long x0, .long x1]) (n := 8) (Nat.le_of_ble_eq_true rfl)
  rw [lg_entry_eq]
  generalize (lg_sl ([.long x0, .long x1]) ++ List.replicate (8 - (lg_sl ([.long x0, .long x1])).length) Slot.unset).toArray = ls at hl ⊢
  have hl : lv_has ls 8 [(0, .long x0), (2, .long x1)] := hl
  unfold f_X12_order at hF
  refine lv_lload_n hx hb dX12_order_0 rfl (lv_at hl 0 rfl) ?_
  refine lv_iconst (v := (1 : Int32)) hx hb dX12_order_1 (by decide) ?_
  refine lv_lshl hx hb dX12_order_2 rfl ?_
  refine lv_lconst (v := (0 : Int64)) hx hb dX12_order_3 (by decide) ?_
  refine W.lcmp hx hb dX12_order_4 ?_
  refine lv_if_ne (tgt := 12) hx hb dX12_order_5 (by decide) (fun c => ?_) (fun c => ?_)
  · have c := fun h => c ((lg_cmp_eq _ _).mpr h)
    replace hF := iF c hF
    refine lv_lload_n hx hb dX12_order_12 rfl (lv_at hl 0 rfl) ?_
    exact (k_X12_order_13 l D ) C X (lv_sub hl [1] rfl) hF
  · have c := (lg_cmp_eq _ _).mp c
    replace hF := iT c hF
    refine lv_lconst (v := (0 : Int64)) hx hb dX12_order_8 (by decide) ?_
    refine lv_goto (tgt := 13) hx hb dX12_order_9 (by decide) ?_
    exact (k_X12_order_13 l D ) C X (lv_sub hl [1] rfl) hF

/-! ### X12_isLeap -/
theorem dX12_isLeap_0 : decode cX12_isLeap 0 = .ok (.iload_n 0, 1) := by decide +kernel
theorem dX12_isLeap_1 : decode cX12_isLeap 1 = .ok (.iconst 4, 1) := by decide +kernel
theorem dX12_isLeap_2 : decode cX12_isLeap 2 = .ok (.irem, 1) := by decide +kernel
theorem dX12_isLeap_3 : decode cX12_isLeap 3 = .ok (.ifCond .ne 22, 3) := by decide +kernel
theorem dX12_isLeap_6 : decode cX12_isLeap 6 = .ok (.iload_n 0, 1) := by decide +kernel
theorem dX12_isLeap_7 : decode cX12_isLeap 7 = .ok (.bipush 100, 2) := by decide +kernel
theorem dX12_isLeap_9 : decode cX12_isLeap 9 = .ok (.irem, 1) := by decide +kernel
theorem dX12_isLeap_10 : decode cX12_isLeap 10 = .ok (.ifCond .ne 11, 3) := by decide +kernel
theorem dX12_isLeap_13 : decode cX12_isLeap 13 = .ok (.iload_n 0, 1) := by decide +kernel
theorem dX12_isLeap_14 : decode cX12_isLeap 14 = .ok (.sipush 400, 3) := by decide +kernel
theorem dX12_isLeap_17 : decode cX12_isLeap 17 = .ok (.irem, 1) := by decide +kernel
theorem dX12_isLeap_18 : decode cX12_isLeap 18 = .ok (.ifCond .ne 7, 3) := by decide +kernel
theorem dX12_isLeap_21 : decode cX12_isLeap 21 = .ok (.iconst 1, 1) := by decide +kernel
theorem dX12_isLeap_22 : decode cX12_isLeap 22 = .ok (.goto 4, 3) := by decide +kernel
theorem dX12_isLeap_25 : decode cX12_isLeap 25 = .ok (.iconst 0, 1) := by decide +kernel
theorem dX12_isLeap_26 : decode cX12_isLeap 26 = .ok (.ireturn, 1) := by decide +kernel
abbrev R_X12_isLeap : Room := ({ frames := 0, cells := 0, slots := 0, locals := 0 } : Room)
def f_X12_isLeap (x0 : Int32) : Option (Int32) :=
  if (x0 - x0 / (4 : Int32) * (4 : Int32)) = 0 then (if (x0 - x0 / (100 : Int32) * (100 : Int32)) = 0 then (if (x0 - x0 / (400 : Int32) * (400 : Int32)) = 0 then (some (1 : Int32)) else (some (0 : Int32))) else (some (1 : Int32))) else (some (0 : Int32))
set_option maxHeartbeats 4000000 in
set_option maxRecDepth 100000 in
theorem c_X12_isLeap (l : Launch) (D : Dx) (x0 : Int32) (q : Int32) (hF : f_X12_isLeap x0 = some q) (sz : Nat) : Met l yX12_isLeap (ws_ yX12_isLeap cX12_isLeap 1 (some .boolean)) R_X12_isLeap (PC D ([]) [.int x0] ([]) sz) (QI D (va_A ([]) sz) ([]) q) 0 0 (va_A ([]) sz) := by
  refine Met.ofW (cc := cX12_isLeap) (maxL := 1) (ret := (some .boolean)) (by decide) rfl ?_
  intro p e s m args below meth c s₁ B hml hv
  obtain ⟨rfl, hsz, hP, hK, hD, hN⟩ := hv
  subst hsz
  have C : Cx p s m _ meth c cX12_isLeap (some .boolean) 1 RX12 lw_all := Cx_of B hml
  have X := Hx_start hP hK hD hN
  obtain ⟨hx, hb, hr, -, hown, hts, hlk⟩ := id C
  generalize va_A ([]) s.heap.size = A at X ⊢
  have hl := lv_entry ([.int x0]) (n := 1) (Nat.le_of_ble_eq_true rfl)
  rw [lg_entry_eq]
  generalize (lg_sl ([.int x0]) ++ List.replicate (1 - (lg_sl ([.int x0])).length) Slot.unset).toArray = ls at hl ⊢
  have hl : lv_has ls 1 [(0, .int x0)] := hl
  unfold f_X12_isLeap at hF
  refine lv_iload_n hx hb dX12_isLeap_0 rfl (lv_at hl 0 rfl) ?_
  refine lv_iconst (v := (4 : Int32)) hx hb dX12_isLeap_1 (by decide) ?_
  refine lv_irem hx hb dX12_isLeap_2 (by decide) ?_
  refine lv_if_ne (tgt := 25) hx hb dX12_isLeap_3 (by decide) (fun c => ?_) (fun c => ?_)
  · replace hF := iF c hF
    refine lv_iconst (v := (0 : Int32)) hx hb dX12_isLeap_25 (by decide) ?_
    have hq := Option.some.inj hF
    subst hq
    exact rt_z (v := (0 : Int32)) C X (by decide) dX12_isLeap_26
  · replace hF := iT c hF
    refine lv_iload_n hx hb dX12_isLeap_6 rfl (lv_at hl 0 rfl) ?_
    refine lv_bipush (v := (100 : Int32)) hx hb dX12_isLeap_7 (by decide) ?_
    refine lv_irem hx hb dX12_isLeap_9 (by decide) ?_
    refine lv_if_ne (tgt := 21) hx hb dX12_isLeap_10 (by decide) (fun c => ?_) (fun c => ?_)
    · replace hF := iF c hF
      refine lv_iconst (v := (1 : Int32)) hx hb dX12_isLeap_21 (by decide) ?_
      refine lv_goto (tgt := 26) hx hb dX12_isLeap_22 (by decide) ?_
      have hq := Option.some.inj hF
      subst hq
      exact rt_z (v := (1 : Int32)) C X (by decide) dX12_isLeap_26
    · replace hF := iT c hF
      refine lv_iload_n hx hb dX12_isLeap_13 rfl (lv_at hl 0 rfl) ?_
      refine lv_sipush (v := (400 : Int32)) hx hb dX12_isLeap_14 (by decide) ?_
      refine lv_irem hx hb dX12_isLeap_17 (by decide) ?_
      refine lv_if_ne (tgt := 25) hx hb dX12_isLeap_18 (by decide) (fun c => ?_) (fun c => ?_)
      · replace hF := iF c hF
        refine lv_iconst (v := (0 : Int32)) hx hb dX12_isLeap_25 (by decide) ?_
        have hq := Option.some.inj hF
        subst hq
        exact rt_z (v := (0 : Int32)) C X (by decide) dX12_isLeap_26
      · replace hF := iT c hF
        refine lv_iconst (v := (1 : Int32)) hx hb dX12_isLeap_21 (by decide) ?_
        refine lv_goto (tgt := 26) hx hb dX12_isLeap_22 (by decide) ?_
        have hq := Option.some.inj hF
        subst hq
        exact rt_z (v := (1 : Int32)) C X (by decide) dX12_isLeap_26

/-! ### X12_isAbove -/
theorem dX12_isAbove_0 : decode cX12_isAbove 0 = .ok (.lload_n 0, 1) := by decide +kernel
theorem dX12_isAbove_1 : decode cX12_isAbove 1 = .ok (.lconst 0, 1) := by decide +kernel
theorem dX12_isAbove_2 : decode cX12_isAbove 2 = .ok (.lcmp, 1) := by decide +kernel
theorem dX12_isAbove_3 : decode cX12_isAbove 3 = .ok (.ifCond .le 14, 3) := by decide +kernel
theorem dX12_isAbove_6 : decode cX12_isAbove 6 = .ok (.lload_n 0, 1) := by decide +kernel
theorem dX12_isAbove_7 : decode cX12_isAbove 7 = .ok (.invokestatic 501, 3) := by decide +kernel
theorem dX12_isAbove_10 : decode cX12_isAbove 10 = .ok (.ifCond .eq 7, 3) := by decide +kernel
theorem dX12_isAbove_13 : decode cX12_isAbove 13 = .ok (.iconst 1, 1) := by decide +kernel
theorem dX12_isAbove_14 : decode cX12_isAbove 14 = .ok (.goto 4, 3) := by decide +kernel
theorem dX12_isAbove_17 : decode cX12_isAbove 17 = .ok (.iconst 0, 1) := by decide +kernel
theorem dX12_isAbove_18 : decode cX12_isAbove 18 = .ok (.ireturn, 1) := by decide +kernel
abbrev R_X12_isAbove : Room := ({ frames := 1, cells := 0, slots := 0, locals := 21 } : Room)
def f_X12_isAbove (x0 : Int64) : Option (Int32) :=
  if x0 ≤ (0 : Int64) then (some (0 : Int32)) else (bnd (f_X12_isFinite x0) (fun q_1 => if q_1 = 0 then (some (0 : Int32)) else (some (1 : Int32))))
set_option maxHeartbeats 4000000 in
set_option maxRecDepth 100000 in
theorem c_X12_isAbove (l : Launch) (D : Dx) (x0 : Int64) (q : Int32) (hF : f_X12_isAbove x0 = some q) (sz : Nat) : Met l yX12_isAbove (ws_ yX12_isAbove cX12_isAbove 2 (some .boolean)) R_X12_isAbove (PC D ([]) [.long x0] ([]) sz) (QI D (va_A ([]) sz) ([]) q) 0 0 (va_A ([]) sz) := by
  refine Met.ofW (cc := cX12_isAbove) (maxL := 2) (ret := (some .boolean)) (by decide) rfl ?_
  intro p e s m args below meth c s₁ B hml hv
  obtain ⟨rfl, hsz, hP, hK, hD, hN⟩ := hv
  subst hsz
  have C : Cx p s m _ meth c cX12_isAbove (some .boolean) 2 RX12 lw_all := Cx_of B hml
  have X := Hx_start hP hK hD hN
  obtain ⟨hx, hb, hr, -, hown, hts, hlk⟩ := id C
  generalize va_A ([]) s.heap.size = A at X ⊢
  have hl := lv_entry ([.long x0]) (n := 2) (Nat.le_of_ble_eq_true rfl)
  rw [lg_entry_eq]
  generalize (lg_sl ([.long x0]) ++ List.replicate (2 - (lg_sl ([.long x0])).length) Slot.unset).toArray = ls at hl ⊢
  have hl : lv_has ls 2 [(0, .long x0)] := hl
  unfold f_X12_isAbove at hF
  refine lv_lload_n hx hb dX12_isAbove_0 rfl (lv_at hl 0 rfl) ?_
  refine lv_lconst (v := (0 : Int64)) hx hb dX12_isAbove_1 (by decide) ?_
  refine W.lcmp hx hb dX12_isAbove_2 ?_
  refine lv_if_le (tgt := 17) hx hb dX12_isAbove_3 (by decide) (fun c => ?_) (fun c => ?_)
  · have c := (lg_cmp_le _ _).mp c
    replace hF := iT c hF
    refine lv_iconst (v := (0 : Int32)) hx hb dX12_isAbove_17 (by decide) ?_
    have hq := Option.some.inj hF
    subst hq
    exact rt_z (v := (0 : Int32)) C X (by decide) dX12_isAbove_18
  · have c := fun h => c ((lg_cmp_le _ _).mpr h)
    replace hF := iF c hF
    refine lv_lload_n hx hb dX12_isAbove_6 rfl (lv_at hl 0 rfl) ?_
    obtain ⟨q_1, hc_2, hF⟩ := bnd_some hF
    refine cS_i (As := [.long x0]) (rest := []) C X (c_X12_isFinite l D  x0 q_1 hc_2 _) (va_cwS 1 hts (good_S q9_121 q9_122 q1_9 q9_123) rfl rfl rfl (by decide +kernel) ⟨Nat.le_of_ble_eq_true rfl, Nat.le_of_ble_eq_true rfl⟩) (eK X) eP (eD (A := A)) (eF X) hl.1 rfl rfl (Nat.le_of_ble_eq_true rfl) dX12_isAbove_7 ⟨Nat.le_of_ble_eq_true rfl, Nat.le_of_ble_eq_true rfl⟩ (fun t H1 locs1 ht hB hk hS => ?_)
    have X := Hx_after_none X hk hS
    clear hk hS ht hB
    generalize H1 = H at X ⊢
    generalize locs1 = locs at X ⊢
    refine lv_if_eq (tgt := 17) hx hb dX12_isAbove_10 (by decide) (fun c => ?_) (fun c => ?_)
    · replace hF := iT c hF
      refine lv_iconst (v := (0 : Int32)) hx hb dX12_isAbove_17 (by decide) ?_
      have hq := Option.some.inj hF
      subst hq
      exact rt_z (v := (0 : Int32)) C X (by decide) dX12_isAbove_18
    · replace hF := iF c hF
      refine lv_iconst (v := (1 : Int32)) hx hb dX12_isAbove_13 (by decide) ?_
      refine lv_goto (tgt := 18) hx hb dX12_isAbove_14 (by decide) ?_
      have hq := Option.some.inj hF
      subst hq
      exact rt_z (v := (1 : Int32)) C X (by decide) dX12_isAbove_18

/-! ### X12_isDigit -/
theorem dX12_isDigit_0 : decode cX12_isDigit 0 = .ok (.iload_n 0, 1) := by decide +kernel
theorem dX12_isDigit_1 : decode cX12_isDigit 1 = .ok (.bipush 48, 2) := by decide +kernel
theorem dX12_isDigit_3 : decode cX12_isDigit 3 = .ok (.if_icmp .lt 13, 3) := by decide +kernel
theorem dX12_isDigit_6 : decode cX12_isDigit 6 = .ok (.iload_n 0, 1) := by decide +kernel
theorem dX12_isDigit_7 : decode cX12_isDigit 7 = .ok (.bipush 57, 2) := by decide +kernel
theorem dX12_isDigit_9 : decode cX12_isDigit 9 = .ok (.if_icmp .gt 7, 3) := by decide +kernel
theorem dX12_isDigit_12 : decode cX12_isDigit 12 = .ok (.iconst 1, 1) := by decide +kernel
theorem dX12_isDigit_13 : decode cX12_isDigit 13 = .ok (.goto 4, 3) := by decide +kernel
theorem dX12_isDigit_16 : decode cX12_isDigit 16 = .ok (.iconst 0, 1) := by decide +kernel
theorem dX12_isDigit_17 : decode cX12_isDigit 17 = .ok (.ireturn, 1) := by decide +kernel
abbrev R_X12_isDigit : Room := ({ frames := 0, cells := 0, slots := 0, locals := 0 } : Room)
def f_X12_isDigit (x0 : Int32) : Option (Int32) :=
  if x0 < (48 : Int32) then (some (0 : Int32)) else (if (57 : Int32) < x0 then (some (0 : Int32)) else (some (1 : Int32)))
set_option maxHeartbeats 4000000 in
set_option maxRecDepth 100000 in
theorem c_X12_isDigit (l : Launch) (D : Dx) (x0 : Int32) (q : Int32) (hF : f_X12_isDigit x0 = some q) (sz : Nat) : Met l yX12_isDigit (ws_ yX12_isDigit cX12_isDigit 1 (some .boolean)) R_X12_isDigit (PC D ([]) [.int x0] ([]) sz) (QI D (va_A ([]) sz) ([]) q) 0 0 (va_A ([]) sz) := by
  refine Met.ofW (cc := cX12_isDigit) (maxL := 1) (ret := (some .boolean)) (by decide) rfl ?_
  intro p e s m args below meth c s₁ B hml hv
  obtain ⟨rfl, hsz, hP, hK, hD, hN⟩ := hv
  subst hsz
  have C : Cx p s m _ meth c cX12_isDigit (some .boolean) 1 RX12 lw_all := Cx_of B hml
  have X := Hx_start hP hK hD hN
  obtain ⟨hx, hb, hr, -, hown, hts, hlk⟩ := id C
  generalize va_A ([]) s.heap.size = A at X ⊢
  have hl := lv_entry ([.int x0]) (n := 1) (Nat.le_of_ble_eq_true rfl)
  rw [lg_entry_eq]
  generalize (lg_sl ([.int x0]) ++ List.replicate (1 - (lg_sl ([.int x0])).length) Slot.unset).toArray = ls at hl ⊢
  have hl : lv_has ls 1 [(0, .int x0)] := hl
  unfold f_X12_isDigit at hF
  refine lv_iload_n hx hb dX12_isDigit_0 rfl (lv_at hl 0 rfl) ?_
  refine lv_bipush (v := (48 : Int32)) hx hb dX12_isDigit_1 (by decide) ?_
  refine lv_icmp_lt (tgt := 16) hx hb dX12_isDigit_3 (by decide) (fun c => ?_) (fun c => ?_)
  · replace hF := iT c hF
    refine lv_iconst (v := (0 : Int32)) hx hb dX12_isDigit_16 (by decide) ?_
    have hq := Option.some.inj hF
    subst hq
    exact rt_z (v := (0 : Int32)) C X (by decide) dX12_isDigit_17
  · replace hF := iF c hF
    refine lv_iload_n hx hb dX12_isDigit_6 rfl (lv_at hl 0 rfl) ?_
    refine lv_bipush (v := (57 : Int32)) hx hb dX12_isDigit_7 (by decide) ?_
    refine lv_icmp_gt (tgt := 16) hx hb dX12_isDigit_9 (by decide) (fun c => ?_) (fun c => ?_)
    · replace hF := iT c hF
      refine lv_iconst (v := (0 : Int32)) hx hb dX12_isDigit_16 (by decide) ?_
      have hq := Option.some.inj hF
      subst hq
      exact rt_z (v := (0 : Int32)) C X (by decide) dX12_isDigit_17
    · replace hF := iF c hF
      refine lv_iconst (v := (1 : Int32)) hx hb dX12_isDigit_12 (by decide) ?_
      refine lv_goto (tgt := 17) hx hb dX12_isDigit_13 (by decide) ?_
      have hq := Option.some.inj hF
      subst hq
      exact rt_z (v := (1 : Int32)) C X (by decide) dX12_isDigit_17

/-! ### X12_isLetter -/
theorem dX12_isLetter_0 : decode cX12_isLetter 0 = .ok (.iload_n 0, 1) := by decide +kernel
theorem dX12_isLetter_1 : decode cX12_isLetter 1 = .ok (.bipush 97, 2) := by decide +kernel
theorem dX12_isLetter_3 : decode cX12_isLetter 3 = .ok (.if_icmp .lt 9, 3) := by decide +kernel
theorem dX12_isLetter_6 : decode cX12_isLetter 6 = .ok (.iload_n 0, 1) := by decide +kernel
theorem dX12_isLetter_7 : decode cX12_isLetter 7 = .ok (.bipush 122, 2) := by decide +kernel
theorem dX12_isLetter_9 : decode cX12_isLetter 9 = .ok (.if_icmp .le 15, 3) := by decide +kernel
theorem dX12_isLetter_12 : decode cX12_isLetter 12 = .ok (.iload_n 0, 1) := by decide +kernel
theorem dX12_isLetter_13 : decode cX12_isLetter 13 = .ok (.bipush 65, 2) := by decide +kernel
theorem dX12_isLetter_15 : decode cX12_isLetter 15 = .ok (.if_icmp .lt 13, 3) := by decide +kernel
theorem dX12_isLetter_18 : decode cX12_isLetter 18 = .ok (.iload_n 0, 1) := by decide +kernel
theorem dX12_isLetter_19 : decode cX12_isLetter 19 = .ok (.bipush 90, 2) := by decide +kernel
theorem dX12_isLetter_21 : decode cX12_isLetter 21 = .ok (.if_icmp .gt 7, 3) := by decide +kernel
theorem dX12_isLetter_24 : decode cX12_isLetter 24 = .ok (.iconst 1, 1) := by decide +kernel
theorem dX12_isLetter_25 : decode cX12_isLetter 25 = .ok (.goto 4, 3) := by decide +kernel
theorem dX12_isLetter_28 : decode cX12_isLetter 28 = .ok (.iconst 0, 1) := by decide +kernel
theorem dX12_isLetter_29 : decode cX12_isLetter 29 = .ok (.ireturn, 1) := by decide +kernel
abbrev R_X12_isLetter : Room := ({ frames := 0, cells := 0, slots := 0, locals := 0 } : Room)
def b_X12_isLetter_12 (v0 : Int32) : Option (Int32) :=
  if v0 < (65 : Int32) then (some (0 : Int32)) else (if (90 : Int32) < v0 then (some (0 : Int32)) else (some (1 : Int32)))
def f_X12_isLetter (x0 : Int32) : Option (Int32) :=
  if x0 < (97 : Int32) then (b_X12_isLetter_12 x0) else (if x0 ≤ (122 : Int32) then (some (1 : Int32)) else (b_X12_isLetter_12 x0))
def S_X12_isLetter_12 (l : Launch) (D : Dx) (fn : Int32 → Option (Int32)) : Prop :=
  ∀ {p : Program} {e : Env} {s : State} {m : MethodId} {args : Array Value} {below : List Frame} {meth : Method} {c : Code} {H : Heap} {locs : List Loc} {A : Nat → Prop} {ls : Array Slot} {v0 : Int32} {q : Int32}, Cx p s m args meth c cX12_isLetter (some .boolean) 1 RX12 lw_all → Hx D ([]) A s H locs ([]) → lv_has ls 1 [(0, .int v0)] → fn v0 = some q → W p l e R_X12_isLetter s m args below meth c H locs 0 0 (MQ below (QI D A ([]) q) args s 0 0 A) (F0 m 12 ls [])
set_option maxHeartbeats 4000000 in
set_option maxRecDepth 100000 in
theorem k_X12_isLetter_12 (l : Launch) (D : Dx) : S_X12_isLetter_12 l D (b_X12_isLetter_12) := by
  intro p e s m args below meth c H locs A ls v0 q C X hl hF
  obtain ⟨hx, hb, hr, hml, hown, hts, hlk⟩ := id C
  unfold b_X12_isLetter_12 at hF
  refine lv_iload_n hx hb dX12_isLetter_12 rfl (lv_at hl 0 rfl) ?_
  refine lv_bipush (v := (65 : Int32)) hx hb dX12_isLetter_13 (by decide) ?_
  refine lv_icmp_lt (tgt := 28) hx hb dX12_isLetter_15 (by decide) (fun c => ?_) (fun c => ?_)
  · replace hF := iT c hF
    refine lv_iconst (v := (0 : Int32)) hx hb dX12_isLetter_28 (by decide) ?_
    have hq := Option.some.inj hF
    subst hq
    exact rt_z (v := (0 : Int32)) C X (by decide) dX12_isLetter_29
  · replace hF := iF c hF
    refine lv_iload_n hx hb dX12_isLetter_18 rfl (lv_at hl 0 rfl) ?_
    refine lv_bipush (v := (90 : Int32)) hx hb dX12_isLetter_19 (by decide) ?_
    refine lv_icmp_gt (tgt := 28) hx hb dX12_isLetter_21 (by decide) (fun c => ?_) (fun c => ?_)
    · replace hF := iT c hF
      refine lv_iconst (v := (0 : Int32)) hx hb dX12_isLetter_28 (by decide) ?_
      have hq := Option.some.inj hF
      subst hq
      exact rt_z (v := (0 : Int32)) C X (by decide) dX12_isLetter_29
    · replace hF := iF c hF
      refine lv_iconst (v := (1 : Int32)) hx hb dX12_isLetter_24 (by decide) ?_
      refine lv_goto (tgt := 29) hx hb dX12_isLetter_25 (by decide) ?_
      have hq := Option.some.inj hF
      subst hq
      exact rt_z (v := (1 : Int32)) C X (by decide) dX12_isLetter_29
set_option maxHeartbeats 4000000 in
set_option maxRecDepth 100000 in
theorem c_X12_isLetter (l : Launch) (D : Dx) (x0 : Int32) (q : Int32) (hF : f_X12_isLetter x0 = some q) (sz : Nat) : Met l yX12_isLetter (ws_ yX12_isLetter cX12_isLetter 1 (some .boolean)) R_X12_isLetter (PC D ([]) [.int x0] ([]) sz) (QI D (va_A ([]) sz) ([]) q) 0 0 (va_A ([]) sz) := by
  refine Met.ofW (cc := cX12_isLetter) (maxL := 1) (ret := (some .boolean)) (by decide) rfl ?_
  intro p e s m args below meth c s₁ B hml hv
  obtain ⟨rfl, hsz, hP, hK, hD, hN⟩ := hv
  subst hsz
  have C : Cx p s m _ meth c cX12_isLetter (some .boolean) 1 RX12 lw_all := Cx_of B hml
  have X := Hx_start hP hK hD hN
  obtain ⟨hx, hb, hr, -, hown, hts, hlk⟩ := id C
  generalize va_A ([]) s.heap.size = A at X ⊢
  have hl := lv_entry ([.int x0]) (n := 1) (Nat.le_of_ble_eq_true rfl)
  rw [lg_entry_eq]
  generalize (lg_sl ([.int x0]) ++ List.replicate (1 - (lg_sl ([.int x0])).length) Slot.unset).toArray = ls at hl ⊢
  have hl : lv_has ls 1 [(0, .int x0)] := hl
  unfold f_X12_isLetter at hF
  refine lv_iload_n hx hb dX12_isLetter_0 rfl (lv_at hl 0 rfl) ?_
  refine lv_bipush (v := (97 : Int32)) hx hb dX12_isLetter_1 (by decide) ?_
  refine lv_icmp_lt (tgt := 12) hx hb dX12_isLetter_3 (by decide) (fun c => ?_) (fun c => ?_)
  · replace hF := iT c hF
    exact (k_X12_isLetter_12 l D ) C X (lv_sub hl [0] rfl) hF
  · replace hF := iF c hF
    refine lv_iload_n hx hb dX12_isLetter_6 rfl (lv_at hl 0 rfl) ?_
    refine lv_bipush (v := (122 : Int32)) hx hb dX12_isLetter_7 (by decide) ?_
    refine lv_icmp_le (tgt := 24) hx hb dX12_isLetter_9 (by decide) (fun c => ?_) (fun c => ?_)
    · replace hF := iT c hF
      refine lv_iconst (v := (1 : Int32)) hx hb dX12_isLetter_24 (by decide) ?_
      refine lv_goto (tgt := 29) hx hb dX12_isLetter_25 (by decide) ?_
      have hq := Option.some.inj hF
      subst hq
      exact rt_z (v := (1 : Int32)) C X (by decide) dX12_isLetter_29
    · replace hF := iF c hF
      exact (k_X12_isLetter_12 l D ) C X (lv_sub hl [0] rfl) hF

/-! ### X12_isSort -/
theorem dX12_isSort_0 : decode cX12_isSort 0 = .ok (.iload_n 0, 1) := by decide +kernel
theorem dX12_isSort_1 : decode cX12_isSort 1 = .ok (.sipush 218, 3) := by decide +kernel
theorem dX12_isSort_4 : decode cX12_isSort 4 = .ok (.if_icmp .lt 14, 3) := by decide +kernel
theorem dX12_isSort_7 : decode cX12_isSort 7 = .ok (.iload_n 0, 1) := by decide +kernel
theorem dX12_isSort_8 : decode cX12_isSort 8 = .ok (.sipush 225, 3) := by decide +kernel
theorem dX12_isSort_11 : decode cX12_isSort 11 = .ok (.if_icmp .gt 7, 3) := by decide +kernel
theorem dX12_isSort_14 : decode cX12_isSort 14 = .ok (.iconst 1, 1) := by decide +kernel
theorem dX12_isSort_15 : decode cX12_isSort 15 = .ok (.goto 4, 3) := by decide +kernel
theorem dX12_isSort_18 : decode cX12_isSort 18 = .ok (.iconst 0, 1) := by decide +kernel
theorem dX12_isSort_19 : decode cX12_isSort 19 = .ok (.ireturn, 1) := by decide +kernel
abbrev R_X12_isSort : Room := ({ frames := 0, cells := 0, slots := 0, locals := 0 } : Room)
def f_X12_isSort (x0 : Int32) : Option (Int32) :=
  if x0 < (218 : Int32) then (some (0 : Int32)) else (if (225 : Int32) < x0 then (some (0 : Int32)) else (some (1 : Int32)))
set_option maxHeartbeats 4000000 in
set_option maxRecDepth 100000 in
theorem c_X12_isSort (l : Launch) (D : Dx) (x0 : Int32) (q : Int32) (hF : f_X12_isSort x0 = some q) (sz : Nat) : Met l yX12_isSort (ws_ yX12_isSort cX12_isSort 1 (some .boolean)) R_X12_isSort (PC D ([]) [.int x0] ([]) sz) (QI D (va_A ([]) sz) ([]) q) 0 0 (va_A ([]) sz) := by
  refine Met.ofW (cc := cX12_isSort) (maxL := 1) (ret := (some .boolean)) (by decide) rfl ?_
  intro p e s m args below meth c s₁ B hml hv
  obtain ⟨rfl, hsz, hP, hK, hD, hN⟩ := hv
  subst hsz
  have C : Cx p s m _ meth c cX12_isSort (some .boolean) 1 RX12 lw_all := Cx_of B hml
  have X := Hx_start hP hK hD hN
  obtain ⟨hx, hb, hr, -, hown, hts, hlk⟩ := id C
  generalize va_A ([]) s.heap.size = A at X ⊢
  have hl := lv_entry ([.int x0]) (n := 1) (Nat.le_of_ble_eq_true rfl)
  rw [lg_entry_eq]
  generalize (lg_sl ([.int x0]) ++ List.replicate (1 - (lg_sl ([.int x0])).length) Slot.unset).toArray = ls at hl ⊢
  have hl : lv_has ls 1 [(0, .int x0)] := hl
  unfold f_X12_isSort at hF
  refine lv_iload_n hx hb dX12_isSort_0 rfl (lv_at hl 0 rfl) ?_
  refine lv_sipush (v := (218 : Int32)) hx hb dX12_isSort_1 (by decide) ?_
  refine lv_icmp_lt (tgt := 18) hx hb dX12_isSort_4 (by decide) (fun c => ?_) (fun c => ?_)
  · replace hF := iT c hF
    refine lv_iconst (v := (0 : Int32)) hx hb dX12_isSort_18 (by decide) ?_
    have hq := Option.some.inj hF
    subst hq
    exact rt_z (v := (0 : Int32)) C X (by decide) dX12_isSort_19
  · replace hF := iF c hF
    refine lv_iload_n hx hb dX12_isSort_7 rfl (lv_at hl 0 rfl) ?_
    refine lv_sipush (v := (225 : Int32)) hx hb dX12_isSort_8 (by decide) ?_
    refine lv_icmp_gt (tgt := 18) hx hb dX12_isSort_11 (by decide) (fun c => ?_) (fun c => ?_)
    · replace hF := iT c hF
      refine lv_iconst (v := (0 : Int32)) hx hb dX12_isSort_18 (by decide) ?_
      have hq := Option.some.inj hF
      subst hq
      exact rt_z (v := (0 : Int32)) C X (by decide) dX12_isSort_19
    · replace hF := iF c hF
      refine lv_iconst (v := (1 : Int32)) hx hb dX12_isSort_14 (by decide) ?_
      refine lv_goto (tgt := 19) hx hb dX12_isSort_15 (by decide) ?_
      have hq := Option.some.inj hF
      subst hq
      exact rt_z (v := (1 : Int32)) C X (by decide) dX12_isSort_19

/-! ### X12_isNumber -/
theorem dX12_isNumber_0 : decode cX12_isNumber 0 = .ok (.iload_n 0, 1) := by decide +kernel
theorem dX12_isNumber_1 : decode cX12_isNumber 1 = .ok (.ifCond .eq 7, 3) := by decide +kernel
theorem dX12_isNumber_4 : decode cX12_isNumber 4 = .ok (.iconst 1, 1) := by decide +kernel
theorem dX12_isNumber_5 : decode cX12_isNumber 5 = .ok (.goto 4, 3) := by decide +kernel
theorem dX12_isNumber_8 : decode cX12_isNumber 8 = .ok (.iconst 0, 1) := by decide +kernel
theorem dX12_isNumber_9 : decode cX12_isNumber 9 = .ok (.ireturn, 1) := by decide +kernel
abbrev R_X12_isNumber : Room := ({ frames := 0, cells := 0, slots := 0, locals := 0 } : Room)
def f_X12_isNumber (x0 : Int32) : Option (Int32) :=
  if x0 = 0 then (some (0 : Int32)) else (some (1 : Int32))
set_option maxHeartbeats 4000000 in
set_option maxRecDepth 100000 in
theorem c_X12_isNumber (l : Launch) (D : Dx) (x0 : Int32) (q : Int32) (hF : f_X12_isNumber x0 = some q) (sz : Nat) : Met l yX12_isNumber (ws_ yX12_isNumber cX12_isNumber 1 (some .boolean)) R_X12_isNumber (PC D ([]) [.int x0] ([]) sz) (QI D (va_A ([]) sz) ([]) q) 0 0 (va_A ([]) sz) := by
  refine Met.ofW (cc := cX12_isNumber) (maxL := 1) (ret := (some .boolean)) (by decide) rfl ?_
  intro p e s m args below meth c s₁ B hml hv
  obtain ⟨rfl, hsz, hP, hK, hD, hN⟩ := hv
  subst hsz
  have C : Cx p s m _ meth c cX12_isNumber (some .boolean) 1 RX12 lw_all := Cx_of B hml
  have X := Hx_start hP hK hD hN
  obtain ⟨hx, hb, hr, -, hown, hts, hlk⟩ := id C
  generalize va_A ([]) s.heap.size = A at X ⊢
  have hl := lv_entry ([.int x0]) (n := 1) (Nat.le_of_ble_eq_true rfl)
  rw [lg_entry_eq]
  generalize (lg_sl ([.int x0]) ++ List.replicate (1 - (lg_sl ([.int x0])).length) Slot.unset).toArray = ls at hl ⊢
  have hl : lv_has ls 1 [(0, .int x0)] := hl
  unfold f_X12_isNumber at hF
  refine lv_iload_n hx hb dX12_isNumber_0 rfl (lv_at hl 0 rfl) ?_
  refine lv_if_eq (tgt := 8) hx hb dX12_isNumber_1 (by decide) (fun c => ?_) (fun c => ?_)
  · replace hF := iT c hF
    refine lv_iconst (v := (0 : Int32)) hx hb dX12_isNumber_8 (by decide) ?_
    have hq := Option.some.inj hF
    subst hq
    exact rt_z (v := (0 : Int32)) C X (by decide) dX12_isNumber_9
  · replace hF := iF c hF
    refine lv_iconst (v := (1 : Int32)) hx hb dX12_isNumber_4 (by decide) ?_
    refine lv_goto (tgt := 9) hx hb dX12_isNumber_5 (by decide) ?_
    have hq := Option.some.inj hF
    subst hq
    exact rt_z (v := (1 : Int32)) C X (by decide) dX12_isNumber_9

/-! ### X12_joined -/
theorem dX12_joined_0 : decode cX12_joined 0 = .ok (.iload_n 0, 1) := by decide +kernel
theorem dX12_joined_1 : decode cX12_joined 1 = .ok (.bipush 7, 2) := by decide +kernel
theorem dX12_joined_3 : decode cX12_joined 3 = .ok (.if_icmp .eq 9, 3) := by decide +kernel
theorem dX12_joined_6 : decode cX12_joined 6 = .ok (.iload_n 1, 1) := by decide +kernel
theorem dX12_joined_7 : decode cX12_joined 7 = .ok (.bipush 7, 2) := by decide +kernel
theorem dX12_joined_9 : decode cX12_joined 9 = .ok (.if_icmp .ne 6, 3) := by decide +kernel
theorem dX12_joined_12 : decode cX12_joined 12 = .ok (.bipush 7, 2) := by decide +kernel
theorem dX12_joined_14 : decode cX12_joined 14 = .ok (.ireturn, 1) := by decide +kernel
theorem dX12_joined_15 : decode cX12_joined 15 = .ok (.iload_n 0, 1) := by decide +kernel
theorem dX12_joined_16 : decode cX12_joined 16 = .ok (.bipush 6, 2) := by decide +kernel
theorem dX12_joined_18 : decode cX12_joined 18 = .ok (.if_icmp .eq 9, 3) := by decide +kernel
theorem dX12_joined_21 : decode cX12_joined 21 = .ok (.iload_n 1, 1) := by decide +kernel
theorem dX12_joined_22 : decode cX12_joined 22 = .ok (.bipush 6, 2) := by decide +kernel
theorem dX12_joined_24 : decode cX12_joined 24 = .ok (.if_icmp .ne 6, 3) := by decide +kernel
theorem dX12_joined_27 : decode cX12_joined 27 = .ok (.bipush 6, 2) := by decide +kernel
theorem dX12_joined_29 : decode cX12_joined 29 = .ok (.ireturn, 1) := by decide +kernel
theorem dX12_joined_30 : decode cX12_joined 30 = .ok (.iload_n 0, 1) := by decide +kernel
theorem dX12_joined_31 : decode cX12_joined 31 = .ok (.iconst 5, 1) := by decide +kernel
theorem dX12_joined_32 : decode cX12_joined 32 = .ok (.if_icmp .eq 8, 3) := by decide +kernel
theorem dX12_joined_35 : decode cX12_joined 35 = .ok (.iload_n 1, 1) := by decide +kernel
theorem dX12_joined_36 : decode cX12_joined 36 = .ok (.iconst 5, 1) := by decide +kernel
theorem dX12_joined_37 : decode cX12_joined 37 = .ok (.if_icmp .ne 5, 3) := by decide +kernel
theorem dX12_joined_40 : decode cX12_joined 40 = .ok (.iconst 5, 1) := by decide +kernel
theorem dX12_joined_41 : decode cX12_joined 41 = .ok (.ireturn, 1) := by decide +kernel
theorem dX12_joined_42 : decode cX12_joined 42 = .ok (.iconst 4, 1) := by decide +kernel
theorem dX12_joined_43 : decode cX12_joined 43 = .ok (.ireturn, 1) := by decide +kernel
abbrev R_X12_joined : Room := ({ frames := 0, cells := 0, slots := 0, locals := 0 } : Room)
def f_X12_joined (x0 : Int32) (x1 : Int32) : Option (Int32) :=
  if x0 = (7 : Int32) then (some (7 : Int32)) else (if x1 = (7 : Int32) then (some (7 : Int32)) else (if x0 = (6 : Int32) then (some (6 : Int32)) else (if x1 = (6 : Int32) then (some (6 : Int32)) else (if x0 = (5 : Int32) then (some (5 : Int32)) else (if x1 = (5 : Int32) then (some (5 : Int32)) else (some (4 : Int32)))))))
set_option maxHeartbeats 4000000 in
set_option maxRecDepth 100000 in
theorem c_X12_joined (l : Launch) (D : Dx) (x0 : Int32) (x1 : Int32) (q : Int32) (hF : f_X12_joined x0 x1 = some q) (sz : Nat) : Met l yX12_joined (ws_ yX12_joined cX12_joined 2 (some .int)) R_X12_joined (PC D ([]) [.int x0, .int x1] ([]) sz) (QI D (va_A ([]) sz) ([]) q) 0 0 (va_A ([]) sz) := by
  refine Met.ofW (cc := cX12_joined) (maxL := 2) (ret := (some .int)) (by decide) rfl ?_
  intro p e s m args below meth c s₁ B hml hv
  obtain ⟨rfl, hsz, hP, hK, hD, hN⟩ := hv
  subst hsz
  have C : Cx p s m _ meth c cX12_joined (some .int) 2 RX12 lw_all := Cx_of B hml
  have X := Hx_start hP hK hD hN
  obtain ⟨hx, hb, hr, -, hown, hts, hlk⟩ := id C
  generalize va_A ([]) s.heap.size = A at X ⊢
  have hl := lv_entry ([.int x0, .int x1]) (n := 2) (Nat.le_of_ble_eq_true rfl)
  rw [lg_entry_eq]
  generalize (lg_sl ([.int x0, .int x1]) ++ List.replicate (2 - (lg_sl ([.int x0, .int x1])).length) Slot.unset).toArray = ls at hl ⊢
  have hl : lv_has ls 2 [(0, .int x0), (1, .int x1)] := hl
  unfold f_X12_joined at hF
  refine lv_iload_n hx hb dX12_joined_0 rfl (lv_at hl 0 rfl) ?_
  refine lv_bipush (v := (7 : Int32)) hx hb dX12_joined_1 (by decide) ?_
  refine lv_icmp_eq (tgt := 12) hx hb dX12_joined_3 (by decide) (fun c => ?_) (fun c => ?_)
  · replace hF := iT c hF
    refine lv_bipush (v := (7 : Int32)) hx hb dX12_joined_12 (by decide) ?_
    have hq := Option.some.inj hF
    subst hq
    exact rt_i C X dX12_joined_14
  · replace hF := iF c hF
    refine lv_iload_n hx hb dX12_joined_6 rfl (lv_at hl 1 rfl) ?_
    refine lv_bipush (v := (7 : Int32)) hx hb dX12_joined_7 (by decide) ?_
    refine lv_icmp_ne (tgt := 15) hx hb dX12_joined_9 (by decide) (fun c => ?_) (fun c => ?_)
    · replace hF := iF c hF
      refine lv_iload_n hx hb dX12_joined_15 rfl (lv_at hl 0 rfl) ?_
      refine lv_bipush (v := (6 : Int32)) hx hb dX12_joined_16 (by decide) ?_
      refine lv_icmp_eq (tgt := 27) hx hb dX12_joined_18 (by decide) (fun c => ?_) (fun c => ?_)
      · replace hF := iT c hF
        refine lv_bipush (v := (6 : Int32)) hx hb dX12_joined_27 (by decide) ?_
        have hq := Option.some.inj hF
        subst hq
        exact rt_i C X dX12_joined_29
      · replace hF := iF c hF
        refine lv_iload_n hx hb dX12_joined_21 rfl (lv_at hl 1 rfl) ?_
        refine lv_bipush (v := (6 : Int32)) hx hb dX12_joined_22 (by decide) ?_
        refine lv_icmp_ne (tgt := 30) hx hb dX12_joined_24 (by decide) (fun c => ?_) (fun c => ?_)
        · replace hF := iF c hF
          refine lv_iload_n hx hb dX12_joined_30 rfl (lv_at hl 0 rfl) ?_
          refine lv_iconst (v := (5 : Int32)) hx hb dX12_joined_31 (by decide) ?_
          refine lv_icmp_eq (tgt := 40) hx hb dX12_joined_32 (by decide) (fun c => ?_) (fun c => ?_)
          · replace hF := iT c hF
            refine lv_iconst (v := (5 : Int32)) hx hb dX12_joined_40 (by decide) ?_
            have hq := Option.some.inj hF
            subst hq
            exact rt_i C X dX12_joined_41
          · replace hF := iF c hF
            refine lv_iload_n hx hb dX12_joined_35 rfl (lv_at hl 1 rfl) ?_
            refine lv_iconst (v := (5 : Int32)) hx hb dX12_joined_36 (by decide) ?_
            refine lv_icmp_ne (tgt := 42) hx hb dX12_joined_37 (by decide) (fun c => ?_) (fun c => ?_)
            · replace hF := iF c hF
              refine lv_iconst (v := (4 : Int32)) hx hb dX12_joined_42 (by decide) ?_
              have hq := Option.some.inj hF
              subst hq
              exact rt_i C X dX12_joined_43
            · replace hF := iT c hF
              refine lv_iconst (v := (5 : Int32)) hx hb dX12_joined_40 (by decide) ?_
              have hq := Option.some.inj hF
              subst hq
              exact rt_i C X dX12_joined_41
        · replace hF := iT c hF
          refine lv_bipush (v := (6 : Int32)) hx hb dX12_joined_27 (by decide) ?_
          have hq := Option.some.inj hF
          subst hq
          exact rt_i C X dX12_joined_29
    · replace hF := iT c hF
      refine lv_bipush (v := (7 : Int32)) hx hb dX12_joined_12 (by decide) ?_
      have hq := Option.some.inj hF
      subst hq
      exact rt_i C X dX12_joined_14

/-! ### X12_comes -/
theorem dX12_comes_0 : decode cX12_comes 0 = .ok (.iload_n 0, 1) := by decide +kernel
theorem dX12_comes_1 : decode cX12_comes 1 = .ok (.iload_n 1, 1) := by decide +kernel
theorem dX12_comes_2 : decode cX12_comes 2 = .ok (.if_icmp .ne 5, 3) := by decide +kernel
theorem dX12_comes_5 : decode cX12_comes 5 = .ok (.iconst 1, 1) := by decide +kernel
theorem dX12_comes_6 : decode cX12_comes 6 = .ok (.ireturn, 1) := by decide +kernel
theorem dX12_comes_7 : decode cX12_comes 7 = .ok (.iload_n 0, 1) := by decide +kernel
theorem dX12_comes_8 : decode cX12_comes 8 = .ok (.ifCond .eq 7, 3) := by decide +kernel
theorem dX12_comes_11 : decode cX12_comes 11 = .ok (.iload_n 1, 1) := by decide +kernel
theorem dX12_comes_12 : decode cX12_comes 12 = .ok (.ifCond .ne 5, 3) := by decide +kernel
theorem dX12_comes_15 : decode cX12_comes 15 = .ok (.iconst 0, 1) := by decide +kernel
theorem dX12_comes_16 : decode cX12_comes 16 = .ok (.ireturn, 1) := by decide +kernel
theorem dX12_comes_17 : decode cX12_comes 17 = .ok (.iload_n 1, 1) := by decide +kernel
theorem dX12_comes_18 : decode cX12_comes 18 = .ok (.invokestatic 462, 3) := by decide +kernel
theorem dX12_comes_21 : decode cX12_comes 21 = .ok (.ifCond .eq 15, 3) := by decide +kernel
theorem dX12_comes_24 : decode cX12_comes 24 = .ok (.iload_n 0, 1) := by decide +kernel
theorem dX12_comes_25 : decode cX12_comes 25 = .ok (.bipush 7, 2) := by decide +kernel
theorem dX12_comes_27 : decode cX12_comes 27 = .ok (.if_icmp .eq 7, 3) := by decide +kernel
theorem dX12_comes_30 : decode cX12_comes 30 = .ok (.iconst 1, 1) := by decide +kernel
theorem dX12_comes_31 : decode cX12_comes 31 = .ok (.goto 4, 3) := by decide +kernel
theorem dX12_comes_34 : decode cX12_comes 34 = .ok (.iconst 0, 1) := by decide +kernel
theorem dX12_comes_35 : decode cX12_comes 35 = .ok (.ireturn, 1) := by decide +kernel
theorem dX12_comes_36 : decode cX12_comes 36 = .ok (.iload_n 0, 1) := by decide +kernel
theorem dX12_comes_37 : decode cX12_comes 37 = .ok (.invokestatic 462, 3) := by decide +kernel
theorem dX12_comes_40 : decode cX12_comes 40 = .ok (.ifCond .eq 5, 3) := by decide +kernel
theorem dX12_comes_43 : decode cX12_comes 43 = .ok (.iconst 0, 1) := by decide +kernel
theorem dX12_comes_44 : decode cX12_comes 44 = .ok (.ireturn, 1) := by decide +kernel
theorem dX12_comes_45 : decode cX12_comes 45 = .ok (.iload_n 1, 1) := by decide +kernel
theorem dX12_comes_46 : decode cX12_comes 46 = .ok (.iconst 2, 1) := by decide +kernel
theorem dX12_comes_47 : decode cX12_comes 47 = .ok (.if_icmp .ne 14, 3) := by decide +kernel
theorem dX12_comes_50 : decode cX12_comes 50 = .ok (.iload_n 0, 1) := by decide +kernel
theorem dX12_comes_51 : decode cX12_comes 51 = .ok (.iconst 1, 1) := by decide +kernel
theorem dX12_comes_52 : decode cX12_comes 52 = .ok (.if_icmp .ne 7, 3) := by decide +kernel
theorem dX12_comes_55 : decode cX12_comes 55 = .ok (.iconst 1, 1) := by decide +kernel
theorem dX12_comes_56 : decode cX12_comes 56 = .ok (.goto 4, 3) := by decide +kernel
theorem dX12_comes_59 : decode cX12_comes 59 = .ok (.iconst 0, 1) := by decide +kernel
theorem dX12_comes_60 : decode cX12_comes 60 = .ok (.ireturn, 1) := by decide +kernel
theorem dX12_comes_61 : decode cX12_comes 61 = .ok (.iload_n 1, 1) := by decide +kernel
theorem dX12_comes_62 : decode cX12_comes 62 = .ok (.iconst 4, 1) := by decide +kernel
theorem dX12_comes_63 : decode cX12_comes 63 = .ok (.if_icmp .ne 14, 3) := by decide +kernel
theorem dX12_comes_66 : decode cX12_comes 66 = .ok (.iload_n 0, 1) := by decide +kernel
theorem dX12_comes_67 : decode cX12_comes 67 = .ok (.iconst 4, 1) := by decide +kernel
theorem dX12_comes_68 : decode cX12_comes 68 = .ok (.if_icmp .ge 7, 3) := by decide +kernel
theorem dX12_comes_71 : decode cX12_comes 71 = .ok (.iconst 1, 1) := by decide +kernel
theorem dX12_comes_72 : decode cX12_comes 72 = .ok (.goto 4, 3) := by decide +kernel
theorem dX12_comes_75 : decode cX12_comes 75 = .ok (.iconst 0, 1) := by decide +kernel
theorem dX12_comes_76 : decode cX12_comes 76 = .ok (.ireturn, 1) := by decide +kernel
theorem dX12_comes_77 : decode cX12_comes 77 = .ok (.iload_n 1, 1) := by decide +kernel
theorem dX12_comes_78 : decode cX12_comes 78 = .ok (.iconst 5, 1) := by decide +kernel
theorem dX12_comes_79 : decode cX12_comes 79 = .ok (.if_icmp .ne 7, 3) := by decide +kernel
theorem dX12_comes_82 : decode cX12_comes 82 = .ok (.iconst 1, 1) := by decide +kernel
theorem dX12_comes_83 : decode cX12_comes 83 = .ok (.goto 4, 3) := by decide +kernel
theorem dX12_comes_86 : decode cX12_comes 86 = .ok (.iconst 0, 1) := by decide +kernel
theorem dX12_comes_87 : decode cX12_comes 87 = .ok (.ireturn, 1) := by decide +kernel
abbrev R_X12_comes : Room := ({ frames := 1, cells := 0, slots := 0, locals := 20 } : Room)
def f_X12_comes (x0 : Int32) (x1 : Int32) : Option (Int32) :=
  if x0 = x1 then (some (1 : Int32)) else (if x0 = 0 then (some (0 : Int32)) else (if x1 = 0 then (some (0 : Int32)) else (bnd (f_X12_isReal x1) (fun q_1 => if q_1 = 0 then (bnd (f_X12_isReal x0) (fun q_3 => if q_3 = 0 then (if x1 = (2 : Int32) then (if x0 = (1 : Int32) then (some (1 : Int32)) else (some (0 : Int32))) else (if x1 = (4 : Int32) then (if (4 : Int32) ≤ x0 then (some (0 : Int32)) else (some (1 : Int32))) else (if x1 = (5 : Int32) then (some (1 : Int32)) else (some (0 : Int32))))) else (some (0 : Int32)))) else (if x0 = (7 : Int32) then (some (0 : Int32)) else (some (1 : Int32)))))))
set_option maxHeartbeats 4000000 in
set_option maxRecDepth 100000 in
theorem c_X12_comes (l : Launch) (D : Dx) (x0 : Int32) (x1 : Int32) (q : Int32) (hF : f_X12_comes x0 x1 = some q) (sz : Nat) : Met l yX12_comes (ws_ yX12_comes cX12_comes 2 (some .boolean)) R_X12_comes (PC D ([]) [.int x0, .int x1] ([]) sz) (QI D (va_A ([]) sz) ([]) q) 0 0 (va_A ([]) sz) := by
  refine Met.ofW (cc := cX12_comes) (maxL := 2) (ret := (some .boolean)) (by decide) rfl ?_
  intro p e s m args below meth c s₁ B hml hv
  obtain ⟨rfl, hsz, hP, hK, hD, hN⟩ := hv
  subst hsz
  have C : Cx p s m _ meth c cX12_comes (some .boolean) 2 RX12 lw_all := Cx_of B hml
  have X := Hx_start hP hK hD hN
  obtain ⟨hx, hb, hr, -, hown, hts, hlk⟩ := id C
  generalize va_A ([]) s.heap.size = A at X ⊢
  have hl := lv_entry ([.int x0, .int x1]) (n := 2) (Nat.le_of_ble_eq_true rfl)
  rw [lg_entry_eq]
  generalize (lg_sl ([.int x0, .int x1]) ++ List.replicate (2 - (lg_sl ([.int x0, .int x1])).length) Slot.unset).toArray = ls at hl ⊢
  have hl : lv_has ls 2 [(0, .int x0), (1, .int x1)] := hl
  unfold f_X12_comes at hF
  refine lv_iload_n hx hb dX12_comes_0 rfl (lv_at hl 0 rfl) ?_
  refine lv_iload_n hx hb dX12_comes_1 rfl (lv_at hl 1 rfl) ?_
  refine lv_icmp_ne (tgt := 7) hx hb dX12_comes_2 (by decide) (fun c => ?_) (fun c => ?_)
  · replace hF := iF c hF
    refine lv_iload_n hx hb dX12_comes_7 rfl (lv_at hl 0 rfl) ?_
    refine lv_if_eq (tgt := 15) hx hb dX12_comes_8 (by decide) (fun c => ?_) (fun c => ?_)
    · replace hF := iT c hF
      refine lv_iconst (v := (0 : Int32)) hx hb dX12_comes_15 (by decide) ?_
      have hq := Option.some.inj hF
      subst hq
      exact rt_z (v := (0 : Int32)) C X (by decide) dX12_comes_16
    · replace hF := iF c hF
      refine lv_iload_n hx hb dX12_comes_11 rfl (lv_at hl 1 rfl) ?_
      refine lv_if_ne (tgt := 17) hx hb dX12_comes_12 (by decide) (fun c => ?_) (fun c => ?_)
      · replace hF := iF c hF
        refine lv_iload_n hx hb dX12_comes_17 rfl (lv_at hl 1 rfl) ?_
        obtain ⟨q_1, hc_2, hF⟩ := bnd_some hF
        refine cS_i (As := [.int x1]) (rest := []) C X (c_X12_isReal l D  x1 q_1 hc_2 _) (va_cwS 1 hts (good_S q8_101 q8_102 q1_9 q8_103) rfl rfl rfl (by decide +kernel) ⟨Nat.le_of_ble_eq_true rfl, Nat.le_of_ble_eq_true rfl⟩) (eK X) eP (eD (A := A)) (eF X) hl.1 rfl rfl (Nat.le_of_ble_eq_true rfl) dX12_comes_18 ⟨Nat.le_of_ble_eq_true rfl, Nat.le_of_ble_eq_true rfl⟩ (fun t H1 locs1 ht hB hk hS => ?_)
        have X := Hx_after_none X hk hS
        clear hk hS ht hB
        generalize H1 = H at X ⊢
        generalize locs1 = locs at X ⊢
        refine lv_if_eq (tgt := 36) hx hb dX12_comes_21 (by decide) (fun c => ?_) (fun c => ?_)
        · replace hF := iT c hF
          refine lv_iload_n hx hb dX12_comes_36 rfl (lv_at hl 0 rfl) ?_
          obtain ⟨q_3, hc_4, hF⟩ := bnd_some hF
          refine cS_i (As := [.int x0]) (rest := []) C X (c_X12_isReal l D  x0 q_3 hc_4 _) (va_cwS 1 hts (good_S q8_101 q8_102 q1_9 q8_103) rfl rfl rfl (by decide +kernel) ⟨Nat.le_of_ble_eq_true rfl, Nat.le_of_ble_eq_true rfl⟩) (eK X) eP (eD (A := A)) (eF X) hl.1 rfl rfl (Nat.le_of_ble_eq_true rfl) dX12_comes_37 ⟨Nat.le_of_ble_eq_true rfl, Nat.le_of_ble_eq_true rfl⟩ (fun t H1 locs1 ht hB hk hS => ?_)
          have X := Hx_after_none X hk hS
          clear hk hS ht hB
          generalize H1 = H at X ⊢
          generalize locs1 = locs at X ⊢
          refine lv_if_eq (tgt := 45) hx hb dX12_comes_40 (by decide) (fun c => ?_) (fun c => ?_)
          · replace hF := iT c hF
            refine lv_iload_n hx hb dX12_comes_45 rfl (lv_at hl 1 rfl) ?_
            refine lv_iconst (v := (2 : Int32)) hx hb dX12_comes_46 (by decide) ?_
            refine lv_icmp_ne (tgt := 61) hx hb dX12_comes_47 (by decide) (fun c => ?_) (fun c => ?_)
            · replace hF := iF c hF
              refine lv_iload_n hx hb dX12_comes_61 rfl (lv_at hl 1 rfl) ?_
              refine lv_iconst (v := (4 : Int32)) hx hb dX12_comes_62 (by decide) ?_
              refine lv_icmp_ne (tgt := 77) hx hb dX12_comes_63 (by decide) (fun c => ?_) (fun c => ?_)
              · replace hF := iF c hF
                refine lv_iload_n hx hb dX12_comes_77 rfl (lv_at hl 1 rfl) ?_
                refine lv_iconst (v := (5 : Int32)) hx hb dX12_comes_78 (by decide) ?_
                refine lv_icmp_ne (tgt := 86) hx hb dX12_comes_79 (by decide) (fun c => ?_) (fun c => ?_)
                · replace hF := iF c hF
                  refine lv_iconst (v := (0 : Int32)) hx hb dX12_comes_86 (by decide) ?_
                  have hq := Option.some.inj hF
                  subst hq
                  exact rt_z (v := (0 : Int32)) C X (by decide) dX12_comes_87
                · replace hF := iT c hF
                  refine lv_iconst (v := (1 : Int32)) hx hb dX12_comes_82 (by decide) ?_
                  refine lv_goto (tgt := 87) hx hb dX12_comes_83 (by decide) ?_
                  have hq := Option.some.inj hF
                  subst hq
                  exact rt_z (v := (1 : Int32)) C X (by decide) dX12_comes_87
              · replace hF := iT c hF
                refine lv_iload_n hx hb dX12_comes_66 rfl (lv_at hl 0 rfl) ?_
                refine lv_iconst (v := (4 : Int32)) hx hb dX12_comes_67 (by decide) ?_
                refine lv_icmp_ge (tgt := 75) hx hb dX12_comes_68 (by decide) (fun c => ?_) (fun c => ?_)
                · replace hF := iT c hF
                  refine lv_iconst (v := (0 : Int32)) hx hb dX12_comes_75 (by decide) ?_
                  have hq := Option.some.inj hF
                  subst hq
                  exact rt_z (v := (0 : Int32)) C X (by decide) dX12_comes_76
                · replace hF := iF c hF
                  refine lv_iconst (v := (1 : Int32)) hx hb dX12_comes_71 (by decide) ?_
                  refine lv_goto (tgt := 76) hx hb dX12_comes_72 (by decide) ?_
                  have hq := Option.some.inj hF
                  subst hq
                  exact rt_z (v := (1 : Int32)) C X (by decide) dX12_comes_76
            · replace hF := iT c hF
              refine lv_iload_n hx hb dX12_comes_50 rfl (lv_at hl 0 rfl) ?_
              refine lv_iconst (v := (1 : Int32)) hx hb dX12_comes_51 (by decide) ?_
              refine lv_icmp_ne (tgt := 59) hx hb dX12_comes_52 (by decide) (fun c => ?_) (fun c => ?_)
              · replace hF := iF c hF
                refine lv_iconst (v := (0 : Int32)) hx hb dX12_comes_59 (by decide) ?_
                have hq := Option.some.inj hF
                subst hq
                exact rt_z (v := (0 : Int32)) C X (by decide) dX12_comes_60
              · replace hF := iT c hF
                refine lv_iconst (v := (1 : Int32)) hx hb dX12_comes_55 (by decide) ?_
                refine lv_goto (tgt := 60) hx hb dX12_comes_56 (by decide) ?_
                have hq := Option.some.inj hF
                subst hq
                exact rt_z (v := (1 : Int32)) C X (by decide) dX12_comes_60
          · replace hF := iF c hF
            refine lv_iconst (v := (0 : Int32)) hx hb dX12_comes_43 (by decide) ?_
            have hq := Option.some.inj hF
            subst hq
            exact rt_z (v := (0 : Int32)) C X (by decide) dX12_comes_44
        · replace hF := iF c hF
          refine lv_iload_n hx hb dX12_comes_24 rfl (lv_at hl 0 rfl) ?_
          refine lv_bipush (v := (7 : Int32)) hx hb dX12_comes_25 (by decide) ?_
          refine lv_icmp_eq (tgt := 34) hx hb dX12_comes_27 (by decide) (fun c => ?_) (fun c => ?_)
          · replace hF := iT c hF
            refine lv_iconst (v := (0 : Int32)) hx hb dX12_comes_34 (by decide) ?_
            have hq := Option.some.inj hF
            subst hq
            exact rt_z (v := (0 : Int32)) C X (by decide) dX12_comes_35
          · replace hF := iF c hF
            refine lv_iconst (v := (1 : Int32)) hx hb dX12_comes_30 (by decide) ?_
            refine lv_goto (tgt := 35) hx hb dX12_comes_31 (by decide) ?_
            have hq := Option.some.inj hF
            subst hq
            exact rt_z (v := (1 : Int32)) C X (by decide) dX12_comes_35
      · replace hF := iT c hF
        refine lv_iconst (v := (0 : Int32)) hx hb dX12_comes_15 (by decide) ?_
        have hq := Option.some.inj hF
        subst hq
        exact rt_z (v := (0 : Int32)) C X (by decide) dX12_comes_16
  · replace hF := iT c hF
    refine lv_iconst (v := (1 : Int32)) hx hb dX12_comes_5 (by decide) ?_
    have hq := Option.some.inj hF
    subst hq
    exact rt_z (v := (1 : Int32)) C X (by decide) dX12_comes_6
