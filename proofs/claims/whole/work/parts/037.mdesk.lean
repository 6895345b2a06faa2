theorem q7_52 : Cond.fieldLink RX12 355 "TurningHallModel" "out" "[B" ∈ lw_all := lw_in (tc_7 (List.mem_of_getElem? (i := 52) rfl)) rfl
theorem q7_54 : Cond.fieldLink RX12 361 "TurningHallModel" "turned" "[B" ∈ lw_all := lw_in (tc_7 (List.mem_of_getElem? (i := 54) rfl)) rfl
theorem q9_224 : Cond.methodLink RX12 731 yX12_put ∈ lw_all := lw_in (tc_9 (List.mem_of_getElem? (i := 224) rfl)) rfl
theorem q9_226 : Cond.instanceMethod yX12_put ∈ lw_all := lw_in (tc_9 (List.mem_of_getElem? (i := 226) rfl)) rfl
theorem q0_129 : Cond.selects RX12 yX12_put yX12_put ∈ lw_all := lw_in (tc_0 (List.mem_of_getElem? (i := 129) rfl)) rfl
theorem q9_227 : Cond.code yX12_put cX12_put 2 none ∈ lw_all := lw_in (tc_9 (List.mem_of_getElem? (i := 227) rfl)) rfl
theorem q9_228 : Cond.methodLink RX12 734 yX12_putWhole ∈ lw_all := lw_in (tc_9 (List.mem_of_getElem? (i := 228) rfl)) rfl
theorem q9_230 : Cond.instanceMethod yX12_putWhole ∈ lw_all := lw_in (tc_9 (List.mem_of_getElem? (i := 230) rfl)) rfl
theorem q0_130 : Cond.selects RX12 yX12_putWhole yX12_putWhole ∈ lw_all := lw_in (tc_0 (List.mem_of_getElem? (i := 130) rfl)) rfl
theorem q9_231 : Cond.code yX12_putWhole cX12_putWhole 6 none ∈ lw_all := lw_in (tc_9 (List.mem_of_getElem? (i := 231) rfl)) rfl
theorem q6_193 : Cond.constantLong RX12 332 (4607182418800017408) ∈ lw_all := lw_in (tc_6 (List.mem_of_getElem? (i := 193) rfl)) rfl
theorem q9_220 : Cond.methodLink RX12 737 yX12_putReal ∈ lw_all := lw_in (tc_9 (List.mem_of_getElem? (i := 220) rfl)) rfl
theorem q9_222 : Cond.instanceMethod yX12_putReal ∈ lw_all := lw_in (tc_9 (List.mem_of_getElem? (i := 222) rfl)) rfl
theorem q0_128 : Cond.selects RX12 yX12_putReal yX12_putReal ∈ lw_all := lw_in (tc_0 (List.mem_of_getElem? (i := 128) rfl)) rfl
theorem q9_223 : Cond.code yX12_putReal cX12_putReal 10 none ∈ lw_all := lw_in (tc_9 (List.mem_of_getElem? (i := 223) rfl)) rfl
theorem q9_236 : Cond.constantDouble RX12 740 (4680673776000565248) ∈ lw_all := lw_in (tc_9 (List.mem_of_getElem? (i := 236) rfl)) rfl
theorem q9_237 : Cond.methodLink RX12 742 yX12_putTwo ∈ lw_all := lw_in (tc_9 (List.mem_of_getElem? (i := 237) rfl)) rfl
theorem q9_239 : Cond.instanceMethod yX12_putTwo ∈ lw_all := lw_in (tc_9 (List.mem_of_getElem? (i := 239) rfl)) rfl
theorem q0_131 : Cond.selects RX12 yX12_putTwo yX12_putTwo ∈ lw_all := lw_in (tc_0 (List.mem_of_getElem? (i := 131) rfl)) rfl
theorem q10_0 : Cond.code yX12_putTwo cX12_putTwo 2 none ∈ lw_all := lw_in (tc_10 (List.mem_of_getElem? (i := 0) rfl)) rfl
theorem q10_13 : Cond.methodLink RX12 745 yX12_isAbove ∈ lw_all := lw_in (tc_10 (List.mem_of_getElem? (i := 13) rfl)) rfl
theorem q10_14 : Cond.static yX12_isAbove ∈ lw_all := lw_in (tc_10 (List.mem_of_getElem? (i := 14) rfl)) rfl
theorem q10_15 : Cond.code yX12_isAbove cX12_isAbove 2 (some .boolean) ∈ lw_all := lw_in (tc_10 (List.mem_of_getElem? (i := 15) rfl)) rfl
theorem q10_20 : Cond.constantDouble RX12 748 (13830554455654793216) ∈ lw_all := lw_in (tc_10 (List.mem_of_getElem? (i := 20) rfl)) rfl
theorem q7_56 : Cond.fieldLink RX12 367 "TurningHallModel" "wheel" "[I" ∈ lw_all := lw_in (tc_7 (List.mem_of_getElem? (i := 56) rfl)) rfl
theorem q10_29 : Cond.constant RX12 750 (-1000000000) ∈ lw_all := lw_in (tc_10 (List.mem_of_getElem? (i := 29) rfl)) rfl
theorem q10_30 : Cond.constantLong RX12 751 (-100000000) ∈ lw_all := lw_in (tc_10 (List.mem_of_getElem? (i := 30) rfl)) rfl
theorem q10_31 : Cond.constantLong RX12 753 (100000000) ∈ lw_all := lw_in (tc_10 (List.mem_of_getElem? (i := 31) rfl)) rfl
theorem q10_32 : Cond.constant RX12 755 (719162) ∈ lw_all := lw_in (tc_10 (List.mem_of_getElem? (i := 32) rfl)) rfl
theorem q10_33 : Cond.constant RX12 756 (102267900) ∈ lw_all := lw_in (tc_10 (List.mem_of_getElem? (i := 33) rfl)) rfl
theorem q10_34 : Cond.constant RX12 757 (146097) ∈ lw_all := lw_in (tc_10 (List.mem_of_getElem? (i := 34) rfl)) rfl
theorem q10_35 : Cond.constant RX12 758 (280000) ∈ lw_all := lw_in (tc_10 (List.mem_of_getElem? (i := 35) rfl)) rfl
theorem q10_36 : Cond.methodLink RX12 759 yX12_isLeap ∈ lw_all := lw_in (tc_10 (List.mem_of_getElem? (i := 36) rfl)) rfl
theorem q10_37 : Cond.static yX12_isLeap ∈ lw_all := lw_in (tc_10 (List.mem_of_getElem? (i := 37) rfl)) rfl
theorem q10_38 : Cond.code yX12_isLeap cX12_isLeap 1 (some .boolean) ∈ lw_all := lw_in (tc_10 (List.mem_of_getElem? (i := 38) rfl)) rfl
/-! ### X12_put -/
theorem dX12_put_0 : decode cX12_put 0 = .ok (.aload_n 0, 1) := by decide +kernel
theorem dX12_put_1 : decode cX12_put 1 = .ok (.getfield 355, 3) := by decide +kernel
theorem dX12_put_4 : decode cX12_put 4 = .ok (.aload_n 0, 1) := by decide +kernel
theorem dX12_put_5 : decode cX12_put 5 = .ok (.getfield 358, 3) := by decide +kernel
theorem dX12_put_8 : decode cX12_put 8 = .ok (.iload_n 1, 1) := by decide +kernel
theorem dX12_put_9 : decode cX12_put 9 = .ok (.i2b, 1) := by decide +kernel
theorem dX12_put_10 : decode cX12_put 10 = .ok (.bastore, 1) := by decide +kernel
theorem dX12_put_11 : decode cX12_put 11 = .ok (.aload_n 0, 1) := by decide +kernel
theorem dX12_put_12 : decode cX12_put 12 = .ok (.dup, 1) := by decide +kernel
theorem dX12_put_13 : decode cX12_put 13 = .ok (.getfield 358, 3) := by decide +kernel
theorem dX12_put_16 : decode cX12_put 16 = .ok (.iconst 1, 1) := by decide +kernel
theorem dX12_put_17 : decode cX12_put 17 = .ok (.iadd, 1) := by decide +kernel
theorem dX12_put_18 : decode cX12_put 18 = .ok (.putfield 358, 3) := by decide +kernel
theorem dX12_put_21 : decode cX12_put 21 = .ok (.return_, 1) := by decide +kernel
abbrev R_X12_put : Room := ({ frames := 0, cells := 0, slots := 0, locals := 0 } : Room)
def f_X12_put (gT : Gs) (x0 : Int32) : Option (Gs) :=
  grd (inB (gI gT 99) 100) (some (sI (sIA gT 98 (upd (gIA gT 98) (gI gT 99).toNatClampNeg (vp_nar .byte x0.toInt8.toInt32))) 99 ((gI gT 99) + (1 : Int32))))
set_option maxHeartbeats 4000000 in
set_option maxRecDepth 100000 in
theorem c_X12_put (l : Launch) (D : Dx) (hT : Nat) (aT : Nat → Nat) (yT : Nat → ClassId) (gT : Gs) (x0 : Int32) (q : Gs) (hF : f_X12_put gT x0 = some q) (sz : Nat) : Met l yX12_put (ws_ yX12_put cX12_put 2 none) R_X12_put (PC D (tX12 yT) [.ref hT, .int x0] (wX12 hT aT yT gT) sz) (QV D (va_A (wX12 hT aT yT gT) sz) (wX12 hT aT yT q)) 0 0 (va_A (wX12 hT aT yT gT) sz) := by
  refine Met.ofW (cc := cX12_put) (maxL := 2) (ret := none) (by decide) rfl ?_
  intro p e s m args below meth c s₁ B hml hv
  obtain ⟨rfl, hsz, hP, hK, hD, hN⟩ := hv
  subst hsz
  have C : Cx p s m _ meth c cX12_put none 2 RX12 lw_all := Cx_of B hml
  have X := Hx_start hP hK hD hN
  obtain ⟨hx, hb, hr, -, hown, hts, hlk⟩ := id C
  generalize va_A (wX12 hT aT yT gT) s.heap.size = A at X ⊢
  have hl := lv_entry ([.ref hT, .int x0]) (n := 2) (Nat.le_of_ble_eq_true rfl)
  rw [lg_entry_eq]
  generalize (lg_sl ([.ref hT, .int x0]) ++ List.replicate (2 - (lg_sl ([.ref hT, .int x0])).length) Slot.unset).toArray = ls at hl ⊢
  have hl : lv_has ls 2 [(0, .ref hT), (1, .int x0)] := hl
  unfold f_X12_put at hF
  refine lv_aload_n hx hb dX12_put_0 rfl (lv_at hl 0 rfl) ?_
  refine va_get (D := D.1) (ci := 12) (v := .ref (aT 98)) (C := RX12) (T := TX12) (N := 114) hx hb hts wi_X12 hown X.1 X.2.1 0 rfl rfl 98 (by decide) (hts _ q7_52) (fun _ h9 => h9) (fl_get (by decide)) dX12_put_1 ?_
  refine lv_aload_n hx hb dX12_put_4 rfl (lv_at hl 0 rfl) ?_
  refine va_get (D := D.1) (ci := 12) (v := .int (gI gT 99)) (C := RX12) (T := TX12) (N := 114) hx hb hts wi_X12 hown X.1 X.2.1 0 rfl rfl 99 (by decide) (hts _ q7_53) (fun _ h9 => h9) (fl_get (by decide)) dX12_put_5 ?_
  refine lv_iload_n hx hb dX12_put_8 rfl (lv_at hl 1 rfl) ?_
  refine lv_i2b hx hb dX12_put_9 rfl ?_
  obtain ⟨h_1, hF⟩ := grd_some hF
  refine va_bast (D := D.1) (f := gIA gT 98) hx hb X.1 X.2.1 X.2.2.1 X.2.2.2.1 64 63 rfl rfl (inB_ok h_1) dX12_put_10 (fun H locs hP hD hS => ?_)
  have X : Hx D (tX12 yT) A s H locs (wX12 hT aT yT (sIA gT 98 (upd (gIA gT 98) (gI gT 99).toNatClampNeg (vp_nar .byte x0.toInt8.toInt32)))) := Hx_set X (wG_sIA (i := 63) (k := 98) ndX12 rfl rfl) hP hD hS
  refine lv_aload_n hx hb dX12_put_11 rfl (lv_at hl 0 rfl) ?_
  refine lv_dup hx hb dX12_put_12 rfl ?_
  refine va_get (D := D.1) (ci := 12) (v := .int (gI gT 99)) (C := RX12) (T := TX12) (N := 114) hx hb hts wi_X12 hown X.1 X.2.1 0 rfl rfl 99 (by decide) (hts _ q7_53) (fun _ h9 => h9) (fl_get (by decide)) dX12_put_13 ?_
  refine lv_iconst (v := (1 : Int32)) hx hb dX12_put_16 (by decide) ?_
  refine lv_iadd hx hb dX12_put_17 ?_
  refine va_put (D := D.1) (ci := 12) (v := .int ((gI gT 99) + (1 : Int32))) (ty := .int) (C := RX12) (T := TX12) (N := 114) hx hb hts wi_X12 tyX12 tyX12_ok nmX12 hown X.1 X.2.1 X.2.2.1 X.2.2.2.1 0 rfl rfl 99 (by decide) (hts _ q7_53) (fun _ h9 => h9) rfl (by decide +kernel) rfl rfl (by rw [List.length_map, List.length_range]; decide) dX12_put_18 (fun H locs hP hD hS => ?_)
  have X : Hx D (tX12 yT) A s H locs (wX12 hT aT yT (sI (sIA gT 98 (upd (gIA gT 98) (gI gT 99).toNatClampNeg (vp_nar .byte x0.toInt8.toInt32))) 99 ((gI gT 99) + (1 : Int32)))) := Hx_set X (wG_sI (k := 99) rfl) hP hD hS
  have hq := Option.some.inj hF
  subst hq
  exact rt_v C X dX12_put_21

/-! ### X12_putWhole -/
theorem dX12_putWhole_0 : decode cX12_putWhole 0 = .ok (.lload_n 1, 1) := by decide +kernel
theorem dX12_putWhole_1 : decode cX12_putWhole 1 = .ok (.lstore_n 3, 1) := by decide +kernel
theorem dX12_putWhole_2 : decode cX12_putWhole 2 = .ok (.iconst 0, 1) := by decide +kernel
theorem dX12_putWhole_3 : decode cX12_putWhole 3 = .ok (.istore 5, 2) := by decide +kernel
theorem dX12_putWhole_5 : decode cX12_putWhole 5 = .ok (.iload 5, 2) := by decide +kernel
theorem dX12_putWhole_7 : decode cX12_putWhole 7 = .ok (.ifCond .eq 9, 3) := by decide +kernel
theorem dX12_putWhole_10 : decode cX12_putWhole 10 = .ok (.lload_n 3, 1) := by decide +kernel
theorem dX12_putWhole_11 : decode cX12_putWhole 11 = .ok (.lconst 0, 1) := by decide +kernel
theorem dX12_putWhole_12 : decode cX12_putWhole 12 = .ok (.lcmp, 1) := by decide +kernel
theorem dX12_putWhole_13 : decode cX12_putWhole 13 = .ok (.ifCond .le 32, 3) := by decide +kernel
theorem dX12_putWhole_16 : decode cX12_putWhole 16 = .ok (.aload_n 0, 1) := by decide +kernel
theorem dX12_putWhole_17 : decode cX12_putWhole 17 = .ok (.getfield 361, 3) := by decide +kernel
theorem dX12_putWhole_20 : decode cX12_putWhole 20 = .ok (.iload 5, 2) := by decide +kernel
theorem dX12_putWhole_22 : decode cX12_putWhole 22 = .ok (.bipush 48, 2) := by decide +kernel
theorem dX12_putWhole_24 : decode cX12_putWhole 24 = .ok (.lload_n 3, 1) := by decide +kernel
theorem dX12_putWhole_25 : decode cX12_putWhole 25 = .ok (.ldc2_w 529, 3) := by decide +kernel
theorem dX12_putWhole_28 : decode cX12_putWhole 28 = .ok (.lrem, 1) := by decide +kernel
theorem dX12_putWhole_29 : decode cX12_putWhole 29 = .ok (.l2i, 1) := by decide +kernel
theorem dX12_putWhole_30 : decode cX12_putWhole 30 = .ok (.iadd, 1) := by decide +kernel
theorem dX12_putWhole_31 : decode cX12_putWhole 31 = .ok (.i2b, 1) := by decide +kernel
theorem dX12_putWhole_32 : decode cX12_putWhole 32 = .ok (.bastore, 1) := by decide +kernel
theorem dX12_putWhole_33 : decode cX12_putWhole 33 = .ok (.lload_n 3, 1) := by decide +kernel
theorem dX12_putWhole_34 : decode cX12_putWhole 34 = .ok (.ldc2_w 529, 3) := by decide +kernel
theorem dX12_putWhole_37 : decode cX12_putWhole 37 = .ok (.ldiv, 1) := by decide +kernel
theorem dX12_putWhole_38 : decode cX12_putWhole 38 = .ok (.lstore_n 3, 1) := by decide +kernel
theorem dX12_putWhole_39 : decode cX12_putWhole 39 = .ok (.iinc 5 1, 3) := by decide +kernel
theorem dX12_putWhole_42 : decode cX12_putWhole 42 = .ok (.goto (-37), 3) := by decide +kernel
theorem dX12_putWhole_45 : decode cX12_putWhole 45 = .ok (.iload 5, 2) := by decide +kernel
theorem dX12_putWhole_47 : decode cX12_putWhole 47 = .ok (.ifCond .le 20, 3) := by decide +kernel
theorem dX12_putWhole_50 : decode cX12_putWhole 50 = .ok (.iinc 5 (-1), 3) := by decide +kernel
theorem dX12_putWhole_53 : decode cX12_putWhole 53 = .ok (.aload_n 0, 1) := by decide +kernel
theorem dX12_putWhole_54 : decode cX12_putWhole 54 = .ok (.aload_n 0, 1) := by decide +kernel
theorem dX12_putWhole_55 : decode cX12_putWhole 55 = .ok (.getfield 361, 3) := by decide +kernel
theorem dX12_putWhole_58 : decode cX12_putWhole 58 = .ok (.iload 5, 2) := by decide +kernel
theorem dX12_putWhole_60 : decode cX12_putWhole 60 = .ok (.baload, 1) := by decide +kernel
theorem dX12_putWhole_61 : decode cX12_putWhole 61 = .ok (.invokevirtual 731, 3) := by decide +kernel
theorem dX12_putWhole_64 : decode cX12_putWhole 64 = .ok (.goto (-19), 3) := by decide +kernel
theorem dX12_putWhole_67 : decode cX12_putWhole 67 = .ok (.return_, 1) := by decide +kernel
abbrev R_X12_putWhole : Room := ({ frames := 1, cells := 0, slots := 0, locals := 21 } : Room)
def b_X12_putWhole_16 (n : Nat) (rec : (Gs → Int64 → Int32 → Option (Gs)) × (Gs → Int32 → Option (Gs))) (gT : Gs) (v3 : Int64) (v5 : Int32) : Option (Gs) :=
  grd (inB v5 30) (rec.1 (sIA gT 100 (upd (gIA gT 100) v5.toNatClampNeg (vp_nar .byte (((48 : Int32) + ((v3 - v3 / (10 : Int64) * (10 : Int64)).toInt32)).toInt8.toInt32)))) (v3 / (10 : Int64)) (v5 + (1 : Int32)))
def h_X12_putWhole_45 (n : Nat) (rec : (Gs → Int64 → Int32 → Option (Gs)) × (Gs → Int32 → Option (Gs))) (gT : Gs) (v5 : Int32) : Option (Gs) :=
  if v5 ≤ 0 then (some gT) else (grd (inB (v5 + (-1 : Int32)) 30) (bnd (f_X12_put gT (gIA gT 100 (v5 + (-1 : Int32)).toNatClampNeg)) (fun q_3 => rec.2 q_3 (v5 + (-1 : Int32)))))
def h_X12_putWhole_5 (n : Nat) (rec : (Gs → Int64 → Int32 → Option (Gs)) × (Gs → Int32 → Option (Gs))) (gT : Gs) (v3 : Int64) (v5 : Int32) : Option (Gs) :=
  if v5 = 0 then (b_X12_putWhole_16 n rec gT v3 v5) else (if v3 ≤ (0 : Int64) then (rec.2 gT v5) else (b_X12_putWhole_16 n rec gT v3 v5))
def L_X12_putWhole (n : Nat) : Nat → ((Gs → Int64 → Int32 → Option (Gs)) × (Gs → Int32 → Option (Gs)))
  | 0 => ((fun _ _ _ => none), (fun _ _ => none))
  | k + 1 => (h_X12_putWhole_5 n (L_X12_putWhole n k), h_X12_putWhole_45 n (L_X12_putWhole n k))
def f_X12_putWhole (n : Nat) (gT : Gs) (x0 : Int64) : Option (Gs) :=
  (L_X12_putWhole n n).1 gT x0 (0 : Int32)
def S_X12_putWhole_16 (l : Launch) (D : Dx) (hT : Nat) (aT : Nat → Nat) (yT : Nat → ClassId) (fn : Gs → Int64 → Int32 → Option (Gs)) : Prop :=
  ∀ {p : Program} {e : Env} {s : State} {m : MethodId} {args : Array Value} {below : List Frame} {meth : Method} {c : Code} {H : Heap} {locs : List Loc} {A : Nat → Prop} {ls : Array Slot} {gT : Gs} {v3 : Int64} {v5 : Int32} {q : Gs}, Cx p s m args meth c cX12_putWhole none 6 RX12 lw_all → Hx D (tX12 yT) A s H locs (wX12 hT aT yT gT) → lv_has ls 6 [(0, .ref hT), (3, .long v3), (5, .int v5)] → fn gT v3 v5 = some q → W p l e R_X12_putWhole s m args below meth c H locs 0 0 (MQ below (QV D A (wX12 hT aT yT q)) args s 0 0 A) (F0 m 16 ls [])
def S_X12_putWhole_45 (l : Launch) (D : Dx) (hT : Nat) (aT : Nat → Nat) (yT : Nat → ClassId) (fn : Gs → Int32 → Option (Gs)) : Prop :=
  ∀ {p : Program} {e : Env} {s : State} {m : MethodId} {args : Array Value} {below : List Frame} {meth : Method} {c : Code} {H : Heap} {locs : List Loc} {A : Nat → Prop} {ls : Array Slot} {gT : Gs} {v5 : Int32} {q : Gs}, Cx p s m args meth c cX12_putWhole none 6 RX12 lw_all → Hx D (tX12 yT) A s H locs (wX12 hT aT yT gT) → lv_has ls 6 [(0, .ref hT), (5, .int v5)] → fn gT v5 = some q → W p l e R_X12_putWhole s m args below meth c H locs 0 0 (MQ below (QV D A (wX12 hT aT yT q)) args s 0 0 A) (F0 m 45 ls [])
def S_X12_putWhole_5 (l : Launch) (D : Dx) (hT : Nat) (aT : Nat → Nat) (yT : Nat → ClassId) (fn : Gs → Int64 → Int32 → Option (Gs)) : Prop :=
  ∀ {p : Program} {e : Env} {s : State} {m : MethodId} {args : Array Value} {below : List Frame} {meth : Method} {c : Code} {H : Heap} {locs : List Loc} {A : Nat → Prop} {ls : Array Slot} {gT : Gs} {v3 : Int64} {v5 : Int32} {q : Gs}, Cx p s m args meth c cX12_putWhole none 6 RX12 lw_all → Hx D (tX12 yT) A s H locs (wX12 hT aT yT gT) → lv_has ls 6 [(0, .ref hT), (3, .long v3), (5, .int v5)] → fn gT v3 v5 = some q → W p l e R_X12_putWhole s m args below meth c H locs 0 0 (MQ below (QV D A (wX12 hT aT yT q)) args s 0 0 A) (F0 m 5 ls [])
def SH_X12_putWhole (l : Launch) (D : Dx) (hT : Nat) (aT : Nat → Nat) (yT : Nat → ClassId) (rec : (Gs → Int64 → Int32 → Option (Gs)) × (Gs → Int32 → Option (Gs))) : Prop := S_X12_putWhole_5 l D hT aT yT rec.1 ∧ S_X12_putWhole_45 l D hT aT yT rec.2
set_option maxHeartbeats 4000000 in
set_option maxRecDepth 100000 in
theorem k_X12_putWhole_16 (l : Launch) (D : Dx) (hT : Nat) (aT : Nat → Nat) (yT : Nat → ClassId) (n : Nat) (rec : (Gs → Int64 → Int32 → Option (Gs)) × (Gs → Int32 → Option (Gs))) (IH : SH_X12_putWhole l D hT aT yT rec) : S_X12_putWhole_16 l D hT aT yT (b_X12_putWhole_16 n rec) := by
  intro p e s m args below meth c H locs A ls gT v3 v5 q C X hl hF
  obtain ⟨hx, hb, hr, hml, hown, hts, hlk⟩ := id C
  unfold b_X12_putWhole_16 at hF
  refine lv_aload_n hx hb dX12_putWhole_16 rfl (lv_at hl 0 rfl) ?_
  refine va_get (D := D.1) (ci := 12) (v := .ref (aT 100)) (C := RX12) (T := TX12) (N := 114) hx hb hts wi_X12 hown X.1 X.2.1 0 rfl rfl 100 (by decide) (hts _ q7_54) (fun _ h9 => h9) (fl_get (by decide)) dX12_putWhole_17 ?_
  refine lv_iload hx hb dX12_putWhole_20 (lv_at hl 2 rfl) ?_
  refine lv_bipush (v := (48 : Int32)) hx hb dX12_putWhole_22 (by decide) ?_
  refine lv_lload_n hx hb dX12_putWhole_24 rfl (lv_at hl 1 rfl) ?_
  refine lv_ldc2 hx hb hown (hts _ q8_100) dX12_putWhole_25 ?_
  refine lv_lrem hx hb dX12_putWhole_28 (by decide) ?_
  refine lv_l2i hx hb dX12_putWhole_29 rfl ?_
  refine lv_iadd hx hb dX12_putWhole_30 ?_
  refine lv_i2b hx hb dX12_putWhole_31 rfl ?_
  obtain ⟨h_1, hF⟩ := grd_some hF
  refine va_bast (D := D.1) (f := gIA gT 100) hx hb X.1 X.2.1 X.2.2.1 X.2.2.2.1 65 64 rfl rfl (inB_ok h_1) dX12_putWhole_32 (fun H locs hP hD hS => ?_)
  have X : Hx D (tX12 yT) A s H locs (wX12 hT aT yT (sIA gT 100 (upd (gIA gT 100) v5.toNatClampNeg (vp_nar .byte (((48 : Int32) + ((v3 - v3 / (10 : Int64) * (10 : Int64)).toInt32)).toInt8.toInt32))))) := Hx_set X (wG_sIA (i := 64) (k := 100) ndX12 rfl rfl) hP hD hS
  refine lv_lload_n hx hb dX12_putWhole_33 rfl (lv_at hl 1 rfl) ?_
  refine lv_ldc2 hx hb hown (hts _ q8_100) dX12_putWhole_34 ?_
  refine lv_ldiv hx hb dX12_putWhole_37 (by decide) ?_
  refine lv_lstore_n (lv' := [(3, .long (v3 / (10 : Int64))), (0, .ref hT), (5, .int v5)]) hx hb dX12_putWhole_38 rfl hl (by decide) rfl (fun ls hl => ?_)
  refine lv_iinc (v := v5 + (1 : Int32)) (lv' := [(5, .int (v5 + (1 : Int32))), (3, .long (v3 / (10 : Int64))), (0, .ref hT)]) hx hb dX12_putWhole_39 hl (k := 2) rfl rfl (by decide) rfl (fun ls hl => ?_)
  refine lv_goto (tgt := 5) hx hb dX12_putWhole_42 (by decide) ?_
  exact IH.1 C X (lv_sub hl [2, 1, 0] rfl) hF
set_option maxHeartbeats 4000000 in
set_option maxRecDepth 100000 in
theorem k_X12_putWhole_45 (l : Launch) (D : Dx) (hT : Nat) (aT : Nat → Nat) (yT : Nat → ClassId) (n : Nat) (rec : (Gs → Int64 → Int32 → Option (Gs)) × (Gs → Int32 → Option (Gs))) (IH : SH_X12_putWhole l D hT aT yT rec) : S_X12_putWhole_45 l D hT aT yT (h_X12_putWhole_45 n rec) := by
  intro p e s m args below meth c H locs A ls gT v5 q C X hl hF
  obtain ⟨hx, hb, hr, hml, hown, hts, hlk⟩ := id C
  unfold h_X12_putWhole_45 at hF
  refine lv_iload hx hb dX12_putWhole_45 (lv_at hl 1 rfl) ?_
  refine lv_if_le (tgt := 67) hx hb dX12_putWhole_47 (by decide) (fun c => ?_) (fun c => ?_)
  · replace hF := iT c hF
    have hq := Option.some.inj hF
    subst hq
    exact rt_v C X dX12_putWhole_67
  · replace hF := iF c hF
    refine lv_iinc (v := v5 + (-1 : Int32)) (lv' := [(5, .int (v5 + (-1 : Int32))), (0, .ref hT)]) hx hb dX12_putWhole_50 hl (k := 1) rfl rfl (by decide) rfl (fun ls hl => ?_)
    refine lv_aload_n hx hb dX12_putWhole_53 rfl (lv_at hl 1 rfl) ?_
    refine lv_aload_n hx hb dX12_putWhole_54 rfl (lv_at hl 1 rfl) ?_
    refine va_get (D := D.1) (ci := 12) (v := .ref (aT 100)) (C := RX12) (T := TX12) (N := 114) hx hb hts wi_X12 hown X.1 X.2.1 0 rfl rfl 100 (by decide) (hts _ q7_54) (fun _ h9 => h9) (fl_get (by decide)) dX12_putWhole_55 ?_
    refine lv_iload hx hb dX12_putWhole_58 (lv_at hl 0 rfl) ?_
    obtain ⟨h_2, hF⟩ := grd_some hF
    refine va_bald (D := D.1) (f := gIA gT 100) hx hb X.1 X.2.1 65 64 rfl rfl (inB_ok h_2) dX12_putWhole_60 ?_
    obtain ⟨q_3, hc_4, hF⟩ := bnd_some hF
    refine cV_v (As := [.int (gIA gT 100 (v5 + (-1 : Int32)).toNatClampNeg)]) (rest := []) C X (c_X12_put l D hT aT yT gT (gIA gT 100 (v5 + (-1 : Int32)).toNatClampNeg) q_3 hc_4 _) (cwV 1 hts (good_V q9_224 q9_226 q0_129 q1_9 q9_227) rfl rfl rfl (by decide +kernel) ⟨Nat.le_of_ble_eq_true rfl, Nat.le_of_ble_eq_true rfl⟩) (va_recv X.1 X.2.1 (ci := 12) (q0 := 0) rfl rfl) X.1 X.2.1 X.2.2.1 (free_all X) hl.1 rfl rfl (Nat.le_of_ble_eq_true rfl) dX12_putWhole_61 ⟨Nat.le_of_ble_eq_true rfl, Nat.le_of_ble_eq_true rfl⟩ (fun t H1 locs1 ht hB hk hS => ?_)
    have X : Hx D (tX12 yT) A s H1 locs1 (wX12 hT aT yT q_3) := Hx_after_all X ht hB hS
    clear hk hS ht hB
    generalize H1 = H at X ⊢
    generalize locs1 = locs at X ⊢
    refine lv_goto (tgt := 45) hx hb dX12_putWhole_64 (by decide) ?_
    exact IH.2 C X (lv_sub hl [1, 0] rfl) hF
set_option maxHeartbeats 4000000 in
set_option maxRecDepth 100000 in
theorem k_X12_putWhole_5 (l : Launch) (D : Dx) (hT : Nat) (aT : Nat → Nat) (yT : Nat → ClassId) (n : Nat) (rec : (Gs → Int64 → Int32 → Option (Gs)) × (Gs → Int32 → Option (Gs))) (IH : SH_X12_putWhole l D hT aT yT rec) : S_X12_putWhole_5 l D hT aT yT (h_X12_putWhole_5 n rec) := by
  intro p e s m args below meth c H locs A ls gT v3 v5 q C X hl hF
  obtain ⟨hx, hb, hr, hml, hown, hts, hlk⟩ := id C
  unfold h_X12_putWhole_5 at hF
  refine lv_iload hx hb dX12_putWhole_5 (lv_at hl 2 rfl) ?_
  refine lv_if_eq (tgt := 16) hx hb dX12_putWhole_7 (by decide) (fun c => ?_) (fun c => ?_)
  · replace hF := iT c hF
    exact (k_X12_putWhole_16 l D hT aT yT n rec IH) C X (lv_sub hl [0, 1, 2] rfl) hF
  · replace hF := iF c hF
    refine lv_lload_n hx hb dX12_putWhole_10 rfl (lv_at hl 1 rfl) ?_
    refine lv_lconst (v := (0 : Int64)) hx hb dX12_putWhole_11 (by decide) ?_
    refine W.lcmp hx hb dX12_putWhole_12 ?_
    refine lv_if_le (tgt := 45) hx hb dX12_putWhole_13 (by decide) (fun c => ?_) (fun c => ?_)
    · have c := (lg_cmp_le _ _).mp c
      replace hF := iT c hF
      exact IH.2 C X (lv_sub hl [0, 2] rfl) hF
    · have c := fun h => c ((lg_cmp_le _ _).mpr h)
      replace hF := iF c hF
      exact (k_X12_putWhole_16 l D hT aT yT n rec IH) C X (lv_sub hl [0, 1, 2] rfl) hF
theorem kL_X12_putWhole (l : Launch) (D : Dx) (hT : Nat) (aT : Nat → Nat) (yT : Nat → ClassId) (n : Nat) : ∀ k, SH_X12_putWhole l D hT aT yT (L_X12_putWhole n k)
  | 0 => ⟨(fun _ _ _ h => by cases h), (fun _ _ _ h => by cases h)⟩
  | k + 1 => ⟨k_X12_putWhole_5 l D hT aT yT n _ (kL_X12_putWhole l D hT aT yT n k), k_X12_putWhole_45 l D hT aT yT n _ (kL_X12_putWhole l D hT aT yT n k)⟩
set_option maxHeartbeats 4000000 in
set_option maxRecDepth 100000 in
theorem c_X12_putWhole (l : Launch) (D : Dx) (hT : Nat) (aT : Nat → Nat) (yT : Nat → ClassId) (n : Nat) (gT : Gs) (x0 : Int64) (q : Gs) (hF : f_X12_putWhole n gT x0 = some q) (sz : Nat) : Met l yX12_putWhole (ws_ yX12_putWhole cX12_putWhole 6 none) R_X12_putWhole (PC D (tX12 yT) [.ref hT, .long x0] (wX12 hT aT yT gT) sz) (QV D (va_A (wX12 hT aT yT gT) sz) (wX12 hT aT yT q)) 0 0 (va_A (wX12 hT aT yT gT) sz) := by
  refine Met.ofW (cc := cX12_putWhole) (maxL := 6) (ret := none) (by decide) rfl ?_
  intro p e s m args below meth c s₁ B hml hv
  obtain ⟨rfl, hsz, hP, hK, hD, hN⟩ := hv
  subst hsz
  have C : Cx p s m _ meth c cX12_putWhole none 6 RX12 lw_all := Cx_of B hml
  have X := Hx_start hP hK hD hN
  obtain ⟨hx, hb, hr, -, hown, hts, hlk⟩ := id C
  generalize va_A (wX12 hT aT yT gT) s.heap.size = A at X ⊢
  have hl := lv_entry ([.ref hT, .long x0]) (n := 6) (Nat.le_of_ble_eq_true rfl)
  rw [lg_entry_eq]
  generalize (lg_sl ([.ref hT, .long x0]) ++ List.replicate (6 - (lg_sl ([.ref hT, .long x0])).length) Slot.unset).toArray = ls at hl ⊢
  have hl : lv_has ls 6 [(0, .ref hT), (1, .long x0)] := hl
  unfold f_X12_putWhole at hF
  refine lv_lload_n hx hb dX12_putWhole_0 rfl (lv_at hl 1 rfl) ?_
  refine lv_lstore_n (lv' := [(3, .long x0), (0, .ref hT), (1, .long x0)]) hx hb dX12_putWhole_1 rfl hl (by decide) rfl (fun ls hl => ?_)
  refine lv_iconst (v := (0 : Int32)) hx hb dX12_putWhole_2 (by decide) ?_
  refine lv_istore (lv' := [(5, .int (0 : Int32)), (3, .long x0), (0, .ref hT), (1, .long x0)]) hx hb dX12_putWhole_3 hl (by decide) rfl (fun ls hl => ?_)
  exact (kL_X12_putWhole l D hT aT yT n n).1 C X (lv_sub hl [2, 1, 0] rfl) hF

/-! ### X12_putReal -/
theorem dX12_putReal_0 : decode cX12_putReal 0 = .ok (.lload_n 1, 1) := by decide +kernel
theorem dX12_putReal_1 : decode cX12_putReal 1 = .ok (.lconst 0, 1) := by decide +kernel
theorem dX12_putReal_2 : decode cX12_putReal 2 = .ok (.lcmp, 1) := by decide +kernel
theorem dX12_putReal_3 : decode cX12_putReal 3 = .ok (.ifCond .ge 17, 3) := by decide +kernel
theorem dX12_putReal_6 : decode cX12_putReal 6 = .ok (.lload_n 1, 1) := by decide +kernel
theorem dX12_putReal_7 : decode cX12_putReal 7 = .ok (.ldc2_w 428, 3) := by decide +kernel
theorem dX12_putReal_10 : decode cX12_putReal 10 = .ok (.lcmp, 1) := by decide +kernel
theorem dX12_putReal_11 : decode cX12_putReal 11 = .ok (.ifCond .eq 9, 3) := by decide +kernel
theorem dX12_putReal_14 : decode cX12_putReal 14 = .ok (.aload_n 0, 1) := by decide +kernel
theorem dX12_putReal_15 : decode cX12_putReal 15 = .ok (.bipush 45, 2) := by decide +kernel
theorem dX12_putReal_17 : decode cX12_putReal 17 = .ok (.invokevirtual 731, 3) := by decide +kernel
theorem dX12_putReal_20 : decode cX12_putReal 20 = .ok (.lload_n 1, 1) := by decide +kernel
theorem dX12_putReal_21 : decode cX12_putReal 21 = .ok (.invokestatic 477, 3) := by decide +kernel
theorem dX12_putReal_24 : decode cX12_putReal 24 = .ok (.lstore 4, 2) := by decide +kernel
theorem dX12_putReal_26 : decode cX12_putReal 26 = .ok (.aload_n 0, 1) := by decide +kernel
theorem dX12_putReal_27 : decode cX12_putReal 27 = .ok (.aload_n 0, 1) := by decide +kernel
theorem dX12_putReal_28 : decode cX12_putReal 28 = .ok (.lload 4, 2) := by decide +kernel
theorem dX12_putReal_30 : decode cX12_putReal 30 = .ok (.bipush 7, 2) := by decide +kernel
theorem dX12_putReal_32 : decode cX12_putReal 32 = .ok (.iconst 5, 1) := by decide +kernel
theorem dX12_putReal_33 : decode cX12_putReal 33 = .ok (.invokevirtual 473, 3) := by decide +kernel
theorem dX12_putReal_36 : decode cX12_putReal 36 = .ok (.invokevirtual 734, 3) := by decide +kernel
theorem dX12_putReal_39 : decode cX12_putReal 39 = .ok (.iload_n 3, 1) := by decide +kernel
theorem dX12_putReal_40 : decode cX12_putReal 40 = .ok (.ifCond .ne 4, 3) := by decide +kernel
theorem dX12_putReal_43 : decode cX12_putReal 43 = .ok (.return_, 1) := by decide +kernel
theorem dX12_putReal_44 : decode cX12_putReal 44 = .ok (.aload_n 0, 1) := by decide +kernel
theorem dX12_putReal_45 : decode cX12_putReal 45 = .ok (.bipush 46, 2) := by decide +kernel
theorem dX12_putReal_47 : decode cX12_putReal 47 = .ok (.invokevirtual 731, 3) := by decide +kernel
theorem dX12_putReal_50 : decode cX12_putReal 50 = .ok (.aload_n 0, 1) := by decide +kernel
theorem dX12_putReal_51 : decode cX12_putReal 51 = .ok (.lload 4, 2) := by decide +kernel
theorem dX12_putReal_53 : decode cX12_putReal 53 = .ok (.ldc2_w 332, 3) := by decide +kernel
theorem dX12_putReal_56 : decode cX12_putReal 56 = .ok (.invokevirtual 481, 3) := by decide +kernel
theorem dX12_putReal_59 : decode cX12_putReal 59 = .ok (.invokestatic 491, 3) := by decide +kernel
theorem dX12_putReal_62 : decode cX12_putReal 62 = .ok (.dstore 6, 2) := by decide +kernel
theorem dX12_putReal_64 : decode cX12_putReal 64 = .ok (.iconst 0, 1) := by decide +kernel
theorem dX12_putReal_65 : decode cX12_putReal 65 = .ok (.istore 8, 2) := by decide +kernel
theorem dX12_putReal_67 : decode cX12_putReal 67 = .ok (.iload 8, 2) := by decide +kernel
theorem dX12_putReal_69 : decode cX12_putReal 69 = .ok (.iload_n 3, 1) := by decide +kernel
theorem dX12_putReal_70 : decode cX12_putReal 70 = .ok (.if_icmp .ge 49, 3) := by decide +kernel
theorem dX12_putReal_73 : decode cX12_putReal 73 = .ok (.dload 6, 2) := by decide +kernel
theorem dX12_putReal_75 : decode cX12_putReal 75 = .ok (.ldc2_w 535, 3) := by decide +kernel
theorem dX12_putReal_78 : decode cX12_putReal 78 = .ok (.dmul, 1) := by decide +kernel
theorem dX12_putReal_79 : decode cX12_putReal 79 = .ok (.dstore 6, 2) := by decide +kernel
theorem dX12_putReal_81 : decode cX12_putReal 81 = .ok (.aload_n 0, 1) := by decide +kernel
theorem dX12_putReal_82 : decode cX12_putReal 82 = .ok (.dload 6, 2) := by decide +kernel
theorem dX12_putReal_84 : decode cX12_putReal 84 = .ok (.invokestatic 497, 3) := by decide +kernel
theorem dX12_putReal_87 : decode cX12_putReal 87 = .ok (.bipush 7, 2) := by decide +kernel
theorem dX12_putReal_89 : decode cX12_putReal 89 = .ok (.iconst 4, 1) := by decide +kernel
theorem dX12_putReal_90 : decode cX12_putReal 90 = .ok (.invokevirtual 473, 3) := by decide +kernel
theorem dX12_putReal_93 : decode cX12_putReal 93 = .ok (.l2i, 1) := by decide +kernel
theorem dX12_putReal_94 : decode cX12_putReal 94 = .ok (.istore 9, 2) := by decide +kernel
theorem dX12_putReal_96 : decode cX12_putReal 96 = .ok (.aload_n 0, 1) := by decide +kernel
theorem dX12_putReal_97 : decode cX12_putReal 97 = .ok (.bipush 48, 2) := by decide +kernel
theorem dX12_putReal_99 : decode cX12_putReal 99 = .ok (.iload 9, 2) := by decide +kernel
theorem dX12_putReal_101 : decode cX12_putReal 101 = .ok (.iadd, 1) := by decide +kernel
theorem dX12_putReal_102 : decode cX12_putReal 102 = .ok (.invokevirtual 731, 3) := by decide +kernel
theorem dX12_putReal_105 : decode cX12_putReal 105 = .ok (.dload 6, 2) := by decide +kernel
theorem dX12_putReal_107 : decode cX12_putReal 107 = .ok (.iload 9, 2) := by decide +kernel
theorem dX12_putReal_109 : decode cX12_putReal 109 = .ok (.i2d, 1) := by decide +kernel
theorem dX12_putReal_110 : decode cX12_putReal 110 = .ok (.dsub, 1) := by decide +kernel
theorem dX12_putReal_111 : decode cX12_putReal 111 = .ok (.dstore 6, 2) := by decide +kernel
theorem dX12_putReal_113 : decode cX12_putReal 113 = .ok (.iinc 8 1, 3) := by decide +kernel
theorem dX12_putReal_116 : decode cX12_putReal 116 = .ok (.goto (-49), 3) := by decide +kernel
theorem dX12_putReal_119 : decode cX12_putReal 119 = .ok (.return_, 1) := by decide +kernel
abbrev R_X12_putReal : Room := ({ frames := 3, cells := 0, slots := 0, locals := 88 } : Room)
def h_X12_putReal_67 (n : Nat) (rec : (Gs → Int32 → UInt64 → Int32 → Option (Gs))) (gT : Gs) (v3 : Int32) (v6 : UInt64) (v8 : Int32) : Option (Gs) :=
  if v3 ≤ v8 then (some gT) else (grd (n64 (FP.dmul v6 (4621819117588971520 : UInt64))) (bnd (f_Jxe99ae_doubleToLongBits_ccdee (FP.dmul v6 (4621819117588971520 : UInt64))) (fun q_13 => bnd (f_X12_towards n gT q_13 (7 : Int32) (4 : Int32)) (fun q_15 => bnd (f_X12_put q_15.2 ((48 : Int32) + q_15.1.toInt32)) (fun q_17 => grd (n64 (FP.dsub (FP.dmul v6 (4621819117588971520 : UInt64)) (FP.i2d q_15.1.toInt32))) (rec q_17 v3 (FP.dsub (FP.dmul v6 (4621819117588971520 : UInt64)) (FP.i2d q_15.1.toInt32)) (v8 + (1 : Int32))))))))
def b_X12_putReal_20 (n : Nat) (rec : (Gs → Int32 → UInt64 → Int32 → Option (Gs))) (gT : Gs) (v1 : Int64) (v3 : Int32) : Option (Gs) :=
  bnd (f_X12_withoutSign v1) (fun q_1 => bnd (f_X12_towards n gT q_1 (7 : Int32) (5 : Int32)) (fun q_3 => bnd (f_X12_putWhole n q_3.2 q_3.1) (fun q_5 => if v3 = 0 then (some q_5) else (bnd (f_X12_put q_5 (46 : Int32)) (fun q_7 => bnd (f_X12_remainder n q_7 q_1 (4607182418800017408 : Int64)) (fun q_9 => grd (nsnB q_9.1) (rec q_9.2 v3 q_9.1.toUInt64 (0 : Int32))))))))
def L_X12_putReal (n : Nat) : Nat → (Gs → Int32 → UInt64 → Int32 → Option (Gs))
  | 0 => ((fun _ _ _ _ => none))
  | k + 1 => (h_X12_putReal_67 n (L_X12_putReal n k))
def f_X12_putReal (n : Nat) (gT : Gs) (x0 : Int64) (x1 : Int32) : Option (Gs) :=
  if (0 : Int64) ≤ x0 then (b_X12_putReal_20 n (L_X12_putReal n n) gT x0 x1) else (if x0 = (-9223372036854775808 : Int64) then (b_X12_putReal_20 n (L_X12_putReal n n) gT x0 x1) else (bnd (f_X12_put gT (45 : Int32)) (fun q_20 => b_X12_putReal_20 n (L_X12_putReal n n) q_20 x0 x1)))
def S_X12_putReal_67 (l : Launch) (D : Dx) (hT : Nat) (aT : Nat → Nat) (yT : Nat → ClassId) (fn : Gs → Int32 → UInt64 → Int32 → Option (Gs)) : Prop :=
  ∀ {p : Program} {e : Env} {s : State} {m : MethodId} {args : Array Value} {below : List Frame} {meth : Method} {c : Code} {H : Heap} {locs : List Loc} {A : Nat → Prop} {ls : Array Slot} {gT : Gs} {v3 : Int32} {v6 : UInt64} {v8 : Int32} {q : Gs}, Cx p s m args meth c cX12_putReal none 10 RX12 lw_all → Hx D (tX12 yT) A s H locs (wX12 hT aT yT gT) → lv_has ls 10 [(0, .ref hT), (3, .int v3), (6, .double v6), (8, .int v8)] → fn gT v3 v6 v8 = some q → W p l e R_X12_putReal s m args below meth c H locs 0 0 (MQ below (QV D A (wX12 hT aT yT q)) args s 0 0 A) (F0 m 67 ls [])
def S_X12_putReal_20 (l : Launch) (D : Dx) (hT : Nat) (aT : Nat → Nat) (yT : Nat → ClassId) (fn : Gs → Int64 → Int32 → Option (Gs)) : Prop :=
  ∀ {p : Program} {e : Env} {s : State} {m : MethodId} {args : Array Value} {below : List Frame} {meth : Method} {c : Code} {H : Heap} {locs : List Loc} {A : Nat → Prop} {ls : Array Slot} {gT : Gs} {v1 : Int64} {v3 : Int32} {q : Gs}, Cx p s m args meth c cX12_putReal none 10 RX12 lw_all → Hx D (tX12 yT) A s H locs (wX12 hT aT yT gT) → lv_has ls 10 [(0, .ref hT), (1, .long v1), (3, .int v3)] → fn gT v1 v3 = some q → W p l e R_X12_putReal s m args below meth c H locs 0 0 (MQ below (QV D A (wX12 hT aT yT q)) args s 0 0 A) (F0 m 20 ls [])
def SH_X12_putReal (l : Launch) (D : Dx) (hT : Nat) (aT : Nat → Nat) (yT : Nat → ClassId) (rec : (Gs → Int32 → UInt64 → Int32 → Option (Gs))) : Prop := S_X12_putReal_67 l D hT aT yT rec
set_option maxHeartbeats 4000000 in
set_option maxRecDepth 100000 in
theorem k_X12_putReal_67 (l : Launch) (D : Dx) (hT : Nat) (aT : Nat → Nat) (yT : Nat → ClassId) (n : Nat) (rec : (Gs → Int32 → UInt64 → Int32 → Option (Gs))) (IH : SH_X12_putReal l D hT aT yT rec) : S_X12_putReal_67 l D hT aT yT (h_X12_putReal_67 n rec) := by
  intro p e s m args below meth c H locs A ls gT v3 v6 v8 q C X hl hF
  obtain ⟨hx, hb, hr, hml, hown, hts, hlk⟩ := id C
  unfold h_X12_putReal_67 at hF
  refine lv_iload hx hb dX12_putReal_67 (lv_at hl 3 rfl) ?_
  refine lv_iload_n hx hb dX12_putReal_69 rfl (lv_at hl 1 rfl) ?_
  refine lv_icmp_ge (tgt := 119) hx hb dX12_putReal_70 (by decide) (fun c => ?_) (fun c => ?_)
  · replace hF := iT c hF
    have hq := Option.some.inj hF
    subst hq
    exact rt_v C X dX12_putReal_119
  · replace hF := iF c hF
    refine lv_dload hx hb dX12_putReal_73 (lv_at hl 2 rfl) ?_
    refine lv_ldc2d hx hb hown (hts _ q8_109) dX12_putReal_75 ?_
    obtain ⟨h_12, hF⟩ := grd_some hF
    refine lv_dmul hx hb dX12_putReal_78 (n64_ok h_12) ?_
    refine lv_dstore (lv' := [(6, .double (FP.dmul v6 (4621819117588971520 : UInt64))), (0, .ref hT), (3, .int v3), (8, .int v8)]) hx hb dX12_putReal_79 hl (by decide) rfl (fun ls hl => ?_)
    refine lv_aload_n hx hb dX12_putReal_81 rfl (lv_at hl 1 rfl) ?_
    refine lv_dload hx hb dX12_putReal_82 (lv_at hl 0 rfl) ?_
    obtain ⟨q_13, hc_14, hF⟩ := bnd_some hF
    refine cS_l (As := [.double (FP.dmul v6 (4621819117588971520 : UInt64))]) (rest := [.ref hT]) C X (c_Jxe99ae_doubleToLongBits_ccdee l D  (FP.dmul v6 (4621819117588971520 : UInt64)) q_13 hc_14 _) (va_cwS 1 hts (good_S q8_110 q8_111 q1_24 q8_112) rfl rfl rfl (by decide +kernel) ⟨Nat.le_of_ble_eq_true rfl, Nat.le_of_ble_eq_true rfl⟩) (eK X) eP (eD (A := A)) (eF X) hl.1 rfl rfl (Nat.le_of_ble_eq_true rfl) dX12_putReal_84 ⟨Nat.le_of_ble_eq_true rfl, Nat.le_of_ble_eq_true rfl⟩ (fun t H1 locs1 ht hB hk hS => ?_)
    have X := Hx_after_none X hk hS
    clear hk hS ht hB
    generalize H1 = H at X ⊢
    generalize locs1 = locs at X ⊢
    refine lv_bipush (v := (7 : Int32)) hx hb dX12_putReal_87 (by decide) ?_
    refine lv_iconst (v := (4 : Int32)) hx hb dX12_putReal_89 (by decide) ?_
    obtain ⟨q_15, hc_16, hF⟩ := bnd_some hF
    refine cV_l (As := [.long q_13, .int (7 : Int32), .int (4 : Int32)]) (rest := []) C X (c_X12_towards l D hT aT yT n gT q_13 (7 : Int32) (4 : Int32) q_15 hc_16 _) (cwV 3 hts (good_V q8_154 q8_156 q0_74 q1_9 q8_157) rfl rfl rfl (by decide +kernel) ⟨Nat.le_of_ble_eq_true rfl, Nat.le_of_ble_eq_true rfl⟩) (va_recv X.1 X.2.1 (ci := 12) (q0 := 0) rfl rfl) X.1 X.2.1 X.2.2.1 (free_all X) hl.1 rfl rfl (Nat.le_of_ble_eq_true rfl) dX12_putReal_90 ⟨Nat.le_of_ble_eq_true rfl, Nat.le_of_ble_eq_true rfl⟩ (fun t H1 locs1 ht hB hk hS => ?_)
    have X : Hx D (tX12 yT) A s H1 locs1 (wX12 hT aT yT q_15.2) := Hx_after_all X ht hB hS
    clear hk hS ht hB
    generalize H1 = H at X ⊢
    generalize locs1 = locs at X ⊢
    refine lv_l2i hx hb dX12_putReal_93 rfl ?_
    refine lv_istore (lv' := [(9, .int q_15.1.toInt32), (6, .double (FP.dmul v6 (4621819117588971520 : UInt64))), (0, .ref hT), (3, .int v3), (8, .int v8)]) hx hb dX12_putReal_94 hl (by decide) rfl (fun ls hl => ?_)
    refine lv_aload_n hx hb dX12_putReal_96 rfl (lv_at hl 2 rfl) ?_
    refine lv_bipush (v := (48 : Int32)) hx hb dX12_putReal_97 (by decide) ?_
    refine lv_iload hx hb dX12_putReal_99 (lv_at hl 0 rfl) ?_
    refine lv_iadd hx hb dX12_putReal_101 ?_
    obtain ⟨q_17, hc_18, hF⟩ := bnd_some hF
    refine cV_v (As := [.int ((48 : Int32) + q_15.1.toInt32)]) (rest := []) C X (c_X12_put l D hT aT yT q_15.2 ((48 : Int32) + q_15.1.toInt32) q_17 hc_18 _) (cwV 1 hts (good_V q9_224 q9_226 q0_129 q1_9 q9_227) rfl rfl rfl (by decide +kernel) ⟨Nat.le_of_ble_eq_true rfl, Nat.le_of_ble_eq_true rfl⟩) (va_recv X.1 X.2.1 (ci := 12) (q0 := 0) rfl rfl) X.1 X.2.1 X.2.2.1 (free_all X) hl.1 rfl rfl (Nat.le_of_ble_eq_true rfl) dX12_putReal_102 ⟨Nat.le_of_ble_eq_true rfl, Nat.le_of_ble_eq_true rfl⟩ (fun t H1 locs1 ht hB hk hS => ?_)
    have X : Hx D (tX12 yT) A s H1 locs1 (wX12 hT aT yT q_17) := Hx_after_all X ht hB hS
    clear hk hS ht hB
    generalize H1 = H at X ⊢
    generalize locs1 = locs at X ⊢
    refine lv_dload hx hb dX12_putReal_105 (lv_at hl 1 rfl) ?_
    refine lv_iload hx hb dX12_putReal_107 (lv_at hl 0 rfl) ?_
    refine lv_i2d hx hb dX12_putReal_109 ?_
    obtain ⟨h_19, hF⟩ := grd_some hF
    refine lv_dsub hx hb dX12_putReal_110 (n64_ok h_19) ?_
    refine lv_dstore (lv' := [(6, .double (FP.dsub (FP.dmul v6 (4621819117588971520 : UInt64)) (FP.i2d q_15.1.toInt32))), (9, .int q_15.1.toInt32), (0, .ref hT), (3, .int v3), (8, .int v8)]) hx hb dX12_putReal_111 hl (by decide) rfl (fun ls hl => ?_)
    refine lv_iinc (v := v8 + (1 : Int32)) (lv' := [(8, .int (v8 + (1 : Int32))), (6, .double (FP.dsub (FP.dmul v6 (4621819117588971520 : UInt64)) (FP.i2d q_15.1.toInt32))), (9, .int q_15.1.toInt32), (0, .ref hT), (3, .int v3)]) hx hb dX12_putReal_113 hl (k := 4) rfl rfl (by decide) rfl (fun ls hl => ?_)
    refine lv_goto (tgt := 67) hx hb dX12_putReal_116 (by decide) ?_
    exact IH C X (lv_sub hl [3, 4, 1, 0] rfl) hF
set_option maxHeartbeats 4000000 in
set_option maxRecDepth 100000 in
theorem k_X12_putReal_20 (l : Launch) (D : Dx) (hT : Nat) (aT : Nat → Nat) (yT : Nat → ClassId) (n : Nat) (rec : (Gs → Int32 → UInt64 → Int32 → Option (Gs))) (IH : SH_X12_putReal l D hT aT yT rec) : S_X12_putReal_20 l D hT aT yT (b_X12_putReal_20 n rec) := by
  intro p e s m args below meth c H locs A ls gT v1 v3 q C X hl hF
  obtain ⟨hx, hb, hr, hml, hown, hts, hlk⟩ := id C
  unfold b_X12_putReal_20 at hF
  refine lv_lload_n hx hb dX12_putReal_20 rfl (lv_at hl 1 rfl) ?_
  obtain ⟨q_1, hc_2, hF⟩ := bnd_some hF
  refine cS_l (As := [.long v1]) (rest := []) C X (c_X12_withoutSign l D  v1 q_1 hc_2 _) (va_cwS 1 hts (good_S q9_89 q9_90 q1_9 q9_91) rfl rfl rfl (by decide +kernel) ⟨Nat.le_of_ble_eq_true rfl, Nat.le_of_ble_eq_true rfl⟩) (eK X) eP (eD (A := A)) (eF X) hl.1 rfl rfl (Nat.le_of_ble_eq_true rfl) dX12_putReal_21 ⟨Nat.le_of_ble_eq_true rfl, Nat.le_of_ble_eq_true rfl⟩ (fun t H1 locs1 ht hB hk hS => ?_)
  have X := Hx_after_none X hk hS
  clear hk hS ht hB
  generalize H1 = H at X ⊢
  generalize locs1 = locs at X ⊢
  refine lv_lstore (lv' := [(4, .long q_1), (0, .ref hT), (1, .long v1), (3, .int v3)]) hx hb dX12_putReal_24 hl (by decide) rfl (fun ls hl => ?_)
  refine lv_aload_n hx hb dX12_putReal_26 rfl (lv_at hl 1 rfl) ?_
  refine lv_aload_n hx hb dX12_putReal_27 rfl (lv_at hl 1 rfl) ?_
  refine lv_lload hx hb dX12_putReal_28 (lv_at hl 0 rfl) ?_
  refine lv_bipush (v := (7 : Int32)) hx hb dX12_putReal_30 (by decide) ?_
  refine lv_iconst (v := (5 : Int32)) hx hb dX12_putReal_32 (by decide) ?_
  obtain ⟨q_3, hc_4, hF⟩ := bnd_some hF
  refine cV_l (As := [.long q_1, .int (7 : Int32), .int (5 : Int32)]) (rest := [.ref hT]) C X (c_X12_towards l D hT aT yT n gT q_1 (7 : Int32) (5 : Int32) q_3 hc_4 _) (cwV 3 hts (good_V q8_154 q8_156 q0_74 q1_9 q8_157) rfl rfl rfl (by decide +kernel) ⟨Nat.le_of_ble_eq_true rfl, Nat.le_of_ble_eq_true rfl⟩) (va_recv X.1 X.2.1 (ci := 12) (q0 := 0) rfl rfl) X.1 X.2.1 X.2.2.1 (free_all X) hl.1 rfl rfl (Nat.le_of_ble_eq_true rfl) dX12_putReal_33 ⟨Nat.le_of_ble_eq_true rfl, Nat.le_of_ble_eq_true rfl⟩ (fun t H1 locs1 ht hB hk hS => ?_)
  have X : Hx D (tX12 yT) A s H1 locs1 (wX12 hT aT yT q_3.2) := Hx_after_all X ht hB hS
  clear hk hS ht hB
  generalize H1 = H at X ⊢
  generalize locs1 = locs at X ⊢
  obtain ⟨q_5, hc_6, hF⟩ := bnd_some hF
  refine cV_v (As := [.long q_3.1]) (rest := []) C X (c_X12_putWhole l D hT aT yT n q_3.2 q_3.1 q_5 hc_6 _) (cwV 1 hts (good_V q9_228 q9_230 q0_130 q1_9 q9_231) rfl rfl rfl (by decide +kernel) ⟨Nat.le_of_ble_eq_true rfl, Nat.le_of_ble_eq_true rfl⟩) (va_recv X.1 X.2.1 (ci := 12) (q0 := 0) rfl rfl) X.1 X.2.1 X.2.2.1 (free_all X) hl.1 rfl rfl (Nat.le_of_ble_eq_true rfl) dX12_putReal_36 ⟨Nat.le_of_ble_eq_true rfl, Nat.le_of_ble_eq_true rfl⟩ (fun t H1 locs1 ht hB hk hS => ?_)
  have X : Hx D (tX12 yT) A s H1 locs1 (wX12 hT aT yT q_5) := Hx_after_all X ht hB hS
  clear hk hS ht hB
  generalize H1 = H at X ⊢
  generalize locs1 = locs at X ⊢
  refine lv_iload_n hx hb dX12_putReal_39 rfl (lv_at hl 3 rfl) ?_
  refine lv_if_ne (tgt := 44) hx hb dX12_putReal_40 (by decide) (fun c => ?_) (fun c => ?_)
  · replace hF := iF c hF
    refine lv_aload_n hx hb dX12_putReal_44 rfl (lv_at hl 1 rfl) ?_
    refine lv_bipush (v := (46 : Int32)) hx hb dX12_putReal_45 (by decide) ?_
    obtain ⟨q_7, hc_8, hF⟩ := bnd_some hF
    refine cV_v (As := [.int (46 : Int32)]) (rest := []) C X (c_X12_put l D hT aT yT q_5 (46 : Int32) q_7 hc_8 _) (cwV 1 hts (good_V q9_224 q9_226 q0_129 q1_9 q9_227) rfl rfl rfl (by decide +kernel) ⟨Nat.le_of_ble_eq_true rfl, Nat.le_of_ble_eq_true rfl⟩) (va_recv X.1 X.2.1 (ci := 12) (q0 := 0) rfl rfl) X.1 X.2.1 X.2.2.1 (free_all X) hl.1 rfl rfl (Nat.le_of_ble_eq_true rfl) dX12_putReal_47 ⟨Nat.le_of_ble_eq_true rfl, Nat.le_of_ble_eq_true rfl⟩ (fun t H1 locs1 ht hB hk hS => ?_)
    have X : Hx D (tX12 yT) A s H1 locs1 (wX12 hT aT yT q_7) := Hx_after_all X ht hB hS
    clear hk hS ht hB
    generalize H1 = H at X ⊢
    generalize locs1 = locs at X ⊢
    refine lv_aload_n hx hb dX12_putReal_50 rfl (lv_at hl 1 rfl) ?_
    refine lv_lload hx hb dX12_putReal_51 (lv_at hl 0 rfl) ?_
    refine lv_ldc2 hx hb hown (hts _ q6_193) dX12_putReal_53 ?_
    obtain ⟨q_9, hc_10, hF⟩ := bnd_some hF
    refine cV_l (As := [.long q_1, .long (4607182418800017408 : Int64)]) (rest := []) C X (c_X12_remainder l D hT aT yT n q_7 q_1 (4607182418800017408 : Int64) q_9 hc_10 _) (cwV 2 hts (good_V q9_92 q9_94 q0_114 q1_9 q9_95) rfl rfl rfl (by decide +kernel) ⟨Nat.le_of_ble_eq_true rfl, Nat.le_of_ble_eq_true rfl⟩) (va_recv X.1 X.2.1 (ci := 12) (q0 := 0) rfl rfl) X.1 X.2.1 X.2.2.1 (free_all X) hl.1 rfl rfl (Nat.le_of_ble_eq_true rfl) dX12_putReal_56 ⟨Nat.le_of_ble_eq_true rfl, Nat.le_of_ble_eq_true rfl⟩ (fun t H1 locs1 ht hB hk hS => ?_)
    have X : Hx D (tX12 yT) A s H1 locs1 (wX12 hT aT yT q_9.2) := Hx_after_all X ht hB hS
    clear hk hS ht hB
    generalize H1 = H at X ⊢
    generalize locs1 = locs at X ⊢
    obtain ⟨h_11, hF⟩ := grd_some hF
    refine vn_l2d hx hb (by rw [hml]; exact hl.1.symm) hown (hts _ q9_118) (hts _ q9_120) (hts _ q9_119) (hts _ q1_24) (nsnB_ok h_11) (Nat.le_of_ble_eq_true rfl) (Nat.le_of_ble_eq_true rfl) dX12_putReal_59 ?_
    refine lv_dstore (lv' := [(6, .double q_9.1.toUInt64), (4, .long q_1), (0, .ref hT), (1, .long v1), (3, .int v3)]) hx hb dX12_putReal_62 hl (by decide) rfl (fun ls hl => ?_)
    refine lv_iconst (v := (0 : Int32)) hx hb dX12_putReal_64 (by decide) ?_
    refine lv_istore (lv' := [(8, .int (0 : Int32)), (6, .double q_9.1.toUInt64), (4, .long q_1), (0, .ref hT), (1, .long v1), (3, .int v3)]) hx hb dX12_putReal_65 hl (by decide) rfl (fun ls hl => ?_)
    exact IH C X (lv_sub hl [3, 5, 1, 0] rfl) hF
  · replace hF := iT c hF
    have hq := Option.some.inj hF
    subst hq
    exact rt_v C X dX12_putReal_43
theorem kL_X12_putReal (l : Launch) (D : Dx) (hT : Nat) (aT : Nat → Nat) (yT : Nat → ClassId) (n : Nat) : ∀ k, SH_X12_putReal l D hT aT yT (L_X12_putReal n k)
  | 0 => fun _ _ _ h => by cases h
  | k + 1 => k_X12_putReal_67 l D hT aT yT n _ (kL_X12_putReal l D hT aT yT n k)
set_option maxHeartbeats 4000000 in
set_option maxRecDepth 100000 in
theorem c_X12_putReal (l : Launch) (D : Dx) (hT : Nat) (aT : Nat → Nat) (yT : Nat → ClassId) (n : Nat) (gT : Gs) (x0 : Int64) (x1 : Int32) (q : Gs) (hF : f_X12_putReal n gT x0 x1 = some q) (sz : Nat) : Met l yX12_putReal (ws_ yX12_putReal cX12_putReal 10 none) R_X12_putReal (PC D (tX12 yT) [.ref hT, .long x0, .int x1] (wX12 hT aT yT gT) sz) (QV D (va_A (wX12 hT aT yT gT) sz) (wX12 hT aT yT q)) 0 0 (va_A (wX12 hT aT yT gT) sz) := by
  refine Met.ofW (cc := cX12_putReal) (maxL := 10) (ret := none) (by decide) rfl ?_
  intro p e s m args below meth c s₁ B hml hv
  obtain ⟨rfl, hsz, hP, hK, hD, hN⟩ := hv
  subst hsz
  have C : Cx p s m _ meth c cX12_putReal none 10 RX12 lw_all := Cx_of B hml
  have X := Hx_start hP hK hD hN
  obtain ⟨hx, hb, hr, -, hown, hts, hlk⟩ := id C
  generalize va_A (wX12 hT aT yT gT) s.heap.size = A at X ⊢
  have hl := lv_entry ([.ref hT, .long x0, .int x1]) (n := 10) (Nat.le_of_ble_eq_true rfl)
  rw [lg_entry_eq]
  generalize (lg_sl ([.ref hT, .long x0, .int x1]) ++ List.replicate (10 - (lg_sl ([.ref hT, .long x0, .int x1])).length) Slot.unset).toArray = ls at hl ⊢
  have hl : lv_has ls 10 [(0, .ref hT), (1, .long x0), (3, .int x1)] := hl
  unfold f_X12_putReal at hF
  refine lv_lload_n hx hb dX12_putReal_0 rfl (lv_at hl 1 rfl) ?_
  refine lv_lconst (v := (0 : Int64)) hx hb dX12_putReal_1 (by decide) ?_
  refine W.lcmp hx hb dX12_putReal_2 ?_
  refine lv_if_ge (tgt := 20) hx hb dX12_putReal_3 (by decide) (fun c => ?_) (fun c => ?_)
  · have c := (lg_cmp_ge _ _).mp c
    replace hF := iT c hF
    exact (k_X12_putReal_20 l D hT aT yT n (L_X12_putReal n n) (kL_X12_putReal l D hT aT yT n n)) C X (lv_sub hl [0, 1, 2] rfl) hF
  · have c := fun h => c ((lg_cmp_ge _ _).mpr h)
    replace hF := iF c hF
    refine lv_lload_n hx hb dX12_putReal_6 rfl (lv_at hl 1 rfl) ?_
    refine lv_ldc2 hx hb hown (hts _ q8_135) dX12_putReal_7 ?_
    refine W.lcmp hx hb dX12_putReal_10 ?_
    refine lv_if_eq (tgt := 20) hx hb dX12_putReal_11 (by decide) (fun c => ?_) (fun c => ?_)
    · have c := (lg_cmp_eq _ _).mp c
      replace hF := iT c hF
      exact (k_X12_putReal_20 l D hT aT yT n (L_X12_putReal n n) (kL_X12_putReal l D hT aT yT n n)) C X (lv_sub hl [0, 1, 2] rfl) hF
    · have c := fun h => c ((lg_cmp_eq _ _).mpr h)
      replace hF := iF c hF
      refine lv_aload_n hx hb dX12_putReal_14 rfl (lv_at hl 0 rfl) ?_
      refine lv_bipush (v := (45 : Int32)) hx hb dX12_putReal_15 (by decide) ?_
      obtain ⟨q_20, hc_21, hF⟩ := bnd_some hF
      refine cV_v (As := [.int (45 : Int32)]) (rest := []) C X (c_X12_put l D hT aT yT gT (45 : Int32) q_20 hc_21 _) (cwV 1 hts (good_V q9_224 q9_226 q0_129 q1_9 q9_227) rfl rfl rfl (by decide +kernel) ⟨Nat.le_of_ble_eq_true rfl, Nat.le_of_ble_eq_true rfl⟩) (va_recv X.1 X.2.1 (ci := 12) (q0 := 0) rfl rfl) X.1 X.2.1 X.2.2.1 (free_all X) hl.1 rfl rfl (Nat.le_of_ble_eq_true rfl) dX12_putReal_17 ⟨Nat.le_of_ble_eq_true rfl, Nat.le_of_ble_eq_true rfl⟩ (fun t H1 locs1 ht hB hk hS => ?_)
      have X : Hx D (tX12 yT) A s H1 locs1 (wX12 hT aT yT q_20) := Hx_after_all X ht hB hS
      clear hk hS ht hB
      generalize H1 = H at X ⊢
      generalize locs1 = locs at X ⊢
      exact (k_X12_putReal_20 l D hT aT yT n (L_X12_putReal n n) (kL_X12_putReal l D hT aT yT n n)) C X (lv_sub hl [0, 1, 2] rfl) hF

/-! ### X12_dial -/
theorem dX12_dial_0 : decode cX12_dial 0 = .ok (.lload_n 1, 1) := by decide +kernel
theorem dX12_dial_1 : decode cX12_dial 1 = .ok (.invokestatic 501, 3) := by decide +kernel
theorem dX12_dial_4 : decode cX12_dial 4 = .ok (.ifCond .eq 13, 3) := by decide +kernel
theorem dX12_dial_7 : decode cX12_dial 7 = .ok (.iload_n 3, 1) := by decide +kernel
theorem dX12_dial_8 : decode cX12_dial 8 = .ok (.ifCond .lt 9, 3) := by decide +kernel
theorem dX12_dial_11 : decode cX12_dial 11 = .ok (.iload_n 3, 1) := by decide +kernel
theorem dX12_dial_12 : decode cX12_dial 12 = .ok (.bipush 18, 2) := by decide +kernel
theorem dX12_dial_14 : decode cX12_dial 14 = .ok (.if_icmp .le 5, 3) := by decide +kernel
theorem dX12_dial_17 : decode cX12_dial 17 = .ok (.iconst (-1), 1) := by decide +kernel
theorem dX12_dial_18 : decode cX12_dial 18 = .ok (.ireturn, 1) := by decide +kernel
theorem dX12_dial_19 : decode cX12_dial 19 = .ok (.aload_n 0, 1) := by decide +kernel
theorem dX12_dial_20 : decode cX12_dial 20 = .ok (.iconst 0, 1) := by decide +kernel
theorem dX12_dial_21 : decode cX12_dial 21 = .ok (.putfield 358, 3) := by decide +kernel
theorem dX12_dial_24 : decode cX12_dial 24 = .ok (.aload_n 0, 1) := by decide +kernel
theorem dX12_dial_25 : decode cX12_dial 25 = .ok (.lload_n 1, 1) := by decide +kernel
theorem dX12_dial_26 : decode cX12_dial 26 = .ok (.iload_n 3, 1) := by decide +kernel
theorem dX12_dial_27 : decode cX12_dial 27 = .ok (.invokevirtual 737, 3) := by decide +kernel
theorem dX12_dial_30 : decode cX12_dial 30 = .ok (.aload_n 0, 1) := by decide +kernel
theorem dX12_dial_31 : decode cX12_dial 31 = .ok (.getfield 358, 3) := by decide +kernel
theorem dX12_dial_34 : decode cX12_dial 34 = .ok (.ireturn, 1) := by decide +kernel
abbrev R_X12_dial : Room := ({ frames := 4, cells := 0, slots := 0, locals := 117 } : Room)
def f_X12_dial (n : Nat) (gT : Gs) (x0 : Int64) (x1 : Int32) : Option (Int32 × Gs) :=
  bnd (f_X12_isFinite x0) (fun q_1 => if q_1 = 0 then (some ((-1 : Int32), gT)) else (if x1 < 0 then (some ((-1 : Int32), gT)) else (if x1 ≤ (18 : Int32) then (bnd (f_X12_putReal n (sI gT 99 (0 : Int32)) x0 x1) (fun q_3 => some (gI q_3 99, q_3))) else (some ((-1 : Int32), gT)))))
set_option maxHeartbeats 4000000 in
set_option maxRecDepth 100000 in
theorem c_X12_dial (l : Launch) (D : Dx) (hT : Nat) (aT : Nat → Nat) (yT : Nat → ClassId) (n : Nat) (gT : Gs) (x0 : Int64) (x1 : Int32) (q : Int32 × Gs) (hF : f_X12_dial n gT x0 x1 = some q) (sz : Nat) : Met l yX12_dial (ws_ yX12_dial cX12_dial 4 (some .int)) R_X12_dial (PC D (tX12 yT) [.ref hT, .long x0, .int x1] (wX12 hT aT yT gT) sz) (QI D (va_A (wX12 hT aT yT gT) sz) (wX12 hT aT yT q.2) q.1) 0 0 (va_A (wX12 hT aT yT gT) sz) := by
  refine Met.ofW (cc := cX12_dial) (maxL := 4) (ret := (some .int)) (by decide) rfl ?_
  intro p e s m args below meth c s₁ B hml hv
  obtain ⟨rfl, hsz, hP, hK, hD, hN⟩ := hv
  subst hsz
  have C : Cx p s m _ meth c cX12_dial (some .int) 4 RX12 lw_all := Cx_of B hml
  have X := Hx_start hP hK hD hN
  obtain ⟨hx, hb, hr, -, hown, hts, hlk⟩ := id C
  generalize va_A (wX12 hT aT yT gT) s.heap.size = A at X ⊢
  have hl := lv_entry ([.ref hT, .long x0, .int x1]) (n := 4) (Nat.le_of_ble_eq_true rfl)
  rw [lg_entry_eq]
  generalize (lg_sl ([.ref hT, .long x0, .int x1]) ++ List.replicate (4 - (lg_sl ([.ref hT, .long x0, .int x1])).length) Slot.unset).toArray = ls at hl ⊢
  have hl : lv_has ls 4 [(0, .ref hT), (1, .long x0), (3, .int x1)] := hl
  unfold f_X12_dial at hF
  refine lv_lload_n hx hb dX12_dial_0 rfl (lv_at hl 1 rfl) ?_
  obtain ⟨q_1, hc_2, hF⟩ := bnd_some hF
  refine cS_i (As := [.long x0]) (rest := []) C X (c_X12_isFinite l D  x0 q_1 hc_2 _) (va_cwS 1 hts (good_S q9_121 q9_122 q1_9 q9_123) rfl rfl rfl (by decide +kernel) ⟨Nat.le_of_ble_eq_true rfl, Nat.le_of_ble_eq_true rfl⟩) (eK X) eP (eD (A := A)) (eF X) hl.1 rfl rfl (Nat.le_of_ble_eq_true rfl) dX12_dial_1 ⟨Nat.le_of_ble_eq_true rfl, Nat.le_of_ble_eq_true rfl⟩ (fun t H1 locs1 ht hB hk hS => ?_)
  have X := Hx_after_none X hk hS
  clear hk hS ht hB
  generalize H1 = H at X ⊢
  generalize locs1 = locs at X ⊢
  refine lv_if_eq (tgt := 17) hx hb dX12_dial_4 (by decide) (fun c => ?_) (fun c => ?_)
  · replace hF := iT c hF
    refine lv_iconst (v := (-1 : Int32)) hx hb dX12_dial_17 (by decide) ?_
    have hq := Option.some.inj hF
    subst hq
    exact rt_i C X dX12_dial_18
  · replace hF := iF c hF
    refine lv_iload_n hx hb dX12_dial_7 rfl (lv_at hl 2 rfl) ?_
    refine lv_if_lt (tgt := 17) hx hb dX12_dial_8 (by decide) (fun c => ?_) (fun c => ?_)
    · replace hF := iT c hF
      refine lv_iconst (v := (-1 : Int32)) hx hb dX12_dial_17 (by decide) ?_
      have hq := Option.some.inj hF
      subst hq
      exact rt_i C X dX12_dial_18
    · replace hF := iF c hF
      refine lv_iload_n hx hb dX12_dial_11 rfl (lv_at hl 2 rfl) ?_
      refine lv_bipush (v := (18 : Int32)) hx hb dX12_dial_12 (by decide) ?_
      refine lv_icmp_le (tgt := 19) hx hb dX12_dial_14 (by decide) (fun c => ?_) (fun c => ?_)
      · replace hF := iT c hF
        refine lv_aload_n hx hb dX12_dial_19 rfl (lv_at hl 0 rfl) ?_
        refine lv_iconst (v := (0 : Int32)) hx hb dX12_dial_20 (by decide) ?_
        refine va_put (D := D.1) (ci := 12) (v := .int (0 : Int32)) (ty := .int) (C := RX12) (T := TX12) (N := 114) hx hb hts wi_X12 tyX12 tyX12_ok nmX12 hown X.1 X.2.1 X.2.2.1 X.2.2.2.1 0 rfl rfl 99 (by decide) (hts _ q7_53) (fun _ h9 => h9) rfl (by decide +kernel) rfl rfl (by rw [List.length_map, List.length_range]; decide) dX12_dial_21 (fun H locs hP hD hS => ?_)
        have X : Hx D (tX12 yT) A s H locs (wX12 hT aT yT (sI gT 99 (0 : Int32))) := Hx_set X (wG_sI (k := 99) rfl) hP hD hS
        refine lv_aload_n hx hb dX12_dial_24 rfl (lv_at hl 0 rfl) ?_
        refine lv_lload_n hx hb dX12_dial_25 rfl (lv_at hl 1 rfl) ?_
        refine lv_iload_n hx hb dX12_dial_26 rfl (lv_at hl 2 rfl) ?_
        obtain ⟨q_3, hc_4, hF⟩ := bnd_some hF
        refine cV_v (As := [.long x0, .int x1]) (rest := []) C X (c_X12_putReal l D hT aT yT n (sI gT 99 (0 : Int32)) x0 x1 q_3 hc_4 _) (cwV 2 hts (good_V q9_220 q9_222 q0_128 q1_9 q9_223) rfl rfl rfl (by decide +kernel) ⟨Nat.le_of_ble_eq_true rfl, Nat.le_of_ble_eq_true rfl⟩) (va_recv X.1 X.2.1 (ci := 12) (q0 := 0) rfl rfl) X.1 X.2.1 X.2.2.1 (free_all X) hl.1 rfl rfl (Nat.le_of_ble_eq_true rfl) dX12_dial_27 ⟨Nat.le_of_ble_eq_true rfl, Nat.le_of_ble_eq_true rfl⟩ (fun t H1 locs1 ht hB hk hS => ?_)
        have X : Hx D (tX12 yT) A s H1 locs1 (wX12 hT aT yT q_3) := Hx_after_all X ht hB hS
        clear hk hS ht hB
        generalize H1 = H at X ⊢
        generalize locs1 = locs at X ⊢
        refine lv_aload_n hx hb dX12_dial_30 rfl (lv_at hl 0 rfl) ?_
        refine va_get (D := D.1) (ci := 12) (v := .int (gI q_3 99)) (C := RX12) (T := TX12) (N := 114) hx hb hts wi_X12 hown X.1 X.2.1 0 rfl rfl 99 (by decide) (hts _ q7_53) (fun _ h9 => h9) (fl_get (by decide)) dX12_dial_31 ?_
        have hq := Option.some.inj hF
        subst hq
        exact rt_i C X dX12_dial_34
      · replace hF := iF c hF
        refine lv_iconst (v := (-1 : Int32)) hx hb dX12_dial_17 (by decide) ?_
        have hq := Option.some.inj hF
        subst hq
        exact rt_i C X dX12_dial_18

/-! ### X12_putTwo -/
theorem dX12_putTwo_0 : decode cX12_putTwo 0 = .ok (.aload_n 0, 1) := by decide +kernel
theorem dX12_putTwo_1 : decode cX12_putTwo 1 = .ok (.bipush 48, 2) := by decide +kernel
theorem dX12_putTwo_3 : decode cX12_putTwo 3 = .ok (.iload_n 1, 1) := by decide +kernel
theorem dX12_putTwo_4 : decode cX12_putTwo 4 = .ok (.bipush 10, 2) := by decide +kernel
theorem dX12_putTwo_6 : decode cX12_putTwo 6 = .ok (.idiv, 1) := by decide +kernel
theorem dX12_putTwo_7 : decode cX12_putTwo 7 = .ok (.iadd, 1) := by decide +kernel
theorem dX12_putTwo_8 : decode cX12_putTwo 8 = .ok (.invokevirtual 731, 3) := by decide +kernel
theorem dX12_putTwo_11 : decode cX12_putTwo 11 = .ok (.aload_n 0, 1) := by decide +kernel
theorem dX12_putTwo_12 : decode cX12_putTwo 12 = .ok (.bipush 48, 2) := by decide +kernel
theorem dX12_putTwo_14 : decode cX12_putTwo 14 = .ok (.iload_n 1, 1) := by decide +kernel
theorem dX12_putTwo_15 : decode cX12_putTwo 15 = .ok (.bipush 10, 2) := by decide +kernel
theorem dX12_putTwo_17 : decode cX12_putTwo 17 = .ok (.irem, 1) := by decide +kernel
theorem dX12_putTwo_18 : decode cX12_putTwo 18 = .ok (.iadd, 1) := by decide +kernel
theorem dX12_putTwo_19 : decode cX12_putTwo 19 = .ok (.invokevirtual 731, 3) := by decide +kernel
theorem dX12_putTwo_22 : decode cX12_putTwo 22 = .ok (.return_, 1) := by decide +kernel
abbrev R_X12_putTwo : Room := ({ frames := 1, cells := 0, slots := 0, locals := 21 } : Room)
def f_X12_putTwo (gT : Gs) (x0 : Int32) : Option (Gs) :=
  bnd (f_X12_put gT ((48 : Int32) + (x0 / (10 : Int32)))) (fun q_1 => bnd (f_X12_put q_1 ((48 : Int32) + (x0 - x0 / (10 : Int32) * (10 : Int32)))) (fun q_3 => some q_3))
set_option maxHeartbeats 4000000 in
set_option maxRecDepth 100000 in
theorem c_X12_putTwo (l : Launch) (D : Dx) (hT : Nat) (aT : Nat → Nat) (yT : Nat → ClassId) (gT : Gs) (x0 : Int32) (q : Gs) (hF : f_X12_putTwo gT x0 = some q) (sz : Nat) : Met l yX12_putTwo (ws_ yX12_putTwo cX12_putTwo 2 none) R_X12_putTwo (PC D (tX12 yT) [.ref hT, .int x0] (wX12 hT aT yT gT) sz) (QV D (va_A (wX12 hT aT yT gT) sz) (wX12 hT aT yT q)) 0 0 (va_A (wX12 hT aT yT gT) sz) := by
  refine Met.ofW (cc := cX12_putTwo) (maxL := 2) (ret := none) (by decide) rfl ?_
  intro p e s m args below meth c s₁ B hml hv
  obtain ⟨rfl, hsz, hP, hK, hD, hN⟩ := hv
  subst hsz
  have C : Cx p s m _ meth c cX12_putTwo none 2 RX12 lw_all := Cx_of B hml
  have X := Hx_start hP hK hD hN
  obtain ⟨hx, hb, hr, -, hown, hts, hlk⟩ := id C
  generalize va_A (wX12 hT aT yT gT) s.heap.size = A at X ⊢
  have hl := lv_entry ([.ref hT, .int x0]) (n := 2) (Nat.le_of_ble_eq_true rfl)
  rw [lg_entry_eq]
  generalize (lg_sl ([.ref hT, .int x0]) ++ List.replicate (2 - (lg_sl ([.ref hT, .int x0])).length) Slot.unset).toArray = ls at hl ⊢
  have hl : lv_has ls 2 [(0, .ref hT), (1, .int x0)] := hl
  unfold f_X12_putTwo at hF
  refine lv_aload_n hx hb dX12_putTwo_0 rfl (lv_at hl 0 rfl) ?_
  refine lv_bipush (v := (48 : Int32)) hx hb dX12_putTwo_1 (by decide) ?_
  refine lv_iload_n hx hb dX12_putTwo_3 rfl (lv_at hl 1 rfl) ?_
  refine lv_bipush (v := (10 : Int32)) hx hb dX12_putTwo_4 (by decide) ?_
  refine lv_idiv hx hb dX12_putTwo_6 (by decide) ?_
  refine lv_iadd hx hb dX12_putTwo_7 ?_
  obtain ⟨q_1, hc_2, hF⟩ := bnd_some hF
  refine cV_v (As := [.int ((48 : Int32) + (x0 / (10 : Int32)))]) (rest := []) C X (c_X12_put l D hT aT yT gT ((48 : Int32) + (x0 / (10 : Int32))) q_1 hc_2 _) (cwV 1 hts (good_V q9_224 q9_226 q0_129 q1_9 q9_227) rfl rfl rfl (by decide +kernel) ⟨Nat.le_of_ble_eq_true rfl, Nat.le_of_ble_eq_true rfl⟩) (va_recv X.1 X.2.1 (ci := 12) (q0 := 0) rfl rfl) X.1 X.2.1 X.2.2.1 (free_all X) hl.1 rfl rfl (Nat.le_of_ble_eq_true rfl) dX12_putTwo_8 ⟨Nat.le_of_ble_eq_true rfl, Nat.le_of_ble_eq_true rfl⟩ (fun t H1 locs1 ht hB hk hS => ?_)
  have X : Hx D (tX12 yT) A s H1 locs1 (wX12 hT aT yT q_1) := Hx_after_all X ht hB hS
  clear hk hS ht hB
  generalize H1 = H at X ⊢
  generalize locs1 = locs at X ⊢
  refine lv_aload_n hx hb dX12_putTwo_11 rfl (lv_at hl 0 rfl) ?_
  refine lv_bipush (v := (48 : Int32)) hx hb dX12_putTwo_12 (by decide) ?_
  refine lv_iload_n hx hb dX12_putTwo_14 rfl (lv_at hl 1 rfl) ?_
  refine lv_bipush (v := (10 : Int32)) hx hb dX12_putTwo_15 (by decide) ?_
  refine lv_irem hx hb dX12_putTwo_17 (by decide) ?_
  refine lv_iadd hx hb dX12_putTwo_18 ?_
  obtain ⟨q_3, hc_4, hF⟩ := bnd_some hF
  refine cV_v (As := [.int ((48 : Int32) + (x0 - x0 / (10 : Int32) * (10 : Int32)))]) (rest := []) C X (c_X12_put l D hT aT yT q_1 ((48 : Int32) + (x0 - x0 / (10 : Int32) * (10 : Int32))) q_3 hc_4 _) (cwV 1 hts (good_V q9_224 q9_226 q0_129 q1_9 q9_227) rfl rfl rfl (by decide +kernel) ⟨Nat.le_of_ble_eq_true rfl, Nat.le_of_ble_eq_true rfl⟩) (va_recv X.1 X.2.1 (ci := 12) (q0 := 0) rfl rfl) X.1 X.2.1 X.2.2.1 (free_all X) hl.1 rfl rfl (Nat.le_of_ble_eq_true rfl) dX12_putTwo_19 ⟨Nat.le_of_ble_eq_true rfl, Nat.le_of_ble_eq_true rfl⟩ (fun t H1 locs1 ht hB hk hS => ?_)
  have X : Hx D (tX12 yT) A s H1 locs1 (wX12 hT aT yT q_3) := Hx_after_all X ht hB hS
  clear hk hS ht hB
  generalize H1 = H at X ⊢
  generalize locs1 = locs at X ⊢
  have hq := Option.some.inj hF
  subst hq
  exact rt_v C X dX12_putTwo_22

/-! ### X12_clock -/
theorem dX12_clock_0 : decode cX12_clock 0 = .ok (.lload_n 1, 1) := by decide +kernel
theorem dX12_clock_1 : decode cX12_clock 1 = .ok (.invokestatic 501, 3) := by decide +kernel
theorem dX12_clock_4 : decode cX12_clock 4 = .ok (.ifCond .ne 5, 3) := by decide +kernel
theorem dX12_clock_7 : decode cX12_clock 7 = .ok (.iconst (-1), 1) := by decide +kernel
theorem dX12_clock_8 : decode cX12_clock 8 = .ok (.ireturn, 1) := by decide +kernel
theorem dX12_clock_9 : decode cX12_clock 9 = .ok (.ldc2_w 740, 3) := by decide +kernel
theorem dX12_clock_12 : decode cX12_clock 12 = .ok (.dstore_n 3, 1) := by decide +kernel
theorem dX12_clock_13 : decode cX12_clock 13 = .ok (.dload_n 3, 1) := by decide +kernel
theorem dX12_clock_14 : decode cX12_clock 14 = .ok (.invokestatic 497, 3) := by decide +kernel
theorem dX12_clock_17 : decode cX12_clock 17 = .ok (.lstore 5, 2) := by decide +kernel
theorem dX12_clock_19 : decode cX12_clock 19 = .ok (.aload_n 0, 1) := by decide +kernel
theorem dX12_clock_20 : decode cX12_clock 20 = .ok (.lload_n 1, 1) := by decide +kernel
theorem dX12_clock_21 : decode cX12_clock 21 = .ok (.lload 5, 2) := by decide +kernel
theorem dX12_clock_23 : decode cX12_clock 23 = .ok (.invokevirtual 481, 3) := by decide +kernel
theorem dX12_clock_26 : decode cX12_clock 26 = .ok (.invokestatic 491, 3) := by decide +kernel
theorem dX12_clock_29 : decode cX12_clock 29 = .ok (.dstore 7, 2) := by decide +kernel
theorem dX12_clock_31 : decode cX12_clock 31 = .ok (.dload 7, 2) := by decide +kernel
theorem dX12_clock_33 : decode cX12_clock 33 = .ok (.dconst 0, 1) := by decide +kernel
theorem dX12_clock_34 : decode cX12_clock 34 = .ok (.dcmp .g, 1) := by decide +kernel
theorem dX12_clock_35 : decode cX12_clock 35 = .ok (.ifCond .ge 9, 3) := by decide +kernel
theorem dX12_clock_38 : decode cX12_clock 38 = .ok (.dload 7, 2) := by decide +kernel
theorem dX12_clock_40 : decode cX12_clock 40 = .ok (.dload_n 3, 1) := by decide +kernel
theorem dX12_clock_41 : decode cX12_clock 41 = .ok (.dadd, 1) := by decide +kernel
theorem dX12_clock_42 : decode cX12_clock 42 = .ok (.dstore 7, 2) := by decide +kernel
theorem dX12_clock_44 : decode cX12_clock 44 = .ok (.dload 7, 2) := by decide +kernel
theorem dX12_clock_46 : decode cX12_clock 46 = .ok (.dload_n 3, 1) := by decide +kernel
theorem dX12_clock_47 : decode cX12_clock 47 = .ok (.dcmp .l, 1) := by decide +kernel
theorem dX12_clock_48 : decode cX12_clock 48 = .ok (.ifCond .ne 6, 3) := by decide +kernel
theorem dX12_clock_51 : decode cX12_clock 51 = .ok (.dconst 0, 1) := by decide +kernel
theorem dX12_clock_52 : decode cX12_clock 52 = .ok (.dstore 7, 2) := by decide +kernel
theorem dX12_clock_54 : decode cX12_clock 54 = .ok (.aload_n 0, 1) := by decide +kernel
theorem dX12_clock_55 : decode cX12_clock 55 = .ok (.iconst 0, 1) := by decide +kernel
theorem dX12_clock_56 : decode cX12_clock 56 = .ok (.putfield 358, 3) := by decide +kernel
theorem dX12_clock_59 : decode cX12_clock 59 = .ok (.aload_n 0, 1) := by decide +kernel
theorem dX12_clock_60 : decode cX12_clock 60 = .ok (.aload_n 0, 1) := by decide +kernel
theorem dX12_clock_61 : decode cX12_clock 61 = .ok (.lload_n 1, 1) := by decide +kernel
theorem dX12_clock_62 : decode cX12_clock 62 = .ok (.invokestatic 491, 3) := by decide +kernel
theorem dX12_clock_65 : decode cX12_clock 65 = .ok (.dload_n 3, 1) := by decide +kernel
theorem dX12_clock_66 : decode cX12_clock 66 = .ok (.ddiv, 1) := by decide +kernel
theorem dX12_clock_67 : decode cX12_clock 67 = .ok (.invokestatic 497, 3) := by decide +kernel
theorem dX12_clock_70 : decode cX12_clock 70 = .ok (.iconst 0, 1) := by decide +kernel
theorem dX12_clock_71 : decode cX12_clock 71 = .ok (.invokevirtual 666, 3) := by decide +kernel
theorem dX12_clock_74 : decode cX12_clock 74 = .ok (.iconst 0, 1) := by decide +kernel
theorem dX12_clock_75 : decode cX12_clock 75 = .ok (.invokevirtual 737, 3) := by decide +kernel
theorem dX12_clock_78 : decode cX12_clock 78 = .ok (.aload_n 0, 1) := by decide +kernel
theorem dX12_clock_79 : decode cX12_clock 79 = .ok (.dload 7, 2) := by decide +kernel
theorem dX12_clock_81 : decode cX12_clock 81 = .ok (.invokestatic 497, 3) := by decide +kernel
theorem dX12_clock_84 : decode cX12_clock 84 = .ok (.bipush 7, 2) := by decide +kernel
theorem dX12_clock_86 : decode cX12_clock 86 = .ok (.iconst 4, 1) := by decide +kernel
theorem dX12_clock_87 : decode cX12_clock 87 = .ok (.invokevirtual 473, 3) := by decide +kernel
theorem dX12_clock_90 : decode cX12_clock 90 = .ok (.l2i, 1) := by decide +kernel
theorem dX12_clock_91 : decode cX12_clock 91 = .ok (.istore 9, 2) := by decide +kernel
theorem dX12_clock_93 : decode cX12_clock 93 = .ok (.aload_n 0, 1) := by decide +kernel
theorem dX12_clock_94 : decode cX12_clock 94 = .ok (.bipush 32, 2) := by decide +kernel
theorem dX12_clock_96 : decode cX12_clock 96 = .ok (.invokevirtual 731, 3) := by decide +kernel
theorem dX12_clock_99 : decode cX12_clock 99 = .ok (.aload_n 0, 1) := by decide +kernel
theorem dX12_clock_100 : decode cX12_clock 100 = .ok (.iload 9, 2) := by decide +kernel
theorem dX12_clock_102 : decode cX12_clock 102 = .ok (.sipush 3600, 3) := by decide +kernel
theorem dX12_clock_105 : decode cX12_clock 105 = .ok (.idiv, 1) := by decide +kernel
theorem dX12_clock_106 : decode cX12_clock 106 = .ok (.invokevirtual 742, 3) := by decide +kernel
theorem dX12_clock_109 : decode cX12_clock 109 = .ok (.aload_n 0, 1) := by decide +kernel
theorem dX12_clock_110 : decode cX12_clock 110 = .ok (.bipush 58, 2) := by decide +kernel
theorem dX12_clock_112 : decode cX12_clock 112 = .ok (.invokevirtual 731, 3) := by decide +kernel
theorem dX12_clock_115 : decode cX12_clock 115 = .ok (.aload_n 0, 1) := by decide +kernel
theorem dX12_clock_116 : decode cX12_clock 116 = .ok (.iload 9, 2) := by decide +kernel
theorem dX12_clock_118 : decode cX12_clock 118 = .ok (.bipush 60, 2) := by decide +kernel
theorem dX12_clock_120 : decode cX12_clock 120 = .ok (.idiv, 1) := by decide +kernel
theorem dX12_clock_121 : decode cX12_clock 121 = .ok (.bipush 60, 2) := by decide +kernel
theorem dX12_clock_123 : decode cX12_clock 123 = .ok (.irem, 1) := by decide +kernel
theorem dX12_clock_124 : decode cX12_clock 124 = .ok (.invokevirtual 742, 3) := by decide +kernel
theorem dX12_clock_127 : decode cX12_clock 127 = .ok (.aload_n 0, 1) := by decide +kernel
theorem dX12_clock_128 : decode cX12_clock 128 = .ok (.bipush 58, 2) := by decide +kernel
theorem dX12_clock_130 : decode cX12_clock 130 = .ok (.invokevirtual 731, 3) := by decide +kernel
theorem dX12_clock_133 : decode cX12_clock 133 = .ok (.aload_n 0, 1) := by decide +kernel
theorem dX12_clock_134 : decode cX12_clock 134 = .ok (.iload 9, 2) := by decide +kernel
theorem dX12_clock_136 : decode cX12_clock 136 = .ok (.bipush 60, 2) := by decide +kernel
theorem dX12_clock_138 : decode cX12_clock 138 = .ok (.irem, 1) := by decide +kernel
theorem dX12_clock_139 : decode cX12_clock 139 = .ok (.invokevirtual 742, 3) := by decide +kernel
theorem dX12_clock_142 : decode cX12_clock 142 = .ok (.aload_n 0, 1) := by decide +kernel
theorem dX12_clock_143 : decode cX12_clock 143 = .ok (.getfield 358, 3) := by decide +kernel
theorem dX12_clock_146 : decode cX12_clock 146 = .ok (.ireturn, 1) := by decide +kernel
abbrev R_X12_clock : Room := ({ frames := 4, cells := 0, slots := 0, locals := 117 } : Room)
def b_X12_clock_54 (n : Nat) (gT : Gs) (v1 : Int64) (v3 : UInt64) (v7 : UInt64) : Option (Int32 × Gs) :=
  grd (nsnB v1) (grd (n64 (FP.ddiv v1.toUInt64 v3)) (bnd (f_Jxe99ae_doubleToLongBits_ccdee (FP.ddiv v1.toUInt64 v3)) (fun q_10 => bnd (f_X12_evened n (sI gT 99 (0 : Int32)) q_10 (0 : Int32)) (fun q_12 => bnd (f_X12_putReal n q_12.2 q_12.1 (0 : Int32)) (fun q_14 => bnd (f_Jxe99ae_doubleToLongBits_ccdee v7) (fun q_16 => bnd (f_X12_towards n q_14 q_16 (7 : Int32) (4 : Int32)) (fun q_18 => bnd (f_X12_put q_18.2 (32 : Int32)) (fun q_20 => bnd (f_X12_putTwo q_20 (q_18.1.toInt32 / (3600 : Int32))) (fun q_22 => bnd (f_X12_put q_22 (58 : Int32)) (fun q_24 => bnd (f_X12_putTwo q_24 ((q_18.1.toInt32 / (60 : Int32)) - (q_18.1.toInt32 / (60 : Int32)) / (60 : Int32) * (60 : Int32))) (fun q_26 => bnd (f_X12_put q_26 (58 : Int32)) (fun q_28 => bnd (f_X12_putTwo q_28 (q_18.1.toInt32 - q_18.1.toInt32 / (60 : Int32) * (60 : Int32))) (fun q_30 => some (gI q_30 99, q_30))))))))))))))
def b_X12_clock_44 (n : Nat) (gT : Gs) (v1 : Int64) (v3 : UInt64) (v7 : UInt64) : Option (Int32 × Gs) :=
  if (Op.cmpValue (FP.dcmp v7 v3) .l) = 0 then (b_X12_clock_54 n gT v1 v3 FP.dconst0) else (b_X12_clock_54 n gT v1 v3 v7)
def f_X12_clock (n : Nat) (gT : Gs) (x0 : Int64) : Option (Int32 × Gs) :=
  bnd (f_X12_isFinite x0) (fun q_1 => if q_1 = 0 then (some ((-1 : Int32), gT)) else (bnd (f_Jxe99ae_doubleToLongBits_ccdee (4680673776000565248 : UInt64)) (fun q_3 => bnd (f_X12_remainder n gT x0 q_3) (fun q_5 => grd (nsnB q_5.1) (if 0 ≤ (Op.cmpValue (FP.dcmp q_5.1.toUInt64 FP.dconst0) .g) then (b_X12_clock_44 n q_5.2 x0 (4680673776000565248 : UInt64) q_5.1.toUInt64) else (grd (n64 (FP.dadd q_5.1.toUInt64 (4680673776000565248 : UInt64))) (b_X12_clock_44 n q_5.2 x0 (4680673776000565248 : UInt64) (FP.dadd q_5.1.toUInt64 (4680673776000565248 : UInt64)))))))))
def S_X12_clock_54 (l : Launch) (D : Dx) (hT : Nat) (aT : Nat → Nat) (yT : Nat → ClassId) (fn : Gs → Int64 → UInt64 → UInt64 → Option (Int32 × Gs)) : Prop :=
  ∀ {p : Program} {e : Env} {s : State} {m : MethodId} {args : Array Value} {below : List Frame} {meth : Method} {c : Code} {H : Heap} {locs : List Loc} {A : Nat → Prop} {ls : Array Slot} {gT : Gs} {v1 : Int64} {v3 : UInt64} {v7 : UInt64} {q : Int32 × Gs}, Cx p s m args meth c cX12_clock (some .int) 10 RX12 lw_all → Hx D (tX12 yT) A s H locs (wX12 hT aT yT gT) → lv_has ls 10 [(0, .ref hT), (1, .long v1), (3, .double v3), (7, .double v7)] → fn gT v1 v3 v7 = some q → W p l e R_X12_clock s m args below meth c H locs 0 0 (MQ below (QI D A (wX12 hT aT yT q.2) q.1) args s 0 0 A) (F0 m 54 ls [])
def S_X12_clock_44 (l : Launch) (D : Dx) (hT : Nat) (aT : Nat → Nat) (yT : Nat → ClassId) (fn : Gs → Int64 → UInt64 → UInt64 → Option (Int32 × Gs)) : Prop :=
  ∀ {p : Program} {e : Env} {s : State} {m : MethodId} {args : Array Value} {below : List Frame} {meth : Method} {c : Code} {H : Heap} {locs : List Loc} {A : Nat → Prop} {ls : Array Slot} {gT : Gs} {v1 : Int64} {v3 : UInt64} {v7 : UInt64} {q : Int32 × Gs}, Cx p s m args meth c cX12_clock (some .int) 10 RX12 lw_all → Hx D (tX12 yT) A s H locs (wX12 hT aT yT gT) → lv_has ls 10 [(0, .ref hT), (1, .long v1), (3, .double v3), (7, .double v7)] → fn gT v1 v3 v7 = some q → W p l e R_X12_clock s m args below meth c H locs 0 0 (MQ below (QI D A (wX12 hT aT yT q.2) q.1) args s 0 0 A) (F0 m 44 ls [])
set_option maxHeartbeats 4000000 in
set_option maxRecDepth 100000 in
theorem k_X12_clock_54 (l : Launch) (D : Dx) (hT : Nat) (aT : Nat → Nat) (yT : Nat → ClassId) (n : Nat) : S_X12_clock_54 l D hT aT yT (b_X12_clock_54 n) := by
  intro p e s m args below meth c H locs A ls gT v1 v3 v7 q C X hl hF
  obtain ⟨hx, hb, hr, hml, hown, hts, hlk⟩ := id C
  unfold b_X12_clock_54 at hF
  refine lv_aload_n hx hb dX12_clock_54 rfl (lv_at hl 0 rfl) ?_
  refine lv_iconst (v := (0 : Int32)) hx hb dX12_clock_55 (by decide) ?_
  refine va_put (D := D.1) (ci := 12) (v := .int (0 : Int32)) (ty := .int) (C := RX12) (T := TX12) (N := 114) hx hb hts wi_X12 tyX12 tyX12_ok nmX12 hown X.1 X.2.1 X.2.2.1 X.2.2.2.1 0 rfl rfl 99 (by decide) (hts _ q7_53) (fun _ h9 => h9) rfl (by decide +kernel) rfl rfl (by rw [List.length_map, List.length_range]; decide) dX12_clock_56 (fun H locs hP hD hS => ?_)
  have X : Hx D (tX12 yT) A s H locs (wX12 hT aT yT (sI gT 99 (0 : Int32))) := Hx_set X (wG_sI (k := 99) rfl) hP hD hS
  refine lv_aload_n hx hb dX12_clock_59 rfl (lv_at hl 0 rfl) ?_
  refine lv_aload_n hx hb dX12_clock_60 rfl (lv_at hl 0 rfl) ?_
  refine lv_lload_n hx hb dX12_clock_61 rfl (lv_at hl 1 rfl) ?_
  obtain ⟨h_8, hF⟩ := grd_some hF
  refine vn_l2d hx hb (by rw [hml]; exact hl.1.symm) hown (hts _ q9_118) (hts _ q9_120) (hts _ q9_119) (hts _ q1_24) (nsnB_ok h_8) (Nat.le_of_ble_eq_true rfl) (Nat.le_of_ble_eq_true rfl) dX12_clock_62 ?_
  refine lv_dload_n hx hb dX12_clock_65 rfl (lv_at hl 2 rfl) ?_
  obtain ⟨h_9, hF⟩ := grd_some hF
  refine lv_ddiv hx hb dX12_clock_66 (n64_ok h_9) ?_
  obtain ⟨q_10, hc_11, hF⟩ := bnd_some hF
  refine cS_l (As := [.double (FP.ddiv v1.toUInt64 v3)]) (rest := [.ref hT, .ref hT]) C X (c_Jxe99ae_doubleToLongBits_ccdee l D  (FP.ddiv v1.toUInt64 v3) q_10 hc_11 _) (va_cwS 1 hts (good_S q8_110 q8_111 q1_24 q8_112) rfl rfl rfl (by decide +kernel) ⟨Nat.le_of_ble_eq_true rfl, Nat.le_of_ble_eq_true rfl⟩) (eK X) eP (eD (A := A)) (eF X) hl.1 rfl rfl (Nat.le_of_ble_eq_true rfl) dX12_clock_67 ⟨Nat.le_of_ble_eq_true rfl, Nat.le_of_ble_eq_true rfl⟩ (fun t H1 locs1 ht hB hk hS => ?_)
  have X := Hx_after_none X hk hS
  clear hk hS ht hB
  generalize H1 = H at X ⊢
  generalize locs1 = locs at X ⊢
  refine lv_iconst (v := (0 : Int32)) hx hb dX12_clock_70 (by decide) ?_
  obtain ⟨q_12, hc_13, hF⟩ := bnd_some hF
  refine cV_l (As := [.long q_10, .int (0 : Int32)]) (rest := [.ref hT]) C X (c_X12_evened l D hT aT yT n (sI gT 99 (0 : Int32)) q_10 (0 : Int32) q_12 hc_13 _) (cwV 2 hts (good_V q9_134 q9_136 q0_120 q1_9 q9_137) rfl rfl rfl (by decide +kernel) ⟨Nat.le_of_ble_eq_true rfl, Nat.le_of_ble_eq_true rfl⟩) (va_recv X.1 X.2.1 (ci := 12) (q0 := 0) rfl rfl) X.1 X.2.1 X.2.2.1 (free_all X) hl.1 rfl rfl (Nat.le_of_ble_eq_true rfl) dX12_clock_71 ⟨Nat.le_of_ble_eq_true rfl, Nat.le_of_ble_eq_true rfl⟩ (fun t H1 locs1 ht hB hk hS => ?_)
  have X : Hx D (tX12 yT) A s H1 locs1 (wX12 hT aT yT q_12.2) := Hx_after_all X ht hB hS
  clear hk hS ht hB
  generalize H1 = H at X ⊢
  generalize locs1 = locs at X ⊢
  refine lv_iconst (v := (0 : Int32)) hx hb dX12_clock_74 (by decide) ?_
  obtain ⟨q_14, hc_15, hF⟩ := bnd_some hF
  refine cV_v (As := [.long q_12.1, .int (0 : Int32)]) (rest := []) C X (c_X12_putReal l D hT aT yT n q_12.2 q_12.1 (0 : Int32) q_14 hc_15 _) (cwV 2 hts (good_V q9_220 q9_222 q0_128 q1_9 q9_223) rfl rfl rfl (by decide +kernel) ⟨Nat.le_of_ble_eq_true rfl, Nat.le_of_ble_eq_true rfl⟩) (va_recv X.1 X.2.1 (ci := 12) (q0 := 0) rfl rfl) X.1 X.2.1 X.2.2.1 (free_all X) hl.1 rfl rfl (Nat.le_of_ble_eq_true rfl) dX12_clock_75 ⟨Nat.le_of_ble_eq_true rfl, Nat.le_of_ble_eq_true rfl⟩ (fun t H1 locs1 ht hB hk hS => ?_)
  have X : Hx D (tX12 yT) A s H1 locs1 (wX12 hT aT yT q_14) := Hx_after_all X ht hB hS
  clear hk hS ht hB
  generalize H1 = H at X ⊢
  generalize locs1 = locs at X ⊢
  refine lv_aload_n hx hb dX12_clock_78 rfl (lv_at hl 0 rfl) ?_
  refine lv_dload hx hb dX12_clock_79 (lv_at hl 3 rfl) ?_
  obtain ⟨q_16, hc_17, hF⟩ := bnd_some hF
  refine cS_l (As := [.double v7]) (rest := [.ref hT]) C X (c_Jxe99ae_doubleToLongBits_ccdee l D  v7 q_16 hc_17 _) (va_cwS 1 hts (good_S q8_110 q8_111 q1_24 q8_112) rfl rfl rfl (by decide +kernel) ⟨Nat.le_of_ble_eq_true rfl, Nat.le_of_ble_eq_true rfl⟩) (eK X) eP (eD (A := A)) (eF X) hl.1 rfl rfl (Nat.le_of_ble_eq_true rfl) dX12_clock_81 ⟨Nat.le_of_ble_eq_true rfl, Nat.le_of_ble_eq_true rfl⟩ (fun t H1 locs1 ht hB hk hS => ?_)
  have X := Hx_after_none X hk hS
  clear hk hS ht hB
  generalize H1 = H at X ⊢
  generalize locs1 = locs at X ⊢
  refine lv_bipush (v := (7 : Int32)) hx hb dX12_clock_84 (by decide) ?_
  refine lv_iconst (v := (4 : Int32)) hx hb dX12_clock_86 (by decide) ?_
  obtain ⟨q_18, hc_19, hF⟩ := bnd_some hF
  refine cV_l (As := [.long q_16, .int (7 : Int32), .int (4 : Int32)]) (rest := []) C X (c_X12_towards l D hT aT yT n q_14 q_16 (7 : Int32) (4 : Int32) q_18 hc_19 _) (cwV 3 hts (good_V q8_154 q8_156 q0_74 q1_9 q8_157) rfl rfl rfl (by decide +kernel) ⟨Nat.le_of_ble_eq_true rfl, Nat.le_of_ble_eq_true rfl⟩) (va_recv X.1 X.2.1 (ci := 12) (q0 := 0) rfl rfl) X.1 X.2.1 X.2.2.1 (free_all X) hl.1 rfl rfl (Nat.le_of_ble_eq_true rfl) dX12_clock_87 ⟨Nat.le_of_ble_eq_true rfl, Nat.le_of_ble_eq_true rfl⟩ (fun t H1 locs1 ht hB hk hS => ?_)
  have X : Hx D (tX12 yT) A s H1 locs1 (wX12 hT aT yT q_18.2) := Hx_after_all X ht hB hS
  clear hk hS ht hB
  generalize H1 = H at X ⊢
  generalize locs1 = locs at X ⊢
  refine lv_l2i hx hb dX12_clock_90 rfl ?_
  refine lv_istore (lv' := [(9, .int q_18.1.toInt32), (0, .ref hT), (1, .long v1), (3, .double v3), (7, .double v7)]) hx hb dX12_clock_91 hl (by decide) rfl (fun ls hl => ?_)
  refine lv_aload_n hx hb dX12_clock_93 rfl (lv_at hl 1 rfl) ?_
  refine lv_bipush (v := (32 : Int32)) hx hb dX12_clock_94 (by decide) ?_
  obtain ⟨q_20, hc_21, hF⟩ := bnd_some hF
  refine cV_v (As := [.int (32 : Int32)]) (rest := []) C X (c_X12_put l D hT aT yT q_18.2 (32 : Int32) q_20 hc_21 _) (cwV 1 hts (good_V q9_224 q9_226 q0_129 q1_9 q9_227) rfl rfl rfl (by decide +kernel) ⟨Nat.le_of_ble_eq_true rfl, Nat.le_of_ble_eq_true rfl⟩) (va_recv X.1 X.2.1 (ci := 12) (q0 := 0) rfl rfl) X.1 X.2.1 X.2.2.1 (free_all X) hl.1 rfl rfl (Nat.le_of_ble_eq_true rfl) dX12_clock_96 ⟨Nat.le_of_ble_eq_true rfl, Nat.le_of_ble_eq_true rfl⟩ (fun t H1 locs1 ht hB hk hS => ?_)
  have X : Hx D (tX12 yT) A s H1 locs1 (wX12 hT aT yT q_20) := Hx_after_all X ht hB hS
  clear hk hS ht hB
  generalize H1 = H at X ⊢
  generalize locs1 = locs at X ⊢
  refine lv_aload_n hx hb dX12_clock_99 rfl (lv_at hl 1 rfl) ?_
  refine lv_iload hx hb dX12_clock_100 (lv_at hl 0 rfl) ?_
  refine lv_sipush (v := (3600 : Int32)) hx hb dX12_clock_102 (by decide) ?_
  refine lv_idiv hx hb dX12_clock_105 (by decide) ?_
  obtain ⟨q_22, hc_23, hF⟩ := bnd_some hF
  refine cV_v (As := [.int (q_18.1.toInt32 / (3600 : Int32))]) (rest := []) C X (c_X12_putTwo l D hT aT yT q_20 (q_18.1.toInt32 / (3600 : Int32)) q_22 hc_23 _) (cwV 1 hts (good_V q9_237 q9_239 q0_131 q1_9 q10_0) rfl rfl rfl (by decide +kernel) ⟨Nat.le_of_ble_eq_true rfl, Nat.le_of_ble_eq_true rfl⟩) (va_recv X.1 X.2.1 (ci := 12) (q0 := 0) rfl rfl) X.1 X.2.1 X.2.2.1 (free_all X) hl.1 rfl rfl (Nat.le_of_ble_eq_true rfl) dX12_clock_106 ⟨Nat.le_of_ble_eq_true rfl, Nat.le_of_ble_eq_true rfl⟩ (fun t H1 locs1 ht hB hk hS => ?_)
  have X : Hx D (tX12 yT) A s H1 locs1 (wX12 hT aT yT q_22) := Hx_after_all X ht hB hS
  clear hk hS ht hB
  generalize H1 = H at X ⊢
  generalize locs1 = locs at X ⊢
  refine lv_aload_n hx hb dX12_clock_109 rfl (lv_at hl 1 rfl) ?_
  refine lv_bipush (v := (58 : Int32)) hx hb dX12_clock_110 (by decide) ?_
  obtain ⟨q_24, hc_25, hF⟩ := bnd_some hF
  refine cV_v (As := [.int (58 : Int32)]) (rest := []) C X (c_X12_put l D hT aT yT q_22 (58 : Int32) q_24 hc_25 _) (cwV 1 hts (good_V q9_224 q9_226 q0_129 q1_9 q9_227) rfl rfl rfl (by decide +kernel) ⟨Nat.le_of_ble_eq_true rfl, Nat.le_of_ble_eq_true rfl⟩) (va_recv X.1 X.2.1 (ci := 12) (q0 := 0) rfl rfl) X.1 X.2.1 X.2.2.1 (free_all X) hl.1 rfl rfl (Nat.le_of_ble_eq_true rfl) dX12_clock_112 ⟨Nat.le_of_ble_eq_true rfl, Nat.le_of_ble_eq_true rfl⟩ (fun t H1 locs1 ht hB hk hS => ?_)
  have X : Hx D (tX12 yT) A s H1 locs1 (wX12 hT aT yT q_24) := Hx_after_all X ht hB hS
  clear hk hS ht hB
  generalize H1 = H at X ⊢
  generalize locs1 = locs at X ⊢
  refine lv_aload_n hx hb dX12_clock_115 rfl (lv_at hl 1 rfl) ?_
  refine lv_iload hx hb dX12_clock_116 (lv_at hl 0 rfl) ?_
  refine lv_bipush (v := (60 : Int32)) hx hb dX12_clock_118 (by decide) ?_
  refine lv_idiv hx hb dX12_clock_120 (by decide) ?_
  refine lv_bipush (v := (60 : Int32)) hx hb dX12_clock_121 (by decide) ?_
  refine lv_irem hx hb dX12_clock_123 (by decide) ?_
  obtain ⟨q_26, hc_27, hF⟩ := bnd_some hF
  refine cV_v (As := [.int ((q_18.1.toInt32 / (60 : Int32)) - (q_18.1.toInt32 / (60 : Int32)) / (60 : Int32) * (60 : Int32))]) (rest := []) C X (c_X12_putTwo l D hT aT yT q_24 ((q_18.1.toInt32 / (60 : Int32)) - (q_18.1.toInt32 / (60 : Int32)) / (60 : Int32) * (60 : Int32)) q_26 hc_27 _) (cwV 1 hts (good_V q9_237 q9_239 q0_131 q1_9 q10_0) rfl rfl rfl (by decide +kernel) ⟨Nat.le_of_ble_eq_true rfl, Nat.le_of_ble_eq_true rfl⟩) (va_recv X.1 X.2.1 (ci := 12) (q0 := 0) rfl rfl) X.1 X.2.1 X.2.2.1 (free_all X) hl.1 rfl rfl (Nat.le_of_ble_eq_true rfl) dX12_clock_124 ⟨Nat.le_of_ble_eq_true rfl, Nat.le_of_ble_eq_true rfl⟩ (fun t H1 locs1 ht hB hk hS => ?_)
  have X : Hx D (tX12 yT) A s H1 locs1 (wX12 hT aT yT q_26) := Hx_after_all X ht hB hS
  clear hk hS ht hB
  generalize H1 = H at X ⊢
  generalize locs1 = locs at X ⊢
  refine lv_aload_n hx hb dX12_clock_127 rfl (lv_at hl 1 rfl) ?_
  refine lv_bipush (v := (58 : Int32)) hx hb dX12_clock_128 (by decide) ?_
  obtain ⟨q_28, hc_29, hF⟩ := bnd_some hF
  refine cV_v (As := [.int (58 : Int32)]) (rest := []) C X (c_X12_put l D hT aT yT q_26 (58 : Int32) q_28 hc_29 _) (cwV 1 hts (good_V q9_224 q9_226 q0_129 q1_9 q9_227) rfl rfl rfl (by decide +kernel) ⟨Nat.le_of_ble_eq_true rfl, Nat.le_of_ble_eq_true rfl⟩) (va_recv X.1 X.2.1 (ci := 12) (q0 := 0) rfl rfl) X.1 X.2.1 X.2.2.1 (free_all X) hl.1 rfl rfl (Nat.le_of_ble_eq_true rfl) dX12_clock_130 ⟨Nat.le_of_ble_eq_true rfl, Nat.le_of_ble_eq_true rfl⟩ (fun t H1 locs1 ht hB hk hS => ?_)
  have X : Hx D (tX12 yT) A s H1 locs1 (wX12 hT aT yT q_28) := Hx_after_all X ht hB hS
  clear hk hS ht hB
  generalize H1 = H at X ⊢
  generalize locs1 = locs at X ⊢
  refine lv_aload_n hx hb dX12_clock_133 rfl (lv_at hl 1 rfl) ?_
  refine lv_iload hx hb dX12_clock_134 (lv_at hl 0 rfl) ?_
  refine lv_bipush (v := (60 : Int32)) hx hb dX12_clock_136 (by decide) ?_
  refine lv_irem hx hb dX12_clock_138 (by decide) ?_
  obtain ⟨q_30, hc_31, hF⟩ := bnd_some hF
  refine cV_v (As := [.int (q_18.1.toInt32 - q_18.1.toInt32 / (60 : Int32) * (60 : Int32))]) (rest := []) C X (c_X12_putTwo l D hT aT yT q_28 (q_18.1.toInt32 - q_18.1.toInt32 / (60 : Int32) * (60 : Int32)) q_30 hc_31 _) (cwV 1 hts (good_V q9_237 q9_239 q0_131 q1_9 q10_0) rfl rfl rfl (by decide +kernel) ⟨Nat.le_of_ble_eq_true rfl, Nat.le_of_ble_eq_true rfl⟩) (va_recv X.1 X.2.1 (ci := 12) (q0 := 0) rfl rfl) X.1 X.2.1 X.2.2.1 (free_all X) hl.1 rfl rfl (Nat.le_of_ble_eq_true rfl) dX12_clock_139 ⟨Nat.le_of_ble_eq_true rfl, Nat.le_of_ble_eq_true rfl⟩ (fun t H1 locs1 ht hB hk hS => ?_)
  have X : Hx D (tX12 yT) A s H1 locs1 (wX12 hT aT yT q_30) := Hx_after_all X ht hB hS
  clear hk hS ht hB
  generalize H1 = H at X ⊢
  generalize locs1 = locs at X ⊢
  refine lv_aload_n hx hb dX12_clock_142 rfl (lv_at hl 1 rfl) ?_
  refine va_get (D := D.1) (ci := 12) (v := .int (gI q_30 99)) (C := RX12) (T := TX12) (N := 114) hx hb hts wi_X12 hown X.1 X.2.1 0 rfl rfl 99 (by decide) (hts _ q7_53) (fun _ h9 => h9) (fl_get (by decide)) dX12_clock_143 ?_
  have hq := Option.some.inj hF
  subst hq
  exact rt_i C X dX12_clock_146
set_option maxHeartbeats 4000000 in
set_option maxRecDepth 100000 in
theorem k_X12_clock_44 (l : Launch) (D : Dx) (hT : Nat) (aT : Nat → Nat) (yT : Nat → ClassId) (n : Nat) : S_X12_clock_44 l D hT aT yT (b_X12_clock_44 n) := by
  intro p e s m args below meth c H locs A ls gT v1 v3 v7 q C X hl hF
  obtain ⟨hx, hb, hr, hml, hown, hts, hlk⟩ := id C
  unfold b_X12_clock_44 at hF
  refine lv_dload hx hb dX12_clock_44 (lv_at hl 3 rfl) ?_
  refine lv_dload_n hx hb dX12_clock_46 rfl (lv_at hl 2 rfl) ?_
  refine lv_dcmp hx hb dX12_clock_47 ?_
  refine lv_if_ne (tgt := 54) hx hb dX12_clock_48 (by decide) (fun c => ?_) (fun c => ?_)
  · replace hF := iF c hF
    exact (k_X12_clock_54 l D hT aT yT n) C X (lv_sub hl [0, 1, 2, 3] rfl) hF
  · replace hF := iT c hF
    refine lv_dconst0 hx hb dX12_clock_51 ?_
    refine lv_dstore (lv' := [(7, .double FP.dconst0), (0, .ref hT), (1, .long v1), (3, .double v3)]) hx hb dX12_clock_52 hl (by decide) rfl (fun ls hl => ?_)
    exact (k_X12_clock_54 l D hT aT yT n) C X (lv_sub hl [1, 2, 3, 0] rfl) hF
set_option maxHeartbeats 4000000 in
set_option maxRecDepth 100000 in
theorem c_X12_clock (l : Launch) (D : Dx) (hT : Nat) (aT : Nat → Nat) (yT : Nat → ClassId) (n : Nat) (gT : Gs) (x0 : Int64) (q : Int32 × Gs) (hF : f_X12_clock n gT x0 = some q) (sz : Nat) : Met l yX12_clock (ws_ yX12_clock cX12_clock 10 (some .int)) R_X12_clock (PC D (tX12 yT) [.ref hT, .long x0] (wX12 hT aT yT gT) sz) (QI D (va_A (wX12 hT aT yT gT) sz) (wX12 hT aT yT q.2) q.1) 0 0 (va_A (wX12 hT aT yT gT) sz) := by
  refine Met.ofW (cc := cX12_clock) (maxL := 10) (ret := (some .int)) (by decide) rfl ?_
  intro p e s m args below meth c s₁ B hml hv
  obtain ⟨rfl, hsz, hP, hK, hD, hN⟩ := hv
  subst hsz
  have C : Cx p s m _ meth c cX12_clock (some .int) 10 RX12 lw_all := Cx_of B hml
  have X := Hx_start hP hK hD hN
  obtain ⟨hx, hb, hr, -, hown, hts, hlk⟩ := id C
  generalize va_A (wX12 hT aT yT gT) s.heap.size = A at X ⊢
  have hl := lv_entry ([.ref hT, .long x0]) (n := 10) (Nat.le_of_ble_eq_true rfl)
  rw [lg_entry_eq]
  generalize (lg_sl ([.ref hT, .long x0]) ++ List.replicate (10 - (lg_sl ([.ref hT, .long x0])).length) Slot.unset).toArray = ls at hl ⊢
  have hl : lv_has ls 10 [(0, .ref hT), (1, .long x0)] := hl
  unfold f_X12_clock at hF
  refine lv_lload_n hx hb dX12_clock_0 rfl (lv_at hl 1 rfl) ?_
  obtain ⟨q_1, hc_2, hF⟩ := bnd_some hF
  refine cS_i (As := [.long x0]) (rest := []) C X (c_X12_isFinite l D  x0 q_1 hc_2 _) (va_cwS 1 hts (good_S q9_121 q9_122 q1_9 q9_123) rfl rfl rfl (by decide +kernel) ⟨Nat.le_of_ble_eq_true rfl, Nat.le_of_ble_eq_true rfl⟩) (eK X) eP (eD (A := A)) (eF X) hl.1 rfl rfl (Nat.le_of_ble_eq_true rfl) dX12_clock_1 ⟨Nat.le_of_ble_eq_true rfl, Nat.le_of_ble_eq_true rfl⟩ (fun t H1 locs1 ht hB hk hS => ?_)
  have X := Hx_after_none X hk hS
  clear hk hS ht hB
  generalize H1 = H at X ⊢
  generalize locs1 = locs at X ⊢
  refine lv_if_ne (tgt := 9) hx hb dX12_clock_4 (by decide) (fun c => ?_) (fun c => ?_)
  · replace hF := iF c hF
    refine lv_ldc2d hx hb hown (hts _ q9_236) dX12_clock_9 ?_
    refine lv_dstore_n (lv' := [(3, .double (4680673776000565248 : UInt64)), (0, .ref hT), (1, .long x0)]) hx hb dX12_clock_12 rfl hl (by decide) rfl (fun ls hl => ?_)
    refine lv_dload_n hx hb dX12_clock_13 rfl (lv_at hl 0 rfl) ?_
    obtain ⟨q_3, hc_4, hF⟩ := bnd_some hF
    refine cS_l (As := [.double (4680673776000565248 : UInt64)]) (rest := []) C X (c_Jxe99ae_doubleToLongBits_ccdee l D  (4680673776000565248 : UInt64) q_3 hc_4 _) (va_cwS 1 hts (good_S q8_110 q8_111 q1_24 q8_112) rfl rfl rfl (by decide +kernel) ⟨Nat.le_of_ble_eq_true rfl, Nat.le_of_ble_eq_true rfl⟩) (eK X) eP (eD (A := A)) (eF X) hl.1 rfl rfl (Nat.le_of_ble_eq_true rfl) dX12_clock_14 ⟨Nat.le_of_ble_eq_true rfl, Nat.le_of_ble_eq_true rfl⟩ (fun t H1 locs1 ht hB hk hS => ?_)
    have X := Hx_after_none X hk hS
    clear hk hS ht hB
    generalize H1 = H at X ⊢
    generalize locs1 = locs at X ⊢
    refine lv_lstore (lv' := [(5, .long q_3), (3, .double (4680673776000565248 : UInt64)), (0, .ref hT), (1, .long x0)]) hx hb dX12_clock_17 hl (by decide) rfl (fun ls hl => ?_)
    refine lv_aload_n hx hb dX12_clock_19 rfl (lv_at hl 2 rfl) ?_
    refine lv_lload_n hx hb dX12_clock_20 rfl (lv_at hl 3 rfl) ?_
    refine lv_lload hx hb dX12_clock_21 (lv_at hl 0 rfl) ?_
    obtain ⟨q_5, hc_6, hF⟩ := bnd_some hF
    refine cV_l (As := [.long x0, .long q_3]) (rest := []) C X (c_X12_remainder l D hT aT yT n gT x0 q_3 q_5 hc_6 _) (cwV 2 hts (good_V q9_92 q9_94 q0_114 q1_9 q9_95) rfl rfl rfl (by decide +kernel) ⟨Nat.le_of_ble_eq_true rfl, Nat.le_of_ble_eq_true rfl⟩) (va_recv X.1 X.2.1 (ci := 12) (q0 := 0) rfl rfl) X.1 X.2.1 X.2.2.1 (free_all X) hl.1 rfl rfl (Nat.le_of_ble_eq_true rfl) dX12_clock_23 ⟨Nat.le_of_ble_eq_true rfl, Nat.le_of_ble_eq_true rfl⟩ (fun t H1 locs1 ht hB hk hS => ?_)
    have X : Hx D (tX12 yT) A s H1 locs1 (wX12 hT aT yT q_5.2) := Hx_after_all X ht hB hS
    clear hk hS ht hB
    generalize H1 = H at X ⊢
    generalize locs1 = locs at X ⊢
    obtain ⟨h_7, hF⟩ := grd_some hF
    refine vn_l2d hx hb (by rw [hml]; exact hl.1.symm) hown (hts _ q9_118) (hts _ q9_120) (hts _ q9_119) (hts _ q1_24) (nsnB_ok h_7) (Nat.le_of_ble_eq_true rfl) (Nat.le_of_ble_eq_true rfl) dX12_clock_26 ?_
    refine lv_dstore (lv' := [(7, .double q_5.1.toUInt64), (5, .long q_3), (3, .double (4680673776000565248 : UInt64)), (0, .ref hT), (1, .long x0)]) hx hb dX12_clock_29 hl (by decide) rfl (fun ls hl => ?_)
    refine lv_dload hx hb dX12_clock_31 (lv_at hl 0 rfl) ?_
    refine lv_dconst0 hx hb dX12_clock_33 ?_
    refine lv_dcmp hx hb dX12_clock_34 ?_
    refine lv_if_ge (tgt := 44) hx hb dX12_clock_35 (by decide) (fun c => ?_) (fun c => ?_)
    · replace hF := iT c hF
      exact (k_X12_clock_44 l D hT aT yT n) C X (lv_sub hl [3, 4, 2, 0] rfl) hF
    · replace hF := iF c hF
      refine lv_dload hx hb dX12_clock_38 (lv_at hl 0 rfl) ?_
      refine lv_dload_n hx hb dX12_clock_40 rfl (lv_at hl 2 rfl) ?_
      obtain ⟨h_32, hF⟩ := grd_some hF
      refine lv_dadd hx hb dX12_clock_41 (n64_ok h_32) ?_
      refine lv_dstore (lv' := [(7, .double (FP.dadd q_5.1.toUInt64 (4680673776000565248 : UInt64))), (5, .long q_3), (3, .double (4680673776000565248 : UInt64)), (0, .ref hT), (1, .long x0)]) hx hb dX12_clock_42 hl (by decide) rfl (fun ls hl => ?_)
      exact (k_X12_clock_44 l D hT aT yT n) C X (lv_sub hl [3, 4, 2, 0] rfl) hF
  · replace hF := iT c hF
    refine lv_iconst (v := (-1 : Int32)) hx hb dX12_clock_7 (by decide) ?_
    have hq := Option.some.inj hF
    subst hq
    exact rt_i C X dX12_clock_8

/-! ### X12_octet -/
theorem dX12_octet_0 : decode cX12_octet 0 = .ok (.iload_n 1, 1) := by decide +kernel
theorem dX12_octet_1 : decode cX12_octet 1 = .ok (.ifCond .lt 11, 3) := by decide +kernel
theorem dX12_octet_4 : decode cX12_octet 4 = .ok (.iload_n 1, 1) := by decide +kernel
theorem dX12_octet_5 : decode cX12_octet 5 = .ok (.aload_n 0, 1) := by decide +kernel
theorem dX12_octet_6 : decode cX12_octet 6 = .ok (.getfield 358, 3) := by decide +kernel
theorem dX12_octet_9 : decode cX12_octet 9 = .ok (.if_icmp .lt 5, 3) := by decide +kernel
theorem dX12_octet_12 : decode cX12_octet 12 = .ok (.iconst (-1), 1) := by decide +kernel
theorem dX12_octet_13 : decode cX12_octet 13 = .ok (.ireturn, 1) := by decide +kernel
theorem dX12_octet_14 : decode cX12_octet 14 = .ok (.aload_n 0, 1) := by decide +kernel
theorem dX12_octet_15 : decode cX12_octet 15 = .ok (.getfield 355, 3) := by decide +kernel
theorem dX12_octet_18 : decode cX12_octet 18 = .ok (.iload_n 1, 1) := by decide +kernel
theorem dX12_octet_19 : decode cX12_octet 19 = .ok (.baload, 1) := by decide +kernel
theorem dX12_octet_20 : decode cX12_octet 20 = .ok (.ireturn, 1) := by decide +kernel
abbrev R_X12_octet : Room := ({ frames := 0, cells := 0, slots := 0, locals := 0 } : Room)
def f_X12_octet (gT : Gs) (x0 : Int32) : Option (Int32) :=
  if x0 < 0 then (some (-1 : Int32)) else (if x0 < (gI gT 99) then (grd (inB x0 100) (some (gIA gT 98 x0.toNatClampNeg))) else (some (-1 : Int32)))
set_option maxHeartbeats 4000000 in
set_option maxRecDepth 100000 in
theorem c_X12_octet (l : Launch) (D : Dx) (hT : Nat) (aT : Nat → Nat) (yT : Nat → ClassId) (gT : Gs) (x0 : Int32) (q : Int32) (hF : f_X12_octet gT x0 = some q) (sz : Nat) : Met l yX12_octet (ws_ yX12_octet cX12_octet 2 (some .int)) R_X12_octet (PC D (tX12 yT) [.ref hT, .int x0] (wX12 hT aT yT gT) sz) (QI D (va_A (wX12 hT aT yT gT) sz) (wX12 hT aT yT gT) q) 0 0 (va_A (wX12 hT aT yT gT) sz) := by
  refine Met.ofW (cc := cX12_octet) (maxL := 2) (ret := (some .int)) (by decide) rfl ?_
  intro p e s m args below meth c s₁ B hml hv
  obtain ⟨rfl, hsz, hP, hK, hD, hN⟩ := hv
  subst hsz
  have C : Cx p s m _ meth c cX12_octet (some .int) 2 RX12 lw_all := Cx_of B hml
  have X := Hx_start hP hK hD hN
  obtain ⟨hx, hb, hr, -, hown, hts, hlk⟩ := id C
  generalize va_A (wX12 hT aT yT gT) s.heap.size = A at X ⊢
  have hl := lv_entry ([.ref hT, .int x0]) (n := 2) (Nat.le_of_ble_eq_true rfl)
  rw [lg_entry_eq]
  generalize (lg_sl ([.ref hT, .int x0]) ++ List.replicate (2 - (lg_sl ([.ref hT, .int x0])).length) Slot.unset).toArray = ls at hl ⊢
  have hl : lv_has ls 2 [(0, .ref hT), (1, .int x0)] := hl
  unfold f_X12_octet at hF
  refine lv_iload_n hx hb dX12_octet_0 rfl (lv_at hl 1 rfl) ?_
  refine lv_if_lt (tgt := 12) hx hb dX12_octet_1 (by decide) (fun c => ?_) (fun c => ?_)
  · replace hF := iT c hF
    refine lv_iconst (v := (-1 : Int32)) hx hb dX12_octet_12 (by decide) ?_
    have hq := Option.some.inj hF
    subst hq
    exact rt_i C X dX12_octet_13
  · replace hF := iF c hF
    refine lv_iload_n hx hb dX12_octet_4 rfl (lv_at hl 1 rfl) ?_
    refine lv_aload_n hx hb dX12_octet_5 rfl (lv_at hl 0 rfl) ?_
    refine va_get (D := D.1) (ci := 12) (v := .int (gI gT 99)) (C := RX12) (T := TX12) (N := 114) hx hb hts wi_X12 hown X.1 X.2.1 0 rfl rfl 99 (by decide) (hts _ q7_53) (fun _ h9 => h9) (fl_get (by decide)) dX12_octet_6 ?_
    refine lv_icmp_lt (tgt := 14) hx hb dX12_octet_9 (by decide) (fun c => ?_) (fun c => ?_)
    · replace hF := iT c hF
      refine lv_aload_n hx hb dX12_octet_14 rfl (lv_at hl 0 rfl) ?_
      refine va_get (D := D.1) (ci := 12) (v := .ref (aT 98)) (C := RX12) (T := TX12) (N := 114) hx hb hts wi_X12 hown X.1 X.2.1 0 rfl rfl 98 (by decide) (hts _ q7_52) (fun _ h9 => h9) (fl_get (by decide)) dX12_octet_15 ?_
      refine lv_iload_n hx hb dX12_octet_18 rfl (lv_at hl 1 rfl) ?_
      obtain ⟨h_1, hF⟩ := grd_some hF
      refine va_bald (D := D.1) (f := gIA gT 98) hx hb X.1 X.2.1 64 63 rfl rfl (inB_ok h_1) dX12_octet_19 ?_
      have hq := Option.some.inj hF
      subst hq
      exact rt_i C X dX12_octet_20
    · replace hF := iF c hF
      refine lv_iconst (v := (-1 : Int32)) hx hb dX12_octet_12 (by decide) ?_
      have hq := Option.some.inj hF
      subst hq
      exact rt_i C X dX12_octet_13

/-! ### X12_measure -/
theorem dX12_measure_0 : decode cX12_measure 0 = .ok (.lload_n 1, 1) := by decide +kernel
theorem dX12_measure_1 : decode cX12_measure 1 = .ok (.invokestatic 501, 3) := by decide +kernel
theorem dX12_measure_4 : decode cX12_measure 4 = .ok (.ifCond .eq 10, 3) := by decide +kernel
theorem dX12_measure_7 : decode cX12_measure 7 = .ok (.lload_n 3, 1) := by decide +kernel
theorem dX12_measure_8 : decode cX12_measure 8 = .ok (.invokestatic 501, 3) := by decide +kernel
theorem dX12_measure_11 : decode cX12_measure 11 = .ok (.ifCond .ne 7, 3) := by decide +kernel
theorem dX12_measure_14 : decode cX12_measure 14 = .ok (.ldc2_w 694, 3) := by decide +kernel
theorem dX12_measure_17 : decode cX12_measure 17 = .ok (.lreturn, 1) := by decide +kernel
theorem dX12_measure_18 : decode cX12_measure 18 = .ok (.aload_n 0, 1) := by decide +kernel
theorem dX12_measure_19 : decode cX12_measure 19 = .ok (.lload_n 1, 1) := by decide +kernel
theorem dX12_measure_20 : decode cX12_measure 20 = .ok (.lload_n 3, 1) := by decide +kernel
theorem dX12_measure_21 : decode cX12_measure 21 = .ok (.invokevirtual 669, 3) := by decide +kernel
theorem dX12_measure_24 : decode cX12_measure 24 = .ok (.lreturn, 1) := by decide +kernel
abbrev R_X12_measure : Room := ({ frames := 4, cells := 0, slots := 0, locals := 118 } : Room)
def f_X12_measure (n : Nat) (gT : Gs) (x0 : Int64) (x1 : Int64) : Option (Int64 × Gs) :=
  bnd (f_X12_isFinite x0) (fun q_1 => if q_1 = 0 then (some ((-1 : Int64), gT)) else (bnd (f_X12_isFinite x1) (fun q_3 => if q_3 = 0 then (some ((-1 : Int64), gT)) else (bnd (f_X12_common n gT x0 x1) (fun q_5 => some (q_5.1, q_5.2))))))
set_option maxHeartbeats 4000000 in
set_option maxRecDepth 100000 in
theorem c_X12_measure (l : Launch) (D : Dx) (hT : Nat) (aT : Nat → Nat) (yT : Nat → ClassId) (n : Nat) (gT : Gs) (x0 : Int64) (x1 : Int64) (q : Int64 × Gs) (hF : f_X12_measure n gT x0 x1 = some q) (sz : Nat) : Met l yX12_measure (ws_ yX12_measure cX12_measure 5 (some .long)) R_X12_measure (PC D (tX12 yT) [.ref hT, .long x0, .long x1] (wX12 hT aT yT gT) sz) (QL D (va_A (wX12 hT aT yT gT) sz) (wX12 hT aT yT q.2) q.1) 0 0 (va_A (wX12 hT aT yT gT) sz) := by
  refine Met.ofW (cc := cX12_measure) (maxL := 5) (ret := (some .long)) (by decide) rfl ?_
  intro p e s m args below meth c s₁ B hml hv
  obtain ⟨rfl, hsz, hP, hK, hD, hN⟩ := hv
  subst hsz
  have C : Cx p s m _ meth c cX12_measure (some .long) 5 RX12 lw_all := Cx_of B hml
  have X := Hx_start hP hK hD hN
  obtain ⟨hx, hb, hr, -, hown, hts, hlk⟩ := id C
  generalize va_A (wX12 hT aT yT gT) s.heap.size = A at X ⊢
  have hl := lv_entry ([.ref hT, .long x0, .long x1]) (n := 5) (Nat.le_of_ble_eq_true rfl)
  rw [lg_entry_eq]
  generalize (lg_sl ([.ref hT, .long x0, .long x1]) ++ List.replicate (5 - (lg_sl ([.ref hT, .long x0, .long x1])).length) Slot.unset).toArray = ls at hl ⊢
  have hl : lv_has ls 5 [(0, .ref hT), (1, .long x0), (3, .long x1)] := hl
  unfold f_X12_measure at hF
  refine lv_lload_n hx hb dX12_measure_0 rfl (lv_at hl 1 rfl) ?_
  obtain ⟨q_1, hc_2, hF⟩ := bnd_some hF
  refine cS_i (As := [.long x0]) (rest := []) C X (c_X12_isFinite l D  x0 q_1 hc_2 _) (va_cwS 1 hts (good_S q9_121 q9_122 q1_9 q9_123) rfl rfl rfl (by decide +kernel) ⟨Nat.le_of_ble_eq_true rfl, Nat.le_of_ble_eq_true rfl⟩) (eK X) eP (eD (A := A)) (eF X) hl.1 rfl rfl (Nat.le_of_ble_eq_true rfl) dX12_measure_1 ⟨Nat.le_of_ble_eq_true rfl, Nat.le_of_ble_eq_true rfl⟩ (fun t H1 locs1 ht hB hk hS => ?_)
  have X := Hx_after_none X hk hS
  clear hk hS ht hB
  generalize H1 = H at X ⊢
  generalize locs1 = locs at X ⊢
  refine lv_if_eq (tgt := 14) hx hb dX12_measure_4 (by decide) (fun c => ?_) (fun c => ?_)
  · replace hF := iT c hF
    refine lv_ldc2 hx hb hown (hts _ q9_125) dX12_measure_14 ?_
    have hq := Option.some.inj hF
    subst hq
    exact rt_l C X dX12_measure_17
  · replace hF := iF c hF
    refine lv_lload_n hx hb dX12_measure_7 rfl (lv_at hl 2 rfl) ?_
    obtain ⟨q_3, hc_4, hF⟩ := bnd_some hF
    refine cS_i (As := [.long x1]) (rest := []) C X (c_X12_isFinite l D  x1 q_3 hc_4 _) (va_cwS 1 hts (good_S q9_121 q9_122 q1_9 q9_123) rfl rfl rfl (by decide +kernel) ⟨Nat.le_of_ble_eq_true rfl, Nat.le_of_ble_eq_true rfl⟩) (eK X) eP (eD (A := A)) (eF X) hl.1 rfl rfl (Nat.le_of_ble_eq_true rfl) dX12_measure_8 ⟨Nat.le_of_ble_eq_true rfl, Nat.le_of_ble_eq_true rfl⟩ (fun t H1 locs1 ht hB hk hS => ?_)
    have X := Hx_after_none X hk hS
    clear hk hS ht hB
    generalize H1 = H at X ⊢
    generalize locs1 = locs at X ⊢
    refine lv_if_ne (tgt := 18) hx hb dX12_measure_11 (by decide) (fun c => ?_) (fun c => ?_)
    · replace hF := iF c hF
      refine lv_aload_n hx hb dX12_measure_18 rfl (lv_at hl 0 rfl) ?_
      refine lv_lload_n hx hb dX12_measure_19 rfl (lv_at hl 1 rfl) ?_
      refine lv_lload_n hx hb dX12_measure_20 rfl (lv_at hl 2 rfl) ?_
      obtain ⟨q_5, hc_6, hF⟩ := bnd_some hF
      refine cV_l (As := [.long x0, .long x1]) (rest := []) C X (c_X12_common l D hT aT yT n gT x0 x1 q_5 hc_6 _) (cwV 2 hts (good_V q9_85 q9_87 q0_113 q1_9 q9_88) rfl rfl rfl (by decide +kernel) ⟨Nat.le_of_ble_eq_true rfl, Nat.le_of_ble_eq_true rfl⟩) (va_recv X.1 X.2.1 (ci := 12) (q0 := 0) rfl rfl) X.1 X.2.1 X.2.2.1 (free_all X) hl.1 rfl rfl (Nat.le_of_ble_eq_true rfl) dX12_measure_21 ⟨Nat.le_of_ble_eq_true rfl, Nat.le_of_ble_eq_true rfl⟩ (fun t H1 locs1 ht hB hk hS => ?_)
      have X : Hx D (tX12 yT) A s H1 locs1 (wX12 hT aT yT q_5.2) := Hx_after_all X ht hB hS
      clear hk hS ht hB
      generalize H1 = H at X ⊢
      generalize locs1 = locs at X ⊢
      have hq := Option.some.inj hF
      subst hq
      exact rt_l C X dX12_measure_24
    · replace hF := iT c hF
      refine lv_ldc2 hx hb hown (hts _ q9_125) dX12_measure_14 ?_
      have hq := Option.some.inj hF
      subst hq
      exact rt_l C X dX12_measure_17

/-! ### X12_together -/
theorem dX12_together_0 : decode cX12_together 0 = .ok (.lload_n 1, 1) := by decide +kernel
theorem dX12_together_1 : decode cX12_together 1 = .ok (.invokestatic 745, 3) := by decide +kernel
theorem dX12_together_4 : decode cX12_together 4 = .ok (.ifCond .eq 10, 3) := by decide +kernel
theorem dX12_together_7 : decode cX12_together 7 = .ok (.lload_n 3, 1) := by decide +kernel
theorem dX12_together_8 : decode cX12_together 8 = .ok (.invokestatic 745, 3) := by decide +kernel
theorem dX12_together_11 : decode cX12_together 11 = .ok (.ifCond .ne 7, 3) := by decide +kernel
theorem dX12_together_14 : decode cX12_together 14 = .ok (.ldc2_w 694, 3) := by decide +kernel
theorem dX12_together_17 : decode cX12_together 17 = .ok (.lreturn, 1) := by decide +kernel
theorem dX12_together_18 : decode cX12_together 18 = .ok (.aload_n 0, 1) := by decide +kernel
theorem dX12_together_19 : decode cX12_together 19 = .ok (.bipush 47, 2) := by decide +kernel
theorem dX12_together_21 : decode cX12_together 21 = .ok (.lload_n 3, 1) := by decide +kernel
theorem dX12_together_22 : decode cX12_together 22 = .ok (.aload_n 0, 1) := by decide +kernel
theorem dX12_together_23 : decode cX12_together 23 = .ok (.lload_n 1, 1) := by decide +kernel
theorem dX12_together_24 : decode cX12_together 24 = .ok (.lload_n 3, 1) := by decide +kernel
theorem dX12_together_25 : decode cX12_together 25 = .ok (.invokevirtual 669, 3) := by decide +kernel
theorem dX12_together_28 : decode cX12_together 28 = .ok (.bipush 7, 2) := by decide +kernel
theorem dX12_together_30 : decode cX12_together 30 = .ok (.invokevirtual 691, 3) := by decide +kernel
theorem dX12_together_33 : decode cX12_together 33 = .ok (.lstore 5, 2) := by decide +kernel
theorem dX12_together_35 : decode cX12_together 35 = .ok (.lload 5, 2) := by decide +kernel
theorem dX12_together_37 : decode cX12_together 37 = .ok (.ldc2_w 424, 3) := by decide +kernel
theorem dX12_together_40 : decode cX12_together 40 = .ok (.lcmp, 1) := by decide +kernel
theorem dX12_together_41 : decode cX12_together 41 = .ok (.ifCond .ne 7, 3) := by decide +kernel
theorem dX12_together_44 : decode cX12_together 44 = .ok (.ldc2_w 694, 3) := by decide +kernel
theorem dX12_together_47 : decode cX12_together 47 = .ok (.lreturn, 1) := by decide +kernel
theorem dX12_together_48 : decode cX12_together 48 = .ok (.aload_n 0, 1) := by decide +kernel
theorem dX12_together_49 : decode cX12_together 49 = .ok (.bipush 42, 2) := by decide +kernel
theorem dX12_together_51 : decode cX12_together 51 = .ok (.lload_n 1, 1) := by decide +kernel
theorem dX12_together_52 : decode cX12_together 52 = .ok (.lload 5, 2) := by decide +kernel
theorem dX12_together_54 : decode cX12_together 54 = .ok (.bipush 7, 2) := by decide +kernel
theorem dX12_together_56 : decode cX12_together 56 = .ok (.invokevirtual 691, 3) := by decide +kernel
theorem dX12_together_59 : decode cX12_together 59 = .ok (.lstore 7, 2) := by decide +kernel
theorem dX12_together_61 : decode cX12_together 61 = .ok (.lload 7, 2) := by decide +kernel
theorem dX12_together_63 : decode cX12_together 63 = .ok (.ldc2_w 424, 3) := by decide +kernel
theorem dX12_together_66 : decode cX12_together 66 = .ok (.lcmp, 1) := by decide +kernel
theorem dX12_together_67 : decode cX12_together 67 = .ok (.ifCond .ne 9, 3) := by decide +kernel
theorem dX12_together_70 : decode cX12_together 70 = .ok (.ldc2_w 694, 3) := by decide +kernel
theorem dX12_together_73 : decode cX12_together 73 = .ok (.goto 5, 3) := by decide +kernel
theorem dX12_together_76 : decode cX12_together 76 = .ok (.lload 7, 2) := by decide +kernel
theorem dX12_together_78 : decode cX12_together 78 = .ok (.lreturn, 1) := by decide +kernel
abbrev R_X12_together : Room := ({ frames := 5, cells := 0, slots := 0, locals := 138 } : Room)
def f_X12_together (n : Nat) (gT : Gs) (x0 : Int64) (x1 : Int64) : Option (Int64 × Gs) :=
  bnd (f_X12_isAbove x0) (fun q_1 => if q_1 = 0 then (some ((-1 : Int64), gT)) else (bnd (f_X12_isAbove x1) (fun q_3 => if q_3 = 0 then (some ((-1 : Int64), gT)) else (bnd (f_X12_common n gT x0 x1) (fun q_5 => bnd (f_X12_reckoned n q_5.2 (47 : Int32) x1 q_5.1 (7 : Int32)) (fun q_7 => if q_7.1 = (9223372036854775807 : Int64) then (some ((-1 : Int64), q_7.2)) else (bnd (f_X12_reckoned n q_7.2 (42 : Int32) x0 q_7.1 (7 : Int32)) (fun q_9 => if q_9.1 = (9223372036854775807 : Int64) then (some ((-1 : Int64), q_9.2)) else (some (q_9.1, q_9.2))))))))))
set_option maxHeartbeats 4000000 in
set_option maxRecDepth 100000 in
theorem c_X12_together (l : Launch) (D : Dx) (hT : Nat) (aT : Nat → Nat) (yT : Nat → ClassId) (n : Nat) (gT : Gs) (x0 : Int64) (x1 : Int64) (q : Int64 × Gs) (hF : f_X12_together n gT x0 x1 = some q) (sz : Nat) : Met l yX12_together (ws_ yX12_together cX12_together 9 (some .long)) R_X12_together (PC D (tX12 yT) [.ref hT, .long x0, .long x1] (wX12 hT aT yT gT) sz) (QL D (va_A (wX12 hT aT yT gT) sz) (wX12 hT aT yT q.2) q.1) 0 0 (va_A (wX12 hT aT yT gT) sz) := by
  refine Met.ofW (cc := cX12_together) (maxL := 9) (ret := (some .long)) (by decide) rfl ?_
  intro p e s m args below meth c s₁ B hml hv
  obtain ⟨rfl, hsz, hP, hK, hD, hN⟩ := hv
  subst hsz
  have C : Cx p s m _ meth c cX12_together (some .long) 9 RX12 lw_all := Cx_of B hml
  have X := Hx_start hP hK hD hN
  obtain ⟨hx, hb, hr, -, hown, hts, hlk⟩ := id C
  generalize va_A (wX12 hT aT yT gT) s.heap.size = A at X ⊢
  have hl := lv_entry ([.ref hT, .long x0, .long x1]) (n := 9) (Nat.le_of_ble_eq_true rfl)
  rw [lg_entry_eq]
  generalize (lg_sl ([.ref hT, .long x0, .long x1]) ++ List.replicate (9 - (lg_sl ([.ref hT, .long x0, .long x1])).length) Slot.unset).toArray = ls at hl ⊢
  have hl : lv_has ls 9 [(0, .ref hT), (1, .long x0), (3, .long x1)] := hl
  unfold f_X12_together at hF
  refine lv_lload_n hx hb dX12_together_0 rfl (lv_at hl 1 rfl) ?_
  obtain ⟨q_1, hc_2, hF⟩ := bnd_some hF
  refine cS_i (As := [.long x0]) (rest := []) C X (c_X12_isAbove l D  x0 q_1 hc_2 _) (va_cwS 1 hts (good_S q10_13 q10_14 q1_9 q10_15) rfl rfl rfl (by decide +kernel) ⟨Nat.le_of_ble_eq_true rfl, Nat.le_of_ble_eq_true rfl⟩) (eK X) eP (eD (A := A)) (eF X) hl.1 rfl rfl (Nat.le_of_ble_eq_true rfl) dX12_together_1 ⟨Nat.le_of_ble_eq_true rfl, Nat.le_of_ble_eq_true rfl⟩ (fun t H1 locs1 ht hB hk hS => ?_)
  have X := Hx_after_none X hk hS
  clear hk hS ht hB
  generalize H1 = H at X ⊢
  generalize locs1 = locs at X ⊢
  refine lv_if_eq (tgt := 14) hx hb dX12_together_4 (by decide) (fun c => ?_) (fun c => ?_)
  · replace hF := iT c hF
    refine lv_ldc2 hx hb hown (hts _ q9_125) dX12_together_14 ?_
    have hq := Option.some.inj hF
    subst hq
    exact rt_l C X dX12_together_17
  · replace hF := iF c hF
    refine lv_lload_n hx hb dX12_together_7 rfl (lv_at hl 2 rfl) ?_
    obtain ⟨q_3, hc_4, hF⟩ := bnd_some hF
    refine cS_i (As := [.long x1]) (rest := []) C X (c_X12_isAbove l D  x1 q_3 hc_4 _) (va_cwS 1 hts (good_S q10_13 q10_14 q1_9 q10_15) rfl rfl rfl (by decide +kernel) ⟨Nat.le_of_ble_eq_true rfl, Nat.le_of_ble_eq_true rfl⟩) (eK X) eP (eD (A := A)) (eF X) hl.1 rfl rfl (Nat.le_of_ble_eq_true rfl) dX12_together_8 ⟨Nat.le_of_ble_eq_true rfl, Nat.le_of_ble_eq_true rfl⟩ (fun t H1 locs1 ht hB hk hS => ?_)
    have X := Hx_after_none X hk hS
    clear hk hS ht hB
    generalize H1 = H at X ⊢
    generalize locs1 = locs at X ⊢
    refine lv_if_ne (tgt := 18) hx hb dX12_together_11 (by decide) (fun c => ?_) (fun c => ?_)
    · replace hF := iF c hF
      refine lv_aload_n hx hb dX12_together_18 rfl (lv_at hl 0 rfl) ?_
      refine lv_bipush (v := (47 : Int32)) hx hb dX12_together_19 (by decide) ?_
      refine lv_lload_n hx hb dX12_together_21 rfl (lv_at hl 2 rfl) ?_
      refine lv_aload_n hx hb dX12_together_22 rfl (lv_at hl 0 rfl) ?_
      refine lv_lload_n hx hb dX12_together_23 rfl (lv_at hl 1 rfl) ?_
      refine lv_lload_n hx hb dX12_together_24 rfl (lv_at hl 2 rfl) ?_
      obtain ⟨q_5, hc_6, hF⟩ := bnd_some hF
      refine cV_l (As := [.long x0, .long x1]) (rest := [.long x1, .int (47 : Int32), .ref hT]) C X (c_X12_common l D hT aT yT n gT x0 x1 q_5 hc_6 _) (cwV 2 hts (good_V q9_85 q9_87 q0_113 q1_9 q9_88) rfl rfl rfl (by decide +kernel) ⟨Nat.le_of_ble_eq_true rfl, Nat.le_of_ble_eq_true rfl⟩) (va_recv X.1 X.2.1 (ci := 12) (q0 := 0) rfl rfl) X.1 X.2.1 X.2.2.1 (free_all X) hl.1 rfl rfl (Nat.le_of_ble_eq_true rfl) dX12_together_25 ⟨Nat.le_of_ble_eq_true rfl, Nat.le_of_ble_eq_true rfl⟩ (fun t H1 locs1 ht hB hk hS => ?_)
      have X : Hx D (tX12 yT) A s H1 locs1 (wX12 hT aT yT q_5.2) := Hx_after_all X ht hB hS
      clear hk hS ht hB
      generalize H1 = H at X ⊢
      generalize locs1 = locs at X ⊢
      refine lv_bipush (v := (7 : Int32)) hx hb dX12_together_28 (by decide) ?_
      obtain ⟨q_7, hc_8, hF⟩ := bnd_some hF
      refine cV_l (As := [.int (47 : Int32), .long x1, .long q_5.1, .int (7 : Int32)]) (rest := []) C X (c_X12_reckoned l D hT aT yT n q_5.2 (47 : Int32) x1 q_5.1 (7 : Int32) q_7 hc_8 _) (cwV 4 hts (good_V q9_114 q9_116 q0_118 q1_9 q9_117) rfl rfl rfl (by decide +kernel) ⟨Nat.le_of_ble_eq_true rfl, Nat.le_of_ble_eq_true rfl⟩) (va_recv X.1 X.2.1 (ci := 12) (q0 := 0) rfl rfl) X.1 X.2.1 X.2.2.1 (free_all X) hl.1 rfl rfl (Nat.le_of_ble_eq_true rfl) dX12_together_30 ⟨Nat.le_of_ble_eq_true rfl, Nat.le_of_ble_eq_true rfl⟩ (fun t H1 locs1 ht hB hk hS => ?_)
      have X : Hx D (tX12 yT) A s H1 locs1 (wX12 hT aT yT q_7.2) := Hx_after_all X ht hB hS
      clear hk hS ht hB
      generalize H1 = H at X ⊢
      generalize locs1 = locs at X ⊢
      refine lv_lstore (lv' := [(5, .long q_7.1), (0, .ref hT), (1, .long x0), (3, .long x1)]) hx hb dX12_together_33 hl (by decide) rfl (fun ls hl => ?_)
      refine lv_lload hx hb dX12_together_35 (lv_at hl 0 rfl) ?_
      refine lv_ldc2 hx hb hown (hts _ q8_99) dX12_together_37 ?_
      refine W.lcmp hx hb dX12_together_40 ?_
      refine lv_if_ne (tgt := 48) hx hb dX12_together_41 (by decide) (fun c => ?_) (fun c => ?_)
      · have c := fun h => c ((lg_cmp_eq _ _).mpr h)
        replace hF := iF c hF
        refine lv_aload_n hx hb dX12_together_48 rfl (lv_at hl 1 rfl) ?_
        refine lv_bipush (v := (42 : Int32)) hx hb dX12_together_49 (by decide) ?_
        refine lv_lload_n hx hb dX12_together_51 rfl (lv_at hl 2 rfl) ?_
        refine lv_lload hx hb dX12_together_52 (lv_at hl 0 rfl) ?_
        refine lv_bipush (v := (7 : Int32)) hx hb dX12_together_54 (by decide) ?_
        obtain ⟨q_9, hc_10, hF⟩ := bnd_some hF
        refine cV_l (As := [.int (42 : Int32), .long x0, .long q_7.1, .int (7 : Int32)]) (rest := []) C X (c_X12_reckoned l D hT aT yT n q_7.2 (42 : Int32) x0 q_7.1 (7 : Int32) q_9 hc_10 _) (cwV 4 hts (good_V q9_114 q9_116 q0_118 q1_9 q9_117) rfl rfl rfl (by decide +kernel) ⟨Nat.le_of_ble_eq_true rfl, Nat.le_of_ble_eq_true rfl⟩) (va_recv X.1 X.2.1 (ci := 12) (q0 := 0) rfl rfl) X.1 X.2.1 X.2.2.1 (free_all X) hl.1 rfl rfl (Nat.le_of_ble_eq_true rfl) dX12_together_56 ⟨Nat.le_of_ble_eq_true rfl, Nat.le_of_ble_eq_true rfl⟩ (fun t H1 locs1 ht hB hk hS => ?_)
        have X : Hx D (tX12 yT) A s H1 locs1 (wX12 hT aT yT q_9.2) := Hx_after_all X ht hB hS
        clear hk hS ht hB
        generalize H1 = H at X ⊢
        generalize locs1 = locs at X ⊢
        refine lv_lstore (lv' := [(7, .long q_9.1), (5, .long q_7.1), (0, .ref hT), (1, .long x0), (3, .long x1)]) hx hb dX12_together_59 hl (by decide) rfl (fun ls hl => ?_)
        refine lv_lload hx hb dX12_together_61 (lv_at hl 0 rfl) ?_
        refine lv_ldc2 hx hb hown (hts _ q8_99) dX12_together_63 ?_
        refine W.lcmp hx hb dX12_together_66 ?_
        refine lv_if_ne (tgt := 76) hx hb dX12_together_67 (by decide) (fun c => ?_) (fun c => ?_)
        · have c := fun h => c ((lg_cmp_eq _ _).mpr h)
          replace hF := iF c hF
          refine lv_lload hx hb dX12_together_76 (lv_at hl 0 rfl) ?_
          have hq := Option.some.inj hF
          subst hq
          exact rt_l C X dX12_together_78
        · have c := (lg_cmp_eq _ _).mp c
          replace hF := iT c hF
          refine lv_ldc2 hx hb hown (hts _ q9_125) dX12_together_70 ?_
          refine lv_goto (tgt := 78) hx hb dX12_together_73 (by decide) ?_
          have hq := Option.some.inj hF
          subst hq
          exact rt_l C X dX12_together_78
      · have c := (lg_cmp_eq _ _).mp c
        replace hF := iT c hF
        refine lv_ldc2 hx hb hown (hts _ q9_125) dX12_together_44 ?_
        have hq := Option.some.inj hF
        subst hq
        exact rt_l C X dX12_together_47
    · replace hF := iT c hF
      refine lv_ldc2 hx hb hown (hts _ q9_125) dX12_together_14 ?_
      have hq := Option.some.inj hF
      subst hq
      exact rt_l C X dX12_together_17

/-! ### X12_train -/
theorem dX12_train_0 : decode cX12_train 0 = .ok (.lload_n 1, 1) := by decide +kernel
theorem dX12_train_1 : decode cX12_train 1 = .ok (.invokestatic 745, 3) := by decide +kernel
theorem dX12_train_4 : decode cX12_train 4 = .ok (.ifCond .eq 44, 3) := by decide +kernel
theorem dX12_train_7 : decode cX12_train 7 = .ok (.iload_n 3, 1) := by decide +kernel
theorem dX12_train_8 : decode cX12_train 8 = .ok (.iconst 1, 1) := by decide +kernel
theorem dX12_train_9 : decode cX12_train 9 = .ok (.if_icmp .lt 39, 3) := by decide +kernel
theorem dX12_train_12 : decode cX12_train 12 = .ok (.iload_n 3, 1) := by decide +kernel
theorem dX12_train_13 : decode cX12_train 13 = .ok (.iconst 2, 1) := by decide +kernel
theorem dX12_train_14 : decode cX12_train 14 = .ok (.if_icmp .gt 34, 3) := by decide +kernel
theorem dX12_train_17 : decode cX12_train 17 = .ok (.iload 4, 2) := by decide +kernel
theorem dX12_train_19 : decode cX12_train 19 = .ok (.iconst 4, 1) := by decide +kernel
theorem dX12_train_20 : decode cX12_train 20 = .ok (.if_icmp .lt 28, 3) := by decide +kernel
theorem dX12_train_23 : decode cX12_train 23 = .ok (.iload 5, 2) := by decide +kernel
theorem dX12_train_25 : decode cX12_train 25 = .ok (.sipush 200, 3) := by decide +kernel
theorem dX12_train_28 : decode cX12_train 28 = .ok (.if_icmp .gt 20, 3) := by decide +kernel
theorem dX12_train_31 : decode cX12_train 31 = .ok (.iload 4, 2) := by decide +kernel
theorem dX12_train_33 : decode cX12_train 33 = .ok (.iload 5, 2) := by decide +kernel
theorem dX12_train_35 : decode cX12_train 35 = .ok (.if_icmp .gt 13, 3) := by decide +kernel
theorem dX12_train_38 : decode cX12_train 38 = .ok (.iload 5, 2) := by decide +kernel
theorem dX12_train_40 : decode cX12_train 40 = .ok (.iload 4, 2) := by decide +kernel
theorem dX12_train_42 : decode cX12_train 42 = .ok (.isub, 1) := by decide +kernel
theorem dX12_train_43 : decode cX12_train 43 = .ok (.bipush 30, 2) := by decide +kernel
theorem dX12_train_45 : decode cX12_train 45 = .ok (.if_icmp .le 7, 3) := by decide +kernel
theorem dX12_train_48 : decode cX12_train 48 = .ok (.ldc2_w 694, 3) := by decide +kernel
theorem dX12_train_51 : decode cX12_train 51 = .ok (.lreturn, 1) := by decide +kernel
theorem dX12_train_52 : decode cX12_train 52 = .ok (.lload_n 1, 1) := by decide +kernel
theorem dX12_train_53 : decode cX12_train 53 = .ok (.invokestatic 491, 3) := by decide +kernel
theorem dX12_train_56 : decode cX12_train 56 = .ok (.dstore 6, 2) := by decide +kernel
theorem dX12_train_58 : decode cX12_train 58 = .ok (.ldc2_w 748, 3) := by decide +kernel
theorem dX12_train_61 : decode cX12_train 61 = .ok (.dstore 8, 2) := by decide +kernel
theorem dX12_train_63 : decode cX12_train 63 = .ok (.iload_n 3, 1) := by decide +kernel
theorem dX12_train_64 : decode cX12_train 64 = .ok (.iconst 2, 1) := by decide +kernel
theorem dX12_train_65 : decode cX12_train 65 = .ok (.if_icmp .ne 8, 3) := by decide +kernel
theorem dX12_train_68 : decode cX12_train 68 = .ok (.iload 5, 2) := by decide +kernel
theorem dX12_train_70 : decode cX12_train 70 = .ok (.goto 5, 3) := by decide +kernel
theorem dX12_train_73 : decode cX12_train 73 = .ok (.iload 4, 2) := by decide +kernel
theorem dX12_train_75 : decode cX12_train 75 = .ok (.istore 10, 2) := by decide +kernel
theorem dX12_train_77 : decode cX12_train 77 = .ok (.aload_n 0, 1) := by decide +kernel
theorem dX12_train_78 : decode cX12_train 78 = .ok (.iconst 2, 1) := by decide +kernel
theorem dX12_train_79 : decode cX12_train 79 = .ok (.iload_n 3, 1) := by decide +kernel
theorem dX12_train_80 : decode cX12_train 80 = .ok (.imul, 1) := by decide +kernel
theorem dX12_train_81 : decode cX12_train 81 = .ok (.putfield 364, 3) := by decide +kernel
theorem dX12_train_84 : decode cX12_train 84 = .ok (.iconst 0, 1) := by decide +kernel
theorem dX12_train_85 : decode cX12_train 85 = .ok (.istore 11, 2) := by decide +kernel
theorem dX12_train_87 : decode cX12_train 87 = .ok (.iload 11, 2) := by decide +kernel
theorem dX12_train_89 : decode cX12_train 89 = .ok (.iconst 4, 1) := by decide +kernel
theorem dX12_train_90 : decode cX12_train 90 = .ok (.if_icmp .ge 17, 3) := by decide +kernel
theorem dX12_train_93 : decode cX12_train 93 = .ok (.aload_n 0, 1) := by decide +kernel
theorem dX12_train_94 : decode cX12_train 94 = .ok (.getfield 367, 3) := by decide +kernel
theorem dX12_train_97 : decode cX12_train 97 = .ok (.iload 11, 2) := by decide +kernel
theorem dX12_train_99 : decode cX12_train 99 = .ok (.iconst 0, 1) := by decide +kernel
theorem dX12_train_100 : decode cX12_train 100 = .ok (.iastore, 1) := by decide +kernel
theorem dX12_train_101 : decode cX12_train 101 = .ok (.iinc 11 1, 3) := by decide +kernel
theorem dX12_train_104 : decode cX12_train 104 = .ok (.goto (-17), 3) := by decide +kernel
theorem dX12_train_107 : decode cX12_train 107 = .ok (.iload 4, 2) := by decide +kernel
theorem dX12_train_109 : decode cX12_train 109 = .ok (.istore 11, 2) := by decide +kernel
theorem dX12_train_111 : decode cX12_train 111 = .ok (.iload 11, 2) := by decide +kernel
theorem dX12_train_113 : decode cX12_train 113 = .ok (.iload 5, 2) := by decide +kernel
theorem dX12_train_115 : decode cX12_train 115 = .ok (.if_icmp .gt 186, 3) := by decide +kernel
theorem dX12_train_118 : decode cX12_train 118 = .ok (.iload 4, 2) := by decide +kernel
theorem dX12_train_120 : decode cX12_train 120 = .ok (.istore 12, 2) := by decide +kernel
theorem dX12_train_122 : decode cX12_train 122 = .ok (.iload 12, 2) := by decide +kernel
theorem dX12_train_124 : decode cX12_train 124 = .ok (.iload 5, 2) := by decide +kernel
theorem dX12_train_126 : decode cX12_train 126 = .ok (.if_icmp .gt 169, 3) := by decide +kernel
theorem dX12_train_129 : decode cX12_train 129 = .ok (.iload 11, 2) := by decide +kernel
theorem dX12_train_131 : decode cX12_train 131 = .ok (.i2d, 1) := by decide +kernel
theorem dX12_train_132 : decode cX12_train 132 = .ok (.iload 12, 2) := by decide +kernel
theorem dX12_train_134 : decode cX12_train 134 = .ok (.i2d, 1) := by decide +kernel
theorem dX12_train_135 : decode cX12_train 135 = .ok (.ddiv, 1) := by decide +kernel
theorem dX12_train_136 : decode cX12_train 136 = .ok (.dstore 13, 2) := by decide +kernel
theorem dX12_train_138 : decode cX12_train 138 = .ok (.iload 4, 2) := by decide +kernel
theorem dX12_train_140 : decode cX12_train 140 = .ok (.istore 15, 2) := by decide +kernel
theorem dX12_train_142 : decode cX12_train 142 = .ok (.iload 15, 2) := by decide +kernel
theorem dX12_train_144 : decode cX12_train 144 = .ok (.iload 10, 2) := by decide +kernel
theorem dX12_train_146 : decode cX12_train 146 = .ok (.if_icmp .gt 143, 3) := by decide +kernel
theorem dX12_train_149 : decode cX12_train 149 = .ok (.iload 4, 2) := by decide +kernel
theorem dX12_train_151 : decode cX12_train 151 = .ok (.istore 16, 2) := by decide +kernel
theorem dX12_train_153 : decode cX12_train 153 = .ok (.iload 16, 2) := by decide +kernel
theorem dX12_train_155 : decode cX12_train 155 = .ok (.iload 10, 2) := by decide +kernel
theorem dX12_train_157 : decode cX12_train 157 = .ok (.if_icmp .gt 126, 3) := by decide +kernel
theorem dX12_train_160 : decode cX12_train 160 = .ok (.iload_n 3, 1) := by decide +kernel
theorem dX12_train_161 : decode cX12_train 161 = .ok (.iconst 2, 1) := by decide +kernel
theorem dX12_train_162 : decode cX12_train 162 = .ok (.if_icmp .ne 16, 3) := by decide +kernel
theorem dX12_train_165 : decode cX12_train 165 = .ok (.dload 13, 2) := by decide +kernel
theorem dX12_train_167 : decode cX12_train 167 = .ok (.iload 15, 2) := by decide +kernel
theorem dX12_train_169 : decode cX12_train 169 = .ok (.i2d, 1) := by decide +kernel
theorem dX12_train_170 : decode cX12_train 170 = .ok (.iload 16, 2) := by decide +kernel
theorem dX12_train_172 : decode cX12_train 172 = .ok (.i2d, 1) := by decide +kernel
theorem dX12_train_173 : decode cX12_train 173 = .ok (.ddiv, 1) := by decide +kernel
theorem dX12_train_174 : decode cX12_train 174 = .ok (.dmul, 1) := by decide +kernel
theorem dX12_train_175 : decode cX12_train 175 = .ok (.goto 5, 3) := by decide +kernel
theorem dX12_train_178 : decode cX12_train 178 = .ok (.dload 13, 2) := by decide +kernel
theorem dX12_train_180 : decode cX12_train 180 = .ok (.dstore 17, 2) := by decide +kernel
theorem dX12_train_182 : decode cX12_train 182 = .ok (.dload 17, 2) := by decide +kernel
theorem dX12_train_184 : decode cX12_train 184 = .ok (.dload 6, 2) := by decide +kernel
theorem dX12_train_186 : decode cX12_train 186 = .ok (.dcmp .g, 1) := by decide +kernel
theorem dX12_train_187 : decode cX12_train 187 = .ok (.ifCond .ge 11, 3) := by decide +kernel
theorem dX12_train_190 : decode cX12_train 190 = .ok (.dload 6, 2) := by decide +kernel
theorem dX12_train_192 : decode cX12_train 192 = .ok (.dload 17, 2) := by decide +kernel
theorem dX12_train_194 : decode cX12_train 194 = .ok (.dsub, 1) := by decide +kernel
theorem dX12_train_195 : decode cX12_train 195 = .ok (.goto 8, 3) := by decide +kernel
theorem dX12_train_198 : decode cX12_train 198 = .ok (.dload 17, 2) := by decide +kernel
theorem dX12_train_200 : decode cX12_train 200 = .ok (.dload 6, 2) := by decide +kernel
theorem dX12_train_202 : decode cX12_train 202 = .ok (.dsub, 1) := by decide +kernel
theorem dX12_train_203 : decode cX12_train 203 = .ok (.dstore 19, 2) := by decide +kernel
theorem dX12_train_205 : decode cX12_train 205 = .ok (.dload 8, 2) := by decide +kernel
theorem dX12_train_207 : decode cX12_train 207 = .ok (.dconst 0, 1) := by decide +kernel
theorem dX12_train_208 : decode cX12_train 208 = .ok (.dcmp .l, 1) := by decide +kernel
theorem dX12_train_209 : decode cX12_train 209 = .ok (.ifCond .lt 14, 3) := by decide +kernel
theorem dX12_train_212 : decode cX12_train 212 = .ok (.dload 19, 2) := by decide +kernel
theorem dX12_train_214 : decode cX12_train 214 = .ok (.dload 8, 2) := by decide +kernel
theorem dX12_train_216 : decode cX12_train 216 = .ok (.dcmp .l, 1) := by decide +kernel
theorem dX12_train_217 : decode cX12_train 217 = .ok (.ifCond .lt 6, 3) := by decide +kernel
theorem dX12_train_220 : decode cX12_train 220 = .ok (.goto 57, 3) := by decide +kernel
theorem dX12_train_223 : decode cX12_train 223 = .ok (.dload 19, 2) := by decide +kernel
theorem dX12_train_225 : decode cX12_train 225 = .ok (.dstore 8, 2) := by decide +kernel
theorem dX12_train_227 : decode cX12_train 227 = .ok (.aload_n 0, 1) := by decide +kernel
theorem dX12_train_228 : decode cX12_train 228 = .ok (.getfield 367, 3) := by decide +kernel
theorem dX12_train_231 : decode cX12_train 231 = .ok (.iconst 0, 1) := by decide +kernel
theorem dX12_train_232 : decode cX12_train 232 = .ok (.iload 11, 2) := by decide +kernel
theorem dX12_train_234 : decode cX12_train 234 = .ok (.iastore, 1) := by decide +kernel
theorem dX12_train_235 : decode cX12_train 235 = .ok (.aload_n 0, 1) := by decide +kernel
theorem dX12_train_236 : decode cX12_train 236 = .ok (.getfield 367, 3) := by decide +kernel
theorem dX12_train_239 : decode cX12_train 239 = .ok (.iconst 1, 1) := by decide +kernel
theorem dX12_train_240 : decode cX12_train 240 = .ok (.iload 12, 2) := by decide +kernel
theorem dX12_train_242 : decode cX12_train 242 = .ok (.iastore, 1) := by decide +kernel
theorem dX12_train_243 : decode cX12_train 243 = .ok (.aload_n 0, 1) := by decide +kernel
theorem dX12_train_244 : decode cX12_train 244 = .ok (.getfield 367, 3) := by decide +kernel
theorem dX12_train_247 : decode cX12_train 247 = .ok (.iconst 2, 1) := by decide +kernel
theorem dX12_train_248 : decode cX12_train 248 = .ok (.iload_n 3, 1) := by decide +kernel
theorem dX12_train_249 : decode cX12_train 249 = .ok (.iconst 2, 1) := by decide +kernel
theorem dX12_train_250 : decode cX12_train 250 = .ok (.if_icmp .ne 8, 3) := by decide +kernel
theorem dX12_train_253 : decode cX12_train 253 = .ok (.iload 15, 2) := by decide +kernel
theorem dX12_train_255 : decode cX12_train 255 = .ok (.goto 4, 3) := by decide +kernel
theorem dX12_train_258 : decode cX12_train 258 = .ok (.iconst 0, 1) := by decide +kernel
theorem dX12_train_259 : decode cX12_train 259 = .ok (.iastore, 1) := by decide +kernel
theorem dX12_train_260 : decode cX12_train 260 = .ok (.aload_n 0, 1) := by decide +kernel
theorem dX12_train_261 : decode cX12_train 261 = .ok (.getfield 367, 3) := by decide +kernel
theorem dX12_train_264 : decode cX12_train 264 = .ok (.iconst 3, 1) := by decide +kernel
theorem dX12_train_265 : decode cX12_train 265 = .ok (.iload_n 3, 1) := by decide +kernel
theorem dX12_train_266 : decode cX12_train 266 = .ok (.iconst 2, 1) := by decide +kernel
theorem dX12_train_267 : decode cX12_train 267 = .ok (.if_icmp .ne 8, 3) := by decide +kernel
theorem dX12_train_270 : decode cX12_train 270 = .ok (.iload 16, 2) := by decide +kernel
theorem dX12_train_272 : decode cX12_train 272 = .ok (.goto 4, 3) := by decide +kernel
theorem dX12_train_275 : decode cX12_train 275 = .ok (.iconst 0, 1) := by decide +kernel
theorem dX12_train_276 : decode cX12_train 276 = .ok (.iastore, 1) := by decide +kernel
theorem dX12_train_277 : decode cX12_train 277 = .ok (.iinc 16 1, 3) := by decide +kernel
theorem dX12_train_280 : decode cX12_train 280 = .ok (.goto (-127), 3) := by decide +kernel
theorem dX12_train_283 : decode cX12_train 283 = .ok (.iinc 15 1, 3) := by decide +kernel
theorem dX12_train_286 : decode cX12_train 286 = .ok (.goto (-144), 3) := by decide +kernel
theorem dX12_train_289 : decode cX12_train 289 = .ok (.iinc 12 1, 3) := by decide +kernel
theorem dX12_train_292 : decode cX12_train 292 = .ok (.goto (-170), 3) := by decide +kernel
theorem dX12_train_295 : decode cX12_train 295 = .ok (.iinc 11 1, 3) := by decide +kernel
theorem dX12_train_298 : decode cX12_train 298 = .ok (.goto (-187), 3) := by decide +kernel
theorem dX12_train_301 : decode cX12_train 301 = .ok (.dload 8, 2) := by decide +kernel
theorem dX12_train_303 : decode cX12_train 303 = .ok (.invokestatic 497, 3) := by decide +kernel
theorem dX12_train_306 : decode cX12_train 306 = .ok (.lreturn, 1) := by decide +kernel
abbrev R_X12_train : Room := ({ frames := 2, cells := 0, slots := 0, locals := 85 } : Room)
def b_X12_train_277 (n : Nat) (rec : (Gs → Int32 → Int32 → Int32 → UInt64 → UInt64 → Int32 → Int32 → Option (Int64 × Gs)) × (Gs → Int32 → Int32 → Int32 → UInt64 → UInt64 → Int32 → Int32 → Option (Int64 × Gs)) × (Gs → Int32 → Int32 → Int32 → UInt64 → UInt64 → Int32 → Int32 → Int32 → Option (Int64 × Gs)) × (Gs → Int32 → Int32 → Int32 → UInt64 → UInt64 → Int32 → Int32 → Int32 → UInt64 → Int32 → Option (Int64 × Gs)) × (Gs → Int32 → Int32 → Int32 → UInt64 → UInt64 → Int32 → Int32 → Int32 → UInt64 → Int32 → Int32 → Option (Int64 × Gs))) (gT : Gs) (v3 : Int32) (v4 : Int32) (v5 : Int32) (v6 : UInt64) (v8 : UInt64) (v10 : Int32) (v11 : Int32) (v12 : Int32) (v13 : UInt64) (v15 : Int32) (v16 : Int32) : Option (Int64 × Gs) :=
  rec.2.2.2.2 gT v3 v4 v5 v6 v8 v10 v11 v12 v13 v15 (v16 + (1 : Int32))
def b_X12_train_276 (n : Nat) (rec : (Gs → Int32 → Int32 → Int32 → UInt64 → UInt64 → Int32 → Int32 → Option (Int64 × Gs)) × (Gs → Int32 → Int32 → Int32 → UInt64 → UInt64 → Int32 → Int32 → Option (Int64 × Gs)) × (Gs → Int32 → Int32 → Int32 → UInt64 → UInt64 → Int32 → Int32 → Int32 → Option (Int64 × Gs)) × (Gs → Int32 → Int32 → Int32 → UInt64 → UInt64 → Int32 → Int32 → Int32 → UInt64 → Int32 → Option (Int64 × Gs)) × (Gs → Int32 → Int32 → Int32 → UInt64 → UInt64 → Int32 → Int32 → Int32 → UInt64 → Int32 → Int32 → Option (Int64 × Gs))) (gT : Gs) (v3 : Int32) (v4 : Int32) (v5 : Int32) (v6 : UInt64) (v8 : UInt64) (v10 : Int32) (v11 : Int32) (v12 : Int32) (v13 : UInt64) (v15 : Int32) (v16 : Int32) (s0 : Int32) (s1 : Int32) : Option (Int64 × Gs) :=
  grd (inB s1 4) (b_X12_train_277 n rec (sIA gT 102 (upd (gIA gT 102) s1.toNatClampNeg s0)) v3 v4 v5 v6 v8 v10 v11 v12 v13 v15 v16)
def b_X12_train_259 (n : Nat) (rec : (Gs → Int32 → Int32 → Int32 → UInt64 → UInt64 → Int32 → Int32 → Option (Int64 × Gs)) × (Gs → Int32 → Int32 → Int32 → UInt64 → UInt64 → Int32 → Int32 → Option (Int64 × Gs)) × (Gs → Int32 → Int32 → Int32 → UInt64 → UInt64 → Int32 → Int32 → Int32 → Option (Int64 × Gs)) × (Gs → Int32 → Int32 → Int32 → UInt64 → UInt64 → Int32 → Int32 → Int32 → UInt64 → Int32 → Option (Int64 × Gs)) × (Gs → Int32 → Int32 → Int32 → UInt64 → UInt64 → Int32 → Int32 → Int32 → UInt64 → Int32 → Int32 → Option (Int64 × Gs))) (gT : Gs) (v3 : Int32) (v4 : Int32) (v5 : Int32) (v6 : UInt64) (v8 : UInt64) (v10 : Int32) (v11 : Int32) (v12 : Int32) (v13 : UInt64) (v15 : Int32) (v16 : Int32) (s0 : Int32) (s1 : Int32) : Option (Int64 × Gs) :=
  grd (inB s1 4) (if v3 = (2 : Int32) then (b_X12_train_276 n rec (sIA gT 102 (upd (gIA gT 102) s1.toNatClampNeg s0)) v3 v4 v5 v6 v8 v10 v11 v12 v13 v15 v16 v16 (3 : Int32)) else (b_X12_train_276 n rec (sIA gT 102 (upd (gIA gT 102) s1.toNatClampNeg s0)) v3 v4 v5 v6 v8 v10 v11 v12 v13 v15 v16 (0 : Int32) (3 : Int32)))
def b_X12_train_223 (n : Nat) (rec : (Gs → Int32 → Int32 → Int32 → UInt64 → UInt64 → Int32 → Int32 → Option (Int64 × Gs)) × (Gs → Int32 → Int32 → Int32 → UInt64 → UInt64 → Int32 → Int32 → Option (Int64 × Gs)) × (Gs → Int32 → Int32 → Int32 → UInt64 → UInt64 → Int32 → Int32 → Int32 → Option (Int64 × Gs)) × (Gs → Int32 → Int32 → Int32 → UInt64 → UInt64 → Int32 → Int32 → Int32 → UInt64 → Int32 → Option (Int64 × Gs)) × (Gs → Int32 → Int32 → Int32 → UInt64 → UInt64 → Int32 → Int32 → Int32 → UInt64 → Int32 → Int32 → Option (Int64 × Gs))) (gT : Gs) (v3 : Int32) (v4 : Int32) (v5 : Int32) (v6 : UInt64) (v10 : Int32) (v11 : Int32) (v12 : Int32) (v13 : UInt64) (v15 : Int32) (v16 : Int32) (v19 : UInt64) : Option (Int64 × Gs) :=
  grd (inB (0 : Int32) 4) (grd (inB (1 : Int32) 4) (if v3 = (2 : Int32) then (b_X12_train_259 n rec (sIA (sIA gT 102 (upd (gIA gT 102) (0 : Int32).toNatClampNeg v11)) 102 (upd (upd (gIA gT 102) (0 : Int32).toNatClampNeg v11) (1 : Int32).toNatClampNeg v12)) v3 v4 v5 v6 v19 v10 v11 v12 v13 v15 v16 v15 (2 : Int32)) else (b_X12_train_259 n rec (sIA (sIA gT 102 (upd (gIA gT 102) (0 : Int32).toNatClampNeg v11)) 102 (upd (upd (gIA gT 102) (0 : Int32).toNatClampNeg v11) (1 : Int32).toNatClampNeg v12)) v3 v4 v5 v6 v19 v10 v11 v12 v13 v15 v16 (0 : Int32) (2 : Int32))))
def b_X12_train_203 (n : Nat) (rec : (Gs → Int32 → Int32 → Int32 → UInt64 → UInt64 → Int32 → Int32 → Option (Int64 × Gs)) × (Gs → Int32 → Int32 → Int32 → UInt64 → UInt64 → Int32 → Int32 → Option (Int64 × Gs)) × (Gs → Int32 → Int32 → Int32 → UInt64 → UInt64 → Int32 → Int32 → Int32 → Option (Int64 × Gs)) × (Gs → Int32 → Int32 → Int32 → UInt64 → UInt64 → Int32 → Int32 → Int32 → UInt64 → Int32 → Option (Int64 × Gs)) × (Gs → Int32 → Int32 → Int32 → UInt64 → UInt64 → Int32 → Int32 → Int32 → UInt64 → Int32 → Int32 → Option (Int64 × Gs))) (gT : Gs) (v3 : Int32) (v4 : Int32) (v5 : Int32) (v6 : UInt64) (v8 : UInt64) (v10 : Int32) (v11 : Int32) (v12 : Int32) (v13 : UInt64) (v15 : Int32) (v16 : Int32) (s0 : UInt64) : Option (Int64 × Gs) :=
  if (Op.cmpValue (FP.dcmp v8 FP.dconst0) .l) < 0 then (b_X12_train_223 n rec gT v3 v4 v5 v6 v10 v11 v12 v13 v15 v16 s0) else (if (Op.cmpValue (FP.dcmp s0 v8) .l) < 0 then (b_X12_train_223 n rec gT v3 v4 v5 v6 v10 v11 v12 v13 v15 v16 s0) else (b_X12_train_277 n rec gT v3 v4 v5 v6 v8 v10 v11 v12 v13 v15 v16))
def b_X12_train_180 (n : Nat) (rec : (Gs → Int32 → Int32 → Int32 → UInt64 → UInt64 → Int32 → Int32 → Option (Int64 × Gs)) × (Gs → Int32 → Int32 → Int32 → UInt64 → UInt64 → Int32 → Int32 → Option (Int64 × Gs)) × (Gs → Int32 → Int32 → Int32 → UInt64 → UInt64 → Int32 → Int32 → Int32 → Option (Int64 × Gs)) × (Gs → Int32 → Int32 → Int32 → UInt64 → UInt64 → Int32 → Int32 → Int32 → UInt64 → Int32 → Option (Int64 × Gs)) × (Gs → Int32 → Int32 → Int32 → UInt64 → UInt64 → Int32 → Int32 → Int32 → UInt64 → Int32 → Int32 → Option (Int64 × Gs))) (gT : Gs) (v3 : Int32) (v4 : Int32) (v5 : Int32) (v6 : UInt64) (v8 : UInt64) (v10 : Int32) (v11 : Int32) (v12 : Int32) (v13 : UInt64) (v15 : Int32) (v16 : Int32) (s0 : UInt64) : Option (Int64 × Gs) :=
  if 0 ≤ (Op.cmpValue (FP.dcmp s0 v6) .g) then (grd (n64 (FP.dsub s0 v6)) (b_X12_train_203 n rec gT v3 v4 v5 v6 v8 v10 v11 v12 v13 v15 v16 (FP.dsub s0 v6))) else (grd (n64 (FP.dsub v6 s0)) (b_X12_train_203 n rec gT v3 v4 v5 v6 v8 v10 v11 v12 v13 v15 v16 (FP.dsub v6 s0)))
def h_X12_train_153 (n : Nat) (rec : (Gs → Int32 → Int32 → Int32 → UInt64 → UInt64 → Int32 → Int32 → Option (Int64 × Gs)) × (Gs → Int32 → Int32 → Int32 → UInt64 → UInt64 → Int32 → Int32 → Option (Int64 × Gs)) × (Gs → Int32 → Int32 → Int32 → UInt64 → UInt64 → Int32 → Int32 → Int32 → Option (Int64 × Gs)) × (Gs → Int32 → Int32 → Int32 → UInt64 → UInt64 → Int32 → Int32 → Int32 → UInt64 → Int32 → Option (Int64 × Gs)) × (Gs → Int32 → Int32 → Int32 → UInt64 → UInt64 → Int32 → Int32 → Int32 → UInt64 → Int32 → Int32 → Option (Int64 × Gs))) (gT : Gs) (v3 : Int32) (v4 : Int32) (v5 : Int32) (v6 : UInt64) (v8 : UInt64) (v10 : Int32) (v11 : Int32) (v12 : Int32) (v13 : UInt64) (v15 : Int32) (v16 : Int32) : Option (Int64 × Gs) :=
  if v10 < v16 then (rec.2.2.2.1 gT v3 v4 v5 v6 v8 v10 v11 v12 v13 (v15 + (1 : Int32))) else (if v3 = (2 : Int32) then (grd (n64 (FP.ddiv (FP.i2d v15) (FP.i2d v16))) (grd (n64 (FP.dmul v13 (FP.ddiv (FP.i2d v15) (FP.i2d v16)))) (b_X12_train_180 n rec gT v3 v4 v5 v6 v8 v10 v11 v12 v13 v15 v16 (FP.dmul v13 (FP.ddiv (FP.i2d v15) (FP.i2d v16)))))) else (b_X12_train_180 n rec gT v3 v4 v5 v6 v8 v10 v11 v12 v13 v15 v16 v13))
def h_X12_train_142 (n : Nat) (rec : (Gs → Int32 → Int32 → Int32 → UInt64 → UInt64 → Int32 → Int32 → Option (Int64 × Gs)) × (Gs → Int32 → Int32 → Int32 → UInt64 → UInt64 → Int32 → Int32 → Option (Int64 × Gs)) × (Gs → Int32 → Int32 → Int32 → UInt64 → UInt64 → Int32 → Int32 → Int32 → Option (Int64 × Gs)) × (Gs → Int32 → Int32 → Int32 → UInt64 → UInt64 → Int32 → Int32 → Int32 → UInt64 → Int32 → Option (Int64 × Gs)) × (Gs → Int32 → Int32 → Int32 → UInt64 → UInt64 → Int32 → Int32 → Int32 → UInt64 → Int32 → Int32 → Option (Int64 × Gs))) (gT : Gs) (v3 : Int32) (v4 : Int32) (v5 : Int32) (v6 : UInt64) (v8 : UInt64) (v10 : Int32) (v11 : Int32) (v12 : Int32) (v13 : UInt64) (v15 : Int32) : Option (Int64 × Gs) :=
  if v10 < v15 then (rec.2.2.1 gT v3 v4 v5 v6 v8 v10 v11 (v12 + (1 : Int32))) else (rec.2.2.2.2 gT v3 v4 v5 v6 v8 v10 v11 v12 v13 v15 v4)
def h_X12_train_122 (n : Nat) (rec : (Gs → Int32 → Int32 → Int32 → UInt64 → UInt64 → Int32 → Int32 → Option (Int64 × Gs)) × (Gs → Int32 → Int32 → Int32 → UInt64 → UInt64 → Int32 → Int32 → Option (Int64 × Gs)) × (Gs → Int32 → Int32 → Int32 → UInt64 → UInt64 → Int32 → Int32 → Int32 → Option (Int64 × Gs)) × (Gs → Int32 → Int32 → Int32 → UInt64 → UInt64 → Int32 → Int32 → Int32 → UInt64 → Int32 → Option (Int64 × Gs)) × (Gs → Int32 → Int32 → Int32 → UInt64 → UInt64 → Int32 → Int32 → Int32 → UInt64 → Int32 → Int32 → Option (Int64 × Gs))) (gT : Gs) (v3 : Int32) (v4 : Int32) (v5 : Int32) (v6 : UInt64) (v8 : UInt64) (v10 : Int32) (v11 : Int32) (v12 : Int32) : Option (Int64 × Gs) :=
  if v5 < v12 then (rec.2.1 gT v3 v4 v5 v6 v8 v10 (v11 + (1 : Int32))) else (grd (n64 (FP.ddiv (FP.i2d v11) (FP.i2d v12))) (rec.2.2.2.1 gT v3 v4 v5 v6 v8 v10 v11 v12 (FP.ddiv (FP.i2d v11) (FP.i2d v12)) v4))
def h_X12_train_111 (n : Nat) (rec : (Gs → Int32 → Int32 → Int32 → UInt64 → UInt64 → Int32 → Int32 → Option (Int64 × Gs)) × (Gs → Int32 → Int32 → Int32 → UInt64 → UInt64 → Int32 → Int32 → Option (Int64 × Gs)) × (Gs → Int32 → Int32 → Int32 → UInt64 → UInt64 → Int32 → Int32 → Int32 → Option (Int64 × Gs)) × (Gs → Int32 → Int32 → Int32 → UInt64 → UInt64 → Int32 → Int32 → Int32 → UInt64 → Int32 → Option (Int64 × Gs)) × (Gs → Int32 → Int32 → Int32 → UInt64 → UInt64 → Int32 → Int32 → Int32 → UInt64 → Int32 → Int32 → Option (Int64 × Gs))) (gT : Gs) (v3 : Int32) (v4 : Int32) (v5 : Int32) (v6 : UInt64) (v8 : UInt64) (v10 : Int32) (v11 : Int32) : Option (Int64 × Gs) :=
  if v5 < v11 then (bnd (f_Jxe99ae_doubleToLongBits_ccdee v8) (fun q_4 => some (q_4, gT))) else (rec.2.2.1 gT v3 v4 v5 v6 v8 v10 v11 v4)
def h_X12_train_87 (n : Nat) (rec : (Gs → Int32 → Int32 → Int32 → UInt64 → UInt64 → Int32 → Int32 → Option (Int64 × Gs)) × (Gs → Int32 → Int32 → Int32 → UInt64 → UInt64 → Int32 → Int32 → Option (Int64 × Gs)) × (Gs → Int32 → Int32 → Int32 → UInt64 → UInt64 → Int32 → Int32 → Int32 → Option (Int64 × Gs)) × (Gs → Int32 → Int32 → Int32 → UInt64 → UInt64 → Int32 → Int32 → Int32 → UInt64 → Int32 → Option (Int64 × Gs)) × (Gs → Int32 → Int32 → Int32 → UInt64 → UInt64 → Int32 → Int32 → Int32 → UInt64 → Int32 → Int32 → Option (Int64 × Gs))) (gT : Gs) (v3 : Int32) (v4 : Int32) (v5 : Int32) (v6 : UInt64) (v8 : UInt64) (v10 : Int32) (v11 : Int32) : Option (Int64 × Gs) :=
  if (4 : Int32) ≤ v11 then (rec.2.1 gT v3 v4 v5 v6 v8 v10 v4) else (grd (inB v11 4) (rec.1 (sIA gT 102 (upd (gIA gT 102) v11.toNatClampNeg (0 : Int32))) v3 v4 v5 v6 v8 v10 (v11 + (1 : Int32))))
def b_X12_train_75 (n : Nat) (rec : (Gs → Int32 → Int32 → Int32 → UInt64 → UInt64 → Int32 → Int32 → Option (Int64 × Gs)) × (Gs → Int32 → Int32 → Int32 → UInt64 → UInt64 → Int32 → Int32 → Option (Int64 × Gs)) × (Gs → Int32 → Int32 → Int32 → UInt64 → UInt64 → Int32 → Int32 → Int32 → Option (Int64 × Gs)) × (Gs → Int32 → Int32 → Int32 → UInt64 → UInt64 → Int32 → Int32 → Int32 → UInt64 → Int32 → Option (Int64 × Gs)) × (Gs → Int32 → Int32 → Int32 → UInt64 → UInt64 → Int32 → Int32 → Int32 → UInt64 → Int32 → Int32 → Option (Int64 × Gs))) (gT : Gs) (v3 : Int32) (v4 : Int32) (v5 : Int32) (v6 : UInt64) (v8 : UInt64) (s0 : Int32) : Option (Int64 × Gs) :=
  rec.1 (sI gT 101 ((2 : Int32) * v3)) v3 v4 v5 v6 v8 s0 (0 : Int32)
def L_X12_train (n : Nat) : Nat → ((Gs → Int32 → Int32 → Int32 → UInt64 → UInt64 → Int32 → Int32 → Option (Int64 × Gs)) × (Gs → Int32 → Int32 → Int32 → UInt64 → UInt64 → Int32 → Int32 → Option (Int64 × Gs)) × (Gs → Int32 → Int32 → Int32 → UInt64 → UInt64 → Int32 → Int32 → Int32 → Option (Int64 × Gs)) × (Gs → Int32 → Int32 → Int32 → UInt64 → UInt64 → Int32 → Int32 → Int32 → UInt64 → Int32 → Option (Int64 × Gs)) × (Gs → Int32 → Int32 → Int32 → UInt64 → UInt64 → Int32 → Int32 → Int32 → UInt64 → Int32 → Int32 → Option (Int64 × Gs)))
  | 0 => ((fun _ _ _ _ _ _ _ _ => none), (fun _ _ _ _ _ _ _ _ => none), (fun _ _ _ _ _ _ _ _ _ => none), (fun _ _ _ _ _ _ _ _ _ _ _ => none), (fun _ _ _ _ _ _ _ _ _ _ _ _ => none))
  | k + 1 => (h_X12_train_87 n (L_X12_train n k), h_X12_train_111 n (L_X12_train n k), h_X12_train_122 n (L_X12_train n k), h_X12_train_142 n (L_X12_train n k), h_X12_train_153 n (L_X12_train n k))
def f_X12_train (n : Nat) (gT : Gs) (x0 : Int64) (x1 : Int32) (x2 : Int32) (x3 : Int32) : Option (Int64 × Gs) :=
  bnd (f_X12_isAbove x0) (fun q_1 => if q_1 = 0 then (some ((-1 : Int64), gT)) else (if x1 < (1 : Int32) then (some ((-1 : Int64), gT)) else (if (2 : Int32) < x1 then (some ((-1 : Int64), gT)) else (if x2 < (4 : Int32) then (some ((-1 : Int64), gT)) else (if (200 : Int32) < x3 then (some ((-1 : Int64), gT)) else (if x3 < x2 then (some ((-1 : Int64), gT)) else (if (x3 - x2) ≤ (30 : Int32) then (grd (nsnB x0) (if x1 = (2 : Int32) then (b_X12_train_75 n (L_X12_train n n) gT x1 x2 x3 x0.toUInt64 (13830554455654793216 : UInt64) x3) else (b_X12_train_75 n (L_X12_train n n) gT x1 x2 x3 x0.toUInt64 (13830554455654793216 : UInt64) x2))) else (some ((-1 : Int64), gT)))))))))
def S_X12_train_277 (l : Launch) (D : Dx) (hT : Nat) (aT : Nat → Nat) (yT : Nat → ClassId) (fn : Gs → Int32 → Int32 → Int32 → UInt64 → UInt64 → Int32 → Int32 → Int32 → UInt64 → Int32 → Int32 → Option (Int64 × Gs)) : Prop :=
  ∀ {p : Program} {e : Env} {s : State} {m : MethodId} {args : Array Value} {below : List Frame} {meth : Method} {c : Code} {H : Heap} {locs : List Loc} {A : Nat → Prop} {ls : Array Slot} {gT : Gs} {v3 : Int32} {v4 : Int32} {v5 : Int32} {v6 : UInt64} {v8 : UInt64} {v10 : Int32} {v11 : Int32} {v12 : Int32} {v13 : UInt64} {v15 : Int32} {v16 : Int32} {q : Int64 × Gs}, Cx p s m args meth c cX12_train (some .long) 21 RX12 lw_all → Hx D (tX12 yT) A s H locs (wX12 hT aT yT gT) → lv_has ls 21 [(0, .ref hT), (3, .int v3), (4, .int v4), (5, .int v5), (6, .double v6), (8, .double v8), (10, .int v10), (11, .int v11), (12, .int v12), (13, .double v13), (15, .int v15), (16, .int v16)] → fn gT v3 v4 v5 v6 v8 v10 v11 v12 v13 v15 v16 = some q → W p l e R_X12_train s m args below meth c H locs 0 0 (MQ below (QL D A (wX12 hT aT yT q.2) q.1) args s 0 0 A) (F0 m 277 ls [])
def S_X12_train_276 (l : Launch) (D : Dx) (hT : Nat) (aT : Nat → Nat) (yT : Nat → ClassId) (fn : Gs → Int32 → Int32 → Int32 → UInt64 → UInt64 → Int32 → Int32 → Int32 → UInt64 → Int32 → Int32 → Int32 → Int32 → Option (Int64 × Gs)) : Prop :=
  ∀ {p : Program} {e : Env} {s : State} {m : MethodId} {args : Array Value} {below : List Frame} {meth : Method} {c : Code} {H : Heap} {locs : List Loc} {A : Nat → Prop} {ls : Array Slot} {gT : Gs} {v3 : Int32} {v4 : Int32} {v5 : Int32} {v6 : UInt64} {v8 : UInt64} {v10 : Int32} {v11 : Int32} {v12 : Int32} {v13 : UInt64} {v15 : Int32} {v16 : Int32} {s0 : Int32} {s1 : Int32} {q : Int64 × Gs}, Cx p s m args meth c cX12_train (some .long) 21 RX12 lw_all → Hx D (tX12 yT) A s H locs (wX12 hT aT yT gT) → lv_has ls 21 [(0, .ref hT), (3, .int v3), (4, .int v4), (5, .int v5), (6, .double v6), (8, .double v8), (10, .int v10), (11, .int v11), (12, .int v12), (13, .double v13), (15, .int v15), (16, .int v16)] → fn gT v3 v4 v5 v6 v8 v10 v11 v12 v13 v15 v16 s0 s1 = some q → W p l e R_X12_train s m args below meth c H locs 0 0 (MQ below (QL D A (wX12 hT aT yT q.2) q.1) args s 0 0 A) (F0 m 276 ls [.int s0, .int s1, .ref (aT 102)])
def S_X12_train_259 (l : Launch) (D : Dx) (hT : Nat) (aT : Nat → Nat) (yT : Nat → ClassId) (fn : Gs → Int32 → Int32 → Int32 → UInt64 → UInt64 → Int32 → Int32 → Int32 → UInt64 → Int32 → Int32 → Int32 → Int32 → Option (Int64 × Gs)) : Prop :=
  ∀ {p : Program} {e : Env} {s : State} {m : MethodId} {args : Array Value} {below : List Frame} {meth : Method} {c : Code} {H : Heap} {locs : List Loc} {A : Nat → Prop} {ls : Array Slot} {gT : Gs} {v3 : Int32} {v4 : Int32} {v5 : Int32} {v6 : UInt64} {v8 : UInt64} {v10 : Int32} {v11 : Int32} {v12 : Int32} {v13 : UInt64} {v15 : Int32} {v16 : Int32} {s0 : Int32} {s1 : Int32} {q : Int64 × Gs}, Cx p s m args meth c cX12_train (some .long) 21 RX12 lw_all → Hx D (tX12 yT) A s H locs (wX12 hT aT yT gT) → lv_has ls 21 [(0, .ref hT), (3, .int v3), (4, .int v4), (5, .int v5), (6, .double v6), (8, .double v8), (10, .int v10), (11, .int v11), (12, .int v12), (13, .double v13), (15, .int v15), (16, .int v16)] → fn gT v3 v4 v5 v6 v8 v10 v11 v12 v13 v15 v16 s0 s1 = some q → W p l e R_X12_train s m args below meth c H locs 0 0 (MQ below (QL D A (wX12 hT aT yT q.2) q.1) args s 0 0 A) (F0 m 259 ls [.int s0, .int s1, .ref (aT 102)])
def S_X12_train_223 (l : Launch) (D : Dx) (hT : Nat) (aT : Nat → Nat) (yT : Nat → ClassId) (fn : Gs → Int32 → Int32 → Int32 → UInt64 → Int32 → Int32 → Int32 → UInt64 → Int32 → Int32 → UInt64 → Option (Int64 × Gs)) : Prop :=
  ∀ {p : Program} {e : Env} {s : State} {m : MethodId} {args : Array Value} {below : List Frame} {meth : Method} {c : Code} {H : Heap} {locs : List Loc} {A : Nat → Prop} {ls : Array Slot} {gT : Gs} {v3 : Int32} {v4 : Int32} {v5 : Int32} {v6 : UInt64} {v10 : Int32} {v11 : Int32} {v12 : Int32} {v13 : UInt64} {v15 : Int32} {v16 : Int32} {v19 : UInt64} {q : Int64 × Gs}, Cx p s m args meth c cX12_train (some .long) 21 RX12 lw_all → Hx D (tX12 yT) A s H locs (wX12 hT aT yT gT) → lv_has ls 21 [(0, .ref hT), (3, .int v3), (4, .int v4), (5, .int v5), (6, .double v6), (10, .int v10), (11, .int v11), (12, .int v12), (13, .double v13), (15, .int v15), (16, .int v16), (19, .double v19)] → fn gT v3 v4 v5 v6 v10 v11 v12 v13 v15 v16 v19 = some q → W p l e R_X12_train s m args below meth c H locs 0 0 (MQ below (QL D A (wX12 hT aT yT q.2) q.1) args s 0 0 A) (F0 m 223 ls [])
def S_X12_train_203 (l : Launch) (D : Dx) (hT : Nat) (aT : Nat → Nat) (yT : Nat → ClassId) (fn : Gs → Int32 → Int32 → Int32 → UInt64 → UInt64 → Int32 → Int32 → Int32 → UInt64 → Int32 → Int32 → UInt64 → Option (Int64 × Gs)) : Prop :=
  ∀ {p : Program} {e : Env} {s : State} {m : MethodId} {args : Array Value} {below : List Frame} {meth : Method} {c : Code} {H : Heap} {locs : List Loc} {A : Nat → Prop} {ls : Array Slot} {gT : Gs} {v3 : Int32} {v4 : Int32} {v5 : Int32} {v6 : UInt64} {v8 : UInt64} {v10 : Int32} {v11 : Int32} {v12 : Int32} {v13 : UInt64} {v15 : Int32} {v16 : Int32} {s0 : UInt64} {q : Int64 × Gs}, Cx p s m args meth c cX12_train (some .long) 21 RX12 lw_all → Hx D (tX12 yT) A s H locs (wX12 hT aT yT gT) → lv_has ls 21 [(0, .ref hT), (3, .int v3), (4, .int v4), (5, .int v5), (6, .double v6), (8, .double v8), (10, .int v10), (11, .int v11), (12, .int v12), (13, .double v13), (15, .int v15), (16, .int v16)] → fn gT v3 v4 v5 v6 v8 v10 v11 v12 v13 v15 v16 s0 = some q → W p l e R_X12_train s m args below meth c H locs 0 0 (MQ below (QL D A (wX12 hT aT yT q.2) q.1) args s 0 0 A) (F0 m 203 ls [.double s0])
def S_X12_train_180 (l : Launch) (D : Dx) (hT : Nat) (aT : Nat → Nat) (yT : Nat → ClassId) (fn : Gs → Int32 → Int32 → Int32 → UInt64 → UInt64 → Int32 → Int32 → Int32 → UInt64 → Int32 → Int32 → UInt64 → Option (Int64 × Gs)) : Prop :=
  ∀ {p : Program} {e : Env} {s : State} {m : MethodId} {args : Array Value} {below : List Frame} {meth : Method} {c : Code} {H : Heap} {locs : List Loc} {A : Nat → Prop} {ls : Array Slot} {gT : Gs} {v3 : Int32} {v4 : Int32} {v5 : Int32} {v6 : UInt64} {v8 : UInt64} {v10 : Int32} {v11 : Int32} {v12 : Int32} {v13 : UInt64} {v15 : Int32} {v16 : Int32} {s0 : UInt64} {q : Int64 × Gs}, Cx p s m args meth c cX12_train (some .long) 21 RX12 lw_all → Hx D (tX12 yT) A s H locs (wX12 hT aT yT gT) → lv_has ls 21 [(0, .ref hT), (3, .int v3), (4, .int v4), (5, .int v5), (6, .double v6), (8, .double v8), (10, .int v10), (11, .int v11), (12, .int v12), (13, .double v13), (15, .int v15), (16, .int v16)] → fn gT v3 v4 v5 v6 v8 v10 v11 v12 v13 v15 v16 s0 = some q → W p l e R_X12_train s m args below meth c H locs 0 0 (MQ below (QL D A (wX12 hT aT yT q.2) q.1) args s 0 0 A) (F0 m 180 ls [.double s0])
def S_X12_train_153 (l : Launch) (D : Dx) (hT : Nat) (aT : Nat → Nat) (yT : Nat → ClassId) (fn : Gs → Int32 → Int32 → Int32 → UInt64 → UInt64 → Int32 → Int32 → Int32 → UInt64 → Int32 → Int32 → Option (Int64 × Gs)) : Prop :=
  ∀ {p : Program} {e : Env} {s : State} {m : MethodId} {args : Array Value} {below : List Frame} {meth : Method} {c : Code} {H : Heap} {locs : List Loc} {A : Nat → Prop} {ls : Array Slot} {gT : Gs} {v3 : Int32} {v4 : Int32} {v5 : Int32} {v6 : UInt64} {v8 : UInt64} {v10 : Int32} {v11 : Int32} {v12 : Int32} {v13 : UInt64} {v15 : Int32} {v16 : Int32} {q : Int64 × Gs}, Cx p s m args meth c cX12_train (some .long) 21 RX12 lw_all → Hx D (tX12 yT) A s H locs (wX12 hT aT yT gT) → lv_has ls 21 [(0, .ref hT), (3, .int v3), (4, .int v4), (5, .int v5), (6, .double v6), (8, .double v8), (10, .int v10), (11, .int v11), (12, .int v12), (13, .double v13), (15, .int v15), (16, .int v16)] → fn gT v3 v4 v5 v6 v8 v10 v11 v12 v13 v15 v16 = some q → W p l e R_X12_train s m args below meth c H locs 0 0 (MQ below (QL D A (wX12 hT aT yT q.2) q.1) args s 0 0 A) (F0 m 153 ls [])
def S_X12_train_142 (l : Launch) (D : Dx) (hT : Nat) (aT : Nat → Nat) (yT : Nat → ClassId) (fn : Gs → Int32 → Int32 → Int32 → UInt64 → UInt64 → Int32 → Int32 → Int32 → UInt64 → Int32 → Option (Int64 × Gs)) : Prop :=
  ∀ {p : Program} {e : Env} {s : State} {m : MethodId} {args : Array Value} {below : List Frame} {meth : Method} {c : Code} {H : Heap} {locs : List Loc} {A : Nat → Prop} {ls : Array Slot} {gT : Gs} {v3 : Int32} {v4 : Int32} {v5 : Int32} {v6 : UInt64} {v8 : UInt64} {v10 : Int32} {v11 : Int32} {v12 : Int32} {v13 : UInt64} {v15 : Int32} {q : Int64 × Gs}, Cx p s m args meth c cX12_train (some .long) 21 RX12 lw_all → Hx D (tX12 yT) A s H locs (wX12 hT aT yT gT) → lv_has ls 21 [(0, .ref hT), (3, .int v3), (4, .int v4), (5, .int v5), (6, .double v6), (8, .double v8), (10, .int v10), (11, .int v11), (12, .int v12), (13, .double v13), (15, .int v15)] → fn gT v3 v4 v5 v6 v8 v10 v11 v12 v13 v15 = some q → W p l e R_X12_train s m args below meth c H locs 0 0 (MQ below (QL D A (wX12 hT aT yT q.2) q.1) args s 0 0 A) (F0 m 142 ls [])
def S_X12_train_122 (l : Launch) (D : Dx) (hT : Nat) (aT : Nat → Nat) (yT : Nat → ClassId) (fn : Gs → Int32 → Int32 → Int32 → UInt64 → UInt64 → Int32 → Int32 → Int32 → Option (Int64 × Gs)) : Prop :=
  ∀ {p : Program} {e : Env} {s : State} {m : MethodId} {args : Array Value} {below : List Frame} {meth : Method} {c : Code} {H : Heap} {locs : List Loc} {A : Nat → Prop} {ls : Array Slot} {gT : Gs} {v3 : Int32} {v4 : Int32} {v5 : Int32} {v6 : UInt64} {v8 : UInt64} {v10 : Int32} {v11 : Int32} {v12 : Int32} {q : Int64 × Gs}, Cx p s m args meth c cX12_train (some .long) 21 RX12 lw_all → Hx D (tX12 yT) A s H locs (wX12 hT aT yT gT) → lv_has ls 21 [(0, .ref hT), (3, .int v3), (4, .int v4), (5, .int v5), (6, .double v6), (8, .double v8), (10, .int v10), (11, .int v11), (12, .int v12)] → fn gT v3 v4 v5 v6 v8 v10 v11 v12 = some q → W p l e R_X12_train s m args below meth c H locs 0 0 (MQ below (QL D A (wX12 hT aT yT q.2) q.1) args s 0 0 A) (F0 m 122 ls [])
def S_X12_train_111 (l : Launch) (D : Dx) (hT : Nat) (aT : Nat → Nat) (yT : Nat → ClassId) (fn : Gs → Int32 → Int32 → Int32 → UInt64 → UInt64 → Int32 → Int32 → Option (Int64 × Gs)) : Prop :=
  ∀ {p : Program} {e : Env} {s : State} {m : MethodId} {args : Array Value} {below : List Frame} {meth : Method} {c : Code} {H : Heap} {locs : List Loc} {A : Nat → Prop} {ls : Array Slot} {gT : Gs} {v3 : Int32} {v4 : Int32} {v5 : Int32} {v6 : UInt64} {v8 : UInt64} {v10 : Int32} {v11 : Int32} {q : Int64 × Gs}, Cx p s m args meth c cX12_train (some .long) 21 RX12 lw_all → Hx D (tX12 yT) A s H locs (wX12 hT aT yT gT) → lv_has ls 21 [(0, .ref hT), (3, .int v3), (4, .int v4), (5, .int v5), (6, .double v6), (8, .double v8), (10, .int v10), (11, .int v11)] → fn gT v3 v4 v5 v6 v8 v10 v11 = some q → W p l e R_X12_train s m args below meth c H locs 0 0 (MQ below (QL D A (wX12 hT aT yT q.2) q.1) args s 0 0 A) (F0 m 111 ls [])
def S_X12_train_87 (l : Launch) (D : Dx) (hT : Nat) (aT : Nat → Nat) (yT : Nat → ClassId) (fn : Gs → Int32 → Int32 → Int32 → UInt64 → UInt64 → Int32 → Int32 → Option (Int64 × Gs)) : Prop :=
  ∀ {p : Program} {e : Env} {s : State} {m : MethodId} {args : Array Value} {below : List Frame} {meth : Method} {c : Code} {H : Heap} {locs : List Loc} {A : Nat → Prop} {ls : Array Slot} {gT : Gs} {v3 : Int32} {v4 : Int32} {v5 : Int32} {v6 : UInt64} {v8 : UInt64} {v10 : Int32} {v11 : Int32} {q : Int64 × Gs}, Cx p s m args meth c cX12_train (some .long) 21 RX12 lw_all → Hx D (tX12 yT) A s H locs (wX12 hT aT yT gT) → lv_has ls 21 [(0, .ref hT), (3, .int v3), (4, .int v4), (5, .int v5), (6, .double v6), (8, .double v8), (10, .int v10), (11, .int v11)] → fn gT v3 v4 v5 v6 v8 v10 v11 = some q → W p l e R_X12_train s m args below meth c H locs 0 0 (MQ below (QL D A (wX12 hT aT yT q.2) q.1) args s 0 0 A) (F0 m 87 ls [])
def S_X12_train_75 (l : Launch) (D : Dx) (hT : Nat) (aT : Nat → Nat) (yT : Nat → ClassId) (fn : Gs → Int32 → Int32 → Int32 → UInt64 → UInt64 → Int32 → Option (Int64 × Gs)) : Prop :=
  ∀ {p : Program} {e : Env} {s : State} {m : MethodId} {args : Array Value} {below : List Frame} {meth : Method} {c : Code} {H : Heap} {locs : List Loc} {A : Nat → Prop} {ls : Array Slot} {gT : Gs} {v3 : Int32} {v4 : Int32} {v5 : Int32} {v6 : UInt64} {v8 : UInt64} {s0 : Int32} {q : Int64 × Gs}, Cx p s m args meth c cX12_train (some .long) 21 RX12 lw_all → Hx D (tX12 yT) A s H locs (wX12 hT aT yT gT) → lv_has ls 21 [(0, .ref hT), (3, .int v3), (4, .int v4), (5, .int v5), (6, .double v6), (8, .double v8)] → fn gT v3 v4 v5 v6 v8 s0 = some q → W p l e R_X12_train s m args below meth c H locs 0 0 (MQ below (QL D A (wX12 hT aT yT q.2) q.1) args s 0 0 A) (F0 m 75 ls [.int s0])
def SH_X12_train (l : Launch) (D : Dx) (hT : Nat) (aT : Nat → Nat) (yT : Nat → ClassId) (rec : (Gs → Int32 → Int32 → Int32 → UInt64 → UInt64 → Int32 → Int32 → Option (Int64 × Gs)) × (Gs → Int32 → Int32 → Int32 → UInt64 → UInt64 → Int32 → Int32 → Option (Int64 × Gs)) × (Gs → Int32 → Int32 → Int32 → UInt64 → UInt64 → Int32 → Int32 → Int32 → Option (Int64 × Gs)) × (Gs → Int32 → Int32 → Int32 → UInt64 → UInt64 → Int32 → Int32 → Int32 → UInt64 → Int32 → Option (Int64 × Gs)) × (Gs → Int32 → Int32 → Int32 → UInt64 → UInt64 → Int32 → Int32 → Int32 → UInt64 → Int32 → Int32 → Option (Int64 × Gs))) : Prop := S_X12_train_87 l D hT aT yT rec.1 ∧ S_X12_train_111 l D hT aT yT rec.2.1 ∧ S_X12_train_122 l D hT aT yT rec.2.2.1 ∧ S_X12_train_142 l D hT aT yT rec.2.2.2.1 ∧ S_X12_train_153 l D hT aT yT rec.2.2.2.2
set_option maxHeartbeats 4000000 in
set_option maxRecDepth 100000 in
theorem k_X12_train_277 (l : Launch) (D : Dx) (hT : Nat) (aT : Nat → Nat) (yT : Nat → ClassId) (n : Nat) (rec : (Gs → Int32 → Int32 → Int32 → UInt64 → UInt64 → Int32 → Int32 → Option (Int64 × Gs)) × (Gs → Int32 → Int32 → Int32 → UInt64 → UInt64 → Int32 → Int32 → Option (Int64 × Gs)) × (Gs → Int32 → Int32 → Int32 → UInt64 → UInt64 → Int32 → Int32 → Int32 → Option (Int64 × Gs)) × (Gs → Int32 → Int32 → Int32 → UInt64 → UInt64 → Int32 → Int32 → Int32 → UInt64 → Int32 → Option (Int64 × Gs)) × (Gs → Int32 → Int32 → Int32 → UInt64 → UInt64 → Int32 → Int32 → Int32 → UInt64 → Int32 → Int32 → Option (Int64 × Gs))) (IH : SH_X12_train l D hT aT yT rec) : S_X12_train_277 l D hT aT yT (b_X12_train_277 n rec) := by
  intro p e s m args below meth c H locs A ls gT v3 v4 v5 v6 v8 v10 v11 v12 v13 v15 v16 q C X hl hF
  obtain ⟨hx, hb, hr, hml, hown, hts, hlk⟩ := id C
  unfold b_X12_train_277 at hF
  refine lv_iinc (v := v16 + (1 : Int32)) (lv' := [(16, .int (v16 + (1 : Int32))), (0, .ref hT), (3, .int v3), (4, .int v4), (5, .int v5), (6, .double v6), (8, .double v8), (10, .int v10), (11, .int v11), (12, .int v12), (13, .double v13), (15, .int v15)]) hx hb dX12_train_277 hl (k := 11) rfl rfl (by decide) rfl (fun ls hl => ?_)
  refine lv_goto (tgt := 153) hx hb dX12_train_280 (by decide) ?_
  exact IH.2.2.2.2 C X (lv_sub hl [1, 2, 3, 4, 5, 6, 7, 8, 9, 10, 11, 0] rfl) hF
set_option maxHeartbeats 4000000 in
set_option maxRecDepth 100000 in
theorem k_X12_train_276 (l : Launch) (D : Dx) (hT : Nat) (aT : Nat → Nat) (yT : Nat → ClassId) (n : Nat) (rec : (Gs → Int32 → Int32 → Int32 → UInt64 → UInt64 → Int32 → Int32 → Option (Int64 × Gs)) × (Gs → Int32 → Int32 → Int32 → UInt64 → UInt64 → Int32 → Int32 → Option (Int64 × Gs)) × (Gs → Int32 → Int32 → Int32 → UInt64 → UInt64 → Int32 → Int32 → Int32 → Option (Int64 × Gs)) × (Gs → Int32 → Int32 → Int32 → UInt64 → UInt64 → Int32 → Int32 → Int32 → UInt64 → Int32 → Option (Int64 × Gs)) × (Gs → Int32 → Int32 → Int32 → UInt64 → UInt64 → Int32 → Int32 → Int32 → UInt64 → Int32 → Int32 → Option (Int64 × Gs))) (IH : SH_X12_train l D hT aT yT rec) : S_X12_train_276 l D hT aT yT (b_X12_train_276 n rec) := by
  intro p e s m args below meth c H locs A ls gT v3 v4 v5 v6 v8 v10 v11 v12 v13 v15 v16 s0 s1 q C X hl hF
  obtain ⟨hx, hb, hr, hml, hown, hts, hlk⟩ := id C
  unfold b_X12_train_276 at hF
  obtain ⟨h_11, hF⟩ := grd_some hF
  refine va_iast (D := D.1) (f := gIA gT 102) hx hb X.1 X.2.1 X.2.2.1 X.2.2.2.1 66 65 rfl rfl (inB_ok h_11) dX12_train_276 (fun H locs hP hD hS => ?_)
  have X : Hx D (tX12 yT) A s H locs (wX12 hT aT yT (sIA gT 102 (upd (gIA gT 102) s1.toNatClampNeg s0))) := Hx_set X (wG_sIA (i := 65) (k := 102) ndX12 rfl rfl) hP hD hS
  exact (k_X12_train_277 l D hT aT yT n rec IH) C X (lv_sub hl [0, 1, 2, 3, 4, 5, 6, 7, 8, 9, 10, 11] rfl) hF
set_option maxHeartbeats 4000000 in
set_option maxRecDepth 100000 in
theorem k_X12_train_259 (l : Launch) (D : Dx) (hT : Nat) (aT : Nat → Nat) (yT : Nat → ClassId) (n : Nat) (rec : (Gs → Int32 → Int32 → Int32 → UInt64 → UInt64 → Int32 → Int32 → Option (Int64 × Gs)) × (Gs → Int32 → Int32 → Int32 → UInt64 → UInt64 → Int32 → Int32 → Option (Int64 × Gs)) × (Gs → Int32 → Int32 → Int32 → UInt64 → UInt64 → Int32 → Int32 → Int32 → Option (Int64 × Gs)) × (Gs → Int32 → Int32 → Int32 → UInt64 → UInt64 → Int32 → Int32 → Int32 → UInt64 → Int32 → Option (Int64 × Gs)) × (Gs → Int32 → Int32 → Int32 → UInt64 → UInt64 → Int32 → Int32 → Int32 → UInt64 → Int32 → Int32 → Option (Int64 × Gs))) (IH : SH_X12_train l D hT aT yT rec) : S_X12_train_259 l D hT aT yT (b_X12_train_259 n rec) := by
  intro p e s m args below meth c H locs A ls gT v3 v4 v5 v6 v8 v10 v11 v12 v13 v15 v16 s0 s1 q C X hl hF
  obtain ⟨hx, hb, hr, hml, hown, hts, hlk⟩ := id C
  unfold b_X12_train_259 at hF
  obtain ⟨h_10, hF⟩ := grd_some hF
  refine va_iast (D := D.1) (f := gIA gT 102) hx hb X.1 X.2.1 X.2.2.1 X.2.2.2.1 66 65 rfl rfl (inB_ok h_10) dX12_train_259 (fun H locs hP hD hS => ?_)
  have X : Hx D (tX12 yT) A s H locs (wX12 hT aT yT (sIA gT 102 (upd (gIA gT 102) s1.toNatClampNeg s0))) := Hx_set X (wG_sIA (i := 65) (k := 102) ndX12 rfl rfl) hP hD hS
  refine lv_aload_n hx hb dX12_train_260 rfl (lv_at hl 0 rfl) ?_
  refine va_get (D := D.1) (ci := 12) (v := .ref (aT 102)) (C := RX12) (T := TX12) (N := 114) hx hb hts wi_X12 hown X.1 X.2.1 0 rfl rfl 102 (by decide) (hts _ q7_56) (fun _ h9 => h9) (fl_get (by decide)) dX12_train_261 ?_
  refine lv_iconst (v := (3 : Int32)) hx hb dX12_train_264 (by decide) ?_
  refine lv_iload_n hx hb dX12_train_265 rfl (lv_at hl 1 rfl) ?_
  refine lv_iconst (v := (2 : Int32)) hx hb dX12_train_266 (by decide) ?_
  refine lv_icmp_ne (tgt := 275) hx hb dX12_train_267 (by decide) (fun c => ?_) (fun c => ?_)
  · replace hF := iF c hF
    refine lv_iconst (v := (0 : Int32)) hx hb dX12_train_275 (by decide) ?_
    exact (k_X12_train_276 l D hT aT yT n rec IH) C X (lv_sub hl [0, 1, 2, 3, 4, 5, 6, 7, 8, 9, 10, 11] rfl) hF
  · replace hF := iT c hF
    refine lv_iload hx hb dX12_train_270 (lv_at hl 11 rfl) ?_
    refine lv_goto (tgt := 276) hx hb dX12_train_272 (by decide) ?_
    exact (k_X12_train_276 l D hT aT yT n rec IH) C X (lv_sub hl [0, 1, 2, 3, 4, 5, 6, 7, 8, 9, 10, 11] rfl) hF
set_option maxHeartbeats 4000000 in
set_option maxRecDepth 100000 in
theorem k_X12_train_223 (l : Launch) (D : Dx) (hT : Nat) (aT : Nat → Nat) (yT : Nat → ClassId) (n : Nat) (rec : (Gs → Int32 → Int32 → Int32 → UInt64 → UInt64 → Int32 → Int32 → Option (Int64 × Gs)) × (Gs → Int32 → Int32 → Int32 → UInt64 → UInt64 → Int32 → Int32 → Option (Int64 × Gs)) × (Gs → Int32 → Int32 → Int32 → UInt64 → UInt64 → Int32 → Int32 → Int32 → Option (Int64 × Gs)) × (Gs → Int32 → Int32 → Int32 → UInt64 → UInt64 → Int32 → Int32 → Int32 → UInt64 → Int32 → Option (Int64 × Gs)) × (Gs → Int32 → Int32 → Int32 → UInt64 → UInt64 → Int32 → Int32 → Int32 → UInt64 → Int32 → Int32 → Option (Int64 × Gs))) (IH : SH_X12_train l D hT aT yT rec) : S_X12_train_223 l D hT aT yT (b_X12_train_223 n rec) := by
  intro p e s m args below meth c H locs A ls gT v3 v4 v5 v6 v10 v11 v12 v13 v15 v16 v19 q C X hl hF
  obtain ⟨hx, hb, hr, hml, hown, hts, hlk⟩ := id C
  unfold b_X12_train_223 at hF
  refine lv_dload hx hb dX12_train_223 (lv_at hl 11 rfl) ?_
  refine lv_dstore (lv' := [(8, .double v19), (0, .ref hT), (3, .int v3), (4, .int v4), (5, .int v5), (6, .double v6), (10, .int v10), (11, .int v11), (12, .int v12), (13, .double v13), (15, .int v15), (16, .int v16), (19, .double v19)]) hx hb dX12_train_225 hl (by decide) rfl (fun ls hl => ?_)
  refine lv_aload_n hx hb dX12_train_227 rfl (lv_at hl 1 rfl) ?_
  refine va_get (D := D.1) (ci := 12) (v := .ref (aT 102)) (C := RX12) (T := TX12) (N := 114) hx hb hts wi_X12 hown X.1 X.2.1 0 rfl rfl 102 (by decide) (hts _ q7_56) (fun _ h9 => h9) (fl_get (by decide)) dX12_train_228 ?_
  refine lv_iconst (v := (0 : Int32)) hx hb dX12_train_231 (by decide) ?_
  refine lv_iload hx hb dX12_train_232 (lv_at hl 7 rfl) ?_
  obtain ⟨h_8, hF⟩ := grd_some hF
  refine va_iast (D := D.1) (f := gIA gT 102) hx hb X.1 X.2.1 X.2.2.1 X.2.2.2.1 66 65 rfl rfl (inB_ok h_8) dX12_train_234 (fun H locs hP hD hS => ?_)
  have X : Hx D (tX12 yT) A s H locs (wX12 hT aT yT (sIA gT 102 (upd (gIA gT 102) (0 : Int32).toNatClampNeg v11))) := Hx_set X (wG_sIA (i := 65) (k := 102) ndX12 rfl rfl) hP hD hS
  refine lv_aload_n hx hb dX12_train_235 rfl (lv_at hl 1 rfl) ?_
  refine va_get (D := D.1) (ci := 12) (v := .ref (aT 102)) (C := RX12) (T := TX12) (N := 114) hx hb hts wi_X12 hown X.1 X.2.1 0 rfl rfl 102 (by decide) (hts _ q7_56) (fun _ h9 => h9) (fl_get (by decide)) dX12_train_236 ?_
  refine lv_iconst (v := (1 : Int32)) hx hb dX12_train_239 (by decide) ?_
  refine lv_iload hx hb dX12_train_240 (lv_at hl 8 rfl) ?_
  obtain ⟨h_9, hF⟩ := grd_some hF
  refine va_iast (D := D.1) (f := upd (gIA gT 102) (0 : Int32).toNatClampNeg v11) hx hb X.1 X.2.1 X.2.2.1 X.2.2.2.1 66 65 rfl rfl (inB_ok h_9) dX12_train_242 (fun H locs hP hD hS => ?_)
  have X : Hx D (tX12 yT) A s H locs (wX12 hT aT yT (sIA (sIA gT 102 (upd (gIA gT 102) (0 : Int32).toNatClampNeg v11)) 102 (upd (upd (gIA gT 102) (0 : Int32).toNatClampNeg v11) (1 : Int32).toNatClampNeg v12))) := Hx_set X (wG_sIA (i := 65) (k := 102) ndX12 rfl rfl) hP hD hS
  refine lv_aload_n hx hb dX12_train_243 rfl (lv_at hl 1 rfl) ?_
  refine va_get (D := D.1) (ci := 12) (v := .ref (aT 102)) (C := RX12) (T := TX12) (N := 114) hx hb hts wi_X12 hown X.1 X.2.1 0 rfl rfl 102 (by decide) (hts _ q7_56) (fun _ h9 => h9) (fl_get (by decide)) dX12_train_244 ?_
  refine lv_iconst (v := (2 : Int32)) hx hb dX12_train_247 (by decide) ?_
  refine lv_iload_n hx hb dX12_train_248 rfl (lv_at hl 2 rfl) ?_
  refine lv_iconst (v := (2 : Int32)) hx hb dX12_train_249 (by decide) ?_
  refine lv_icmp_ne (tgt := 258) hx hb dX12_train_250 (by decide) (fun c => ?_) (fun c => ?_)
  · replace hF := iF c hF
    refine lv_iconst (v := (0 : Int32)) hx hb dX12_train_258 (by decide) ?_
    exact (k_X12_train_259 l D hT aT yT n rec IH) C X (lv_sub hl [1, 2, 3, 4, 5, 0, 6, 7, 8, 9, 10, 11] rfl) hF
  · replace hF := iT c hF
    refine lv_iload hx hb dX12_train_253 (lv_at hl 10 rfl) ?_
    refine lv_goto (tgt := 259) hx hb dX12_train_255 (by decide) ?_
    exact (k_X12_train_259 l D hT aT yT n rec IH) C X (lv_sub hl [1, 2, 3, 4, 5, 0, 6, 7, 8, 9, 10, 11] rfl) hF
set_option maxHeartbeats 4000000 in
set_option maxRecDepth 100000 in
theorem k_X12_train_203 (l : Launch) (D : Dx) (hT : Nat) (aT : Nat → Nat) (yT : Nat → ClassId) (n : Nat) (rec : (Gs → Int32 → Int32 → Int32 → UInt64 → UInt64 → Int32 → Int32 → Option (Int64 × Gs)) × (Gs → Int32 → Int32 → Int32 → UInt64 → UInt64 → Int32 → Int32 → Option (Int64 × Gs)) × (Gs → Int32 → Int32 → Int32 → UInt64 → UInt64 → Int32 → Int32 → Int32 → Option (Int64 × Gs)) × (Gs → Int32 → Int32 → Int32 → UInt64 → UInt64 → Int32 → Int32 → Int32 → UInt64 → Int32 → Option (Int64 × Gs)) × (Gs → Int32 → Int32 → Int32 → UInt64 → UInt64 → Int32 → Int32 → Int32 → UInt64 → Int32 → Int32 → Option (Int64 × Gs))) (IH : SH_X12_train l D hT aT yT rec) : S_X12_train_203 l D hT aT yT (b_X12_train_203 n rec) := by
  intro p e s m args below meth c H locs A ls gT v3 v4 v5 v6 v8 v10 v11 v12 v13 v15 v16 s0 q C X hl hF
  obtain ⟨hx, hb, hr, hml, hown, hts, hlk⟩ := id C
  unfold b_X12_train_203 at hF
  refine lv_dstore (lv' := [(19, .double s0), (0, .ref hT), (3, .int v3), (4, .int v4), (5, .int v5), (6, .double v6), (8, .double v8), (10, .int v10), (11, .int v11), (12, .int v12), (13, .double v13), (15, .int v15), (16, .int v16)]) hx hb dX12_train_203 hl (by decide) rfl (fun ls hl => ?_)
  refine lv_dload hx hb dX12_train_205 (lv_at hl 6 rfl) ?_
  refine lv_dconst0 hx hb dX12_train_207 ?_
  refine lv_dcmp hx hb dX12_train_208 ?_
  refine lv_if_lt (tgt := 223) hx hb dX12_train_209 (by decide) (fun c => ?_) (fun c => ?_)
  · replace hF := iT c hF
    exact (k_X12_train_223 l D hT aT yT n rec IH) C X (lv_sub hl [1, 2, 3, 4, 5, 7, 8, 9, 10, 11, 12, 0] rfl) hF
  · replace hF := iF c hF
    refine lv_dload hx hb dX12_train_212 (lv_at hl 0 rfl) ?_
    refine lv_dload hx hb dX12_train_214 (lv_at hl 6 rfl) ?_
    refine lv_dcmp hx hb dX12_train_216 ?_
    refine lv_if_lt (tgt := 223) hx hb dX12_train_217 (by decide) (fun c => ?_) (fun c => ?_)
    · replace hF := iT c hF
      exact (k_X12_train_223 l D hT aT yT n rec IH) C X (lv_sub hl [1, 2, 3, 4, 5, 7, 8, 9, 10, 11, 12, 0] rfl) hF
    · replace hF := iF c hF
      refine lv_goto (tgt := 277) hx hb dX12_train_220 (by decide) ?_
      exact (k_X12_train_277 l D hT aT yT n rec IH) C X (lv_sub hl [1, 2, 3, 4, 5, 6, 7, 8, 9, 10, 11, 12] rfl) hF
set_option maxHeartbeats 4000000 in
set_option maxRecDepth 100000 in
theorem k_X12_train_180 (l : Launch) (D : Dx) (hT : Nat) (aT : Nat → Nat) (yT : Nat → ClassId) (n : Nat) (rec : (Gs → Int32 → Int32 → Int32 → UInt64 → UInt64 → Int32 → Int32 → Option (Int64 × Gs)) × (Gs → Int32 → Int32 → Int32 → UInt64 → UInt64 → Int32 → Int32 → Option (Int64 × Gs)) × (Gs → Int32 → Int32 → Int32 → UInt64 → UInt64 → Int32 → Int32 → Int32 → Option (Int64 × Gs)) × (Gs → Int32 → Int32 → Int32 → UInt64 → UInt64 → Int32 → Int32 → Int32 → UInt64 → Int32 → Option (Int64 × Gs)) × (Gs → Int32 → Int32 → Int32 → UInt64 → UInt64 → Int32 → Int32 → Int32 → UInt64 → Int32 → Int32 → Option (Int64 × Gs))) (IH : SH_X12_train l D hT aT yT rec) : S_X12_train_180 l D hT aT yT (b_X12_train_180 n rec) := by
  intro p e s m args below meth c H locs A ls gT v3 v4 v5 v6 v8 v10 v11 v12 v13 v15 v16 s0 q C X hl hF
  obtain ⟨hx, hb, hr, hml, hown, hts, hlk⟩ := id C
  unfold b_X12_train_180 at hF
  refine lv_dstore (lv' := [(17, .double s0), (0, .ref hT), (3, .int v3), (4, .int v4), (5, .int v5), (6, .double v6), (8, .double v8), (10, .int v10), (11, .int v11), (12, .int v12), (13, .double v13), (15, .int v15), (16, .int v16)]) hx hb dX12_train_180 hl (by decide) rfl (fun ls hl => ?_)
  refine lv_dload hx hb dX12_train_182 (lv_at hl 0 rfl) ?_
  refine lv_dload hx hb dX12_train_184 (lv_at hl 5 rfl) ?_
  refine lv_dcmp hx hb dX12_train_186 ?_
  refine lv_if_ge (tgt := 198) hx hb dX12_train_187 (by decide) (fun c => ?_) (fun c => ?_)
  · replace hF := iT c hF
    refine lv_dload hx hb dX12_train_198 (lv_at hl 0 rfl) ?_
    refine lv_dload hx hb dX12_train_200 (lv_at hl 5 rfl) ?_
    obtain ⟨h_7, hF⟩ := grd_some hF
    refine lv_dsub hx hb dX12_train_202 (n64_ok h_7) ?_
    exact (k_X12_train_203 l D hT aT yT n rec IH) C X (lv_sub hl [1, 2, 3, 4, 5, 6, 7, 8, 9, 10, 11, 12] rfl) hF
  · replace hF := iF c hF
    refine lv_dload hx hb dX12_train_190 (lv_at hl 5 rfl) ?_
    refine lv_dload hx hb dX12_train_192 (lv_at hl 0 rfl) ?_
    obtain ⟨h_12, hF⟩ := grd_some hF
    refine lv_dsub hx hb dX12_train_194 (n64_ok h_12) ?_
    refine lv_goto (tgt := 203) hx hb dX12_train_195 (by decide) ?_
    exact (k_X12_train_203 l D hT aT yT n rec IH) C X (lv_sub hl [1, 2, 3, 4, 5, 6, 7, 8, 9, 10, 11, 12] rfl) hF
set_option maxHeartbeats 4000000 in
set_option maxRecDepth 100000 in
theorem k_X12_train_153 (l : Launch) (D : Dx) (hT : Nat) (aT : Nat → Nat) (yT : Nat → ClassId) (n : Nat) (rec : (Gs → Int32 → Int32 → Int32 → UInt64 → UInt64 → Int32 → Int32 → Option (Int64 × Gs)) × (Gs → Int32 → Int32 → Int32 → UInt64 → UInt64 → Int32 → Int32 → Option (Int64 × Gs)) × (Gs → Int32 → Int32 → Int32 → UInt64 → UInt64 → Int32 → Int32 → Int32 → Option (Int64 × Gs)) × (Gs → Int32 → Int32 → Int32 → UInt64 → UInt64 → Int32 → Int32 → Int32 → UInt64 → Int32 → Option (Int64 × Gs)) × (Gs → Int32 → Int32 → Int32 → UInt64 → UInt64 → Int32 → Int32 → Int32 → UInt64 → Int32 → Int32 → Option (Int64 × Gs))) (IH : SH_X12_train l D hT aT yT rec) : S_X12_train_153 l D hT aT yT (h_X12_train_153 n rec) := by
  intro p e s m args below meth c H locs A ls gT v3 v4 v5 v6 v8 v10 v11 v12 v13 v15 v16 q C X hl hF
  obtain ⟨hx, hb, hr, hml, hown, hts, hlk⟩ := id C
  unfold h_X12_train_153 at hF
  refine lv_iload hx hb dX12_train_153 (lv_at hl 11 rfl) ?_
  refine lv_iload hx hb dX12_train_155 (lv_at hl 6 rfl) ?_
  refine lv_icmp_gt (tgt := 283) hx hb dX12_train_157 (by decide) (fun c => ?_) (fun c => ?_)
  · replace hF := iT c hF
    refine lv_iinc (v := v15 + (1 : Int32)) (lv' := [(15, .int (v15 + (1 : Int32))), (0, .ref hT), (3, .int v3), (4, .int v4), (5, .int v5), (6, .double v6), (8, .double v8), (10, .int v10), (11, .int v11), (12, .int v12), (13, .double v13), (16, .int v16)]) hx hb dX12_train_283 hl (k := 10) rfl rfl (by decide) rfl (fun ls hl => ?_)
    refine lv_goto (tgt := 142) hx hb dX12_train_286 (by decide) ?_
    exact IH.2.2.2.1 C X (lv_sub hl [1, 2, 3, 4, 5, 6, 7, 8, 9, 10, 0] rfl) hF
  · replace hF := iF c hF
    refine lv_iload_n hx hb dX12_train_160 rfl (lv_at hl 1 rfl) ?_
    refine lv_iconst (v := (2 : Int32)) hx hb dX12_train_161 (by decide) ?_
    refine lv_icmp_ne (tgt := 178) hx hb dX12_train_162 (by decide) (fun c => ?_) (fun c => ?_)
    · replace hF := iF c hF
      refine lv_dload hx hb dX12_train_178 (lv_at hl 9 rfl) ?_
      exact (k_X12_train_180 l D hT aT yT n rec IH) C X (lv_sub hl [0, 1, 2, 3, 4, 5, 6, 7, 8, 9, 10, 11] rfl) hF
    · replace hF := iT c hF
      refine lv_dload hx hb dX12_train_165 (lv_at hl 9 rfl) ?_
      refine lv_iload hx hb dX12_train_167 (lv_at hl 10 rfl) ?_
      refine lv_i2d hx hb dX12_train_169 ?_
      refine lv_iload hx hb dX12_train_170 (lv_at hl 11 rfl) ?_
      refine lv_i2d hx hb dX12_train_172 ?_
      obtain ⟨h_13, hF⟩ := grd_some hF
      refine lv_ddiv hx hb dX12_train_173 (n64_ok h_13) ?_
      obtain ⟨h_14, hF⟩ := grd_some hF
      refine lv_dmul hx hb dX12_train_174 (n64_ok h_14) ?_
      refine lv_goto (tgt := 180) hx hb dX12_train_175 (by decide) ?_
      exact (k_X12_train_180 l D hT aT yT n rec IH) C X (lv_sub hl [0, 1, 2, 3, 4, 5, 6, 7, 8, 9, 10, 11] rfl) hF
set_option maxHeartbeats 4000000 in
set_option maxRecDepth 100000 in
theorem k_X12_train_142 (l : Launch) (D : Dx) (hT : Nat) (aT : Nat → Nat) (yT : Nat → ClassId) (n : Nat) (rec : (Gs → Int32 → Int32 → Int32 → UInt64 → UInt64 → Int32 → Int32 → Option (Int64 × Gs)) × (Gs → Int32 → Int32 → Int32 → UInt64 → UInt64 → Int32 → Int32 → Option (Int64 × Gs)) × (Gs → Int32 → Int32 → Int32 → UInt64 → UInt64 → Int32 → Int32 → Int32 → Option (Int64 × Gs)) × (Gs → Int32 → Int32 → Int32 → UInt64 → UInt64 → Int32 → Int32 → Int32 → UInt64 → Int32 → Option (Int64 × Gs)) × (Gs → Int32 → Int32 → Int32 → UInt64 → UInt64 → Int32 → Int32 → Int32 → UInt64 → Int32 → Int32 → Option (Int64 × Gs))) (IH : SH_X12_train l D hT aT yT rec) : S_X12_train_142 l D hT aT yT (h_X12_train_142 n rec) := by
  intro p e s m args below meth c H locs A ls gT v3 v4 v5 v6 v8 v10 v11 v12 v13 v15 q C X hl hF
  obtain ⟨hx, hb, hr, hml, hown, hts, hlk⟩ := id C
  unfold h_X12_train_142 at hF
  refine lv_iload hx hb dX12_train_142 (lv_at hl 10 rfl) ?_
  refine lv_iload hx hb dX12_train_144 (lv_at hl 6 rfl) ?_
  refine lv_icmp_gt (tgt := 289) hx hb dX12_train_146 (by decide) (fun c => ?_) (fun c => ?_)
  · replace hF := iT c hF
    refine lv_iinc (v := v12 + (1 : Int32)) (lv' := [(12, .int (v12 + (1 : Int32))), (0, .ref hT), (3, .int v3), (4, .int v4), (5, .int v5), (6, .double v6), (8, .double v8), (10, .int v10), (11, .int v11), (13, .double v13), (15, .int v15)]) hx hb dX12_train_289 hl (k := 8) rfl rfl (by decide) rfl (fun ls hl => ?_)
    refine lv_goto (tgt := 122) hx hb dX12_train_292 (by decide) ?_
    exact IH.2.2.1 C X (lv_sub hl [1, 2, 3, 4, 5, 6, 7, 8, 0] rfl) hF
  · replace hF := iF c hF
    refine lv_iload hx hb dX12_train_149 (lv_at hl 2 rfl) ?_
    refine lv_istore (lv' := [(16, .int v4), (0, .ref hT), (3, .int v3), (4, .int v4), (5, .int v5), (6, .double v6), (8, .double v8), (10, .int v10), (11, .int v11), (12, .int v12), (13, .double v13), (15, .int v15)]) hx hb dX12_train_151 hl (by decide) rfl (fun ls hl => ?_)
    exact IH.2.2.2.2 C X (lv_sub hl [1, 2, 3, 4, 5, 6, 7, 8, 9, 10, 11, 0] rfl) hF
set_option maxHeartbeats 4000000 in
set_option maxRecDepth 100000 in
theorem k_X12_train_122 (l : Launch) (D : Dx) (hT : Nat) (aT : Nat → Nat) (yT : Nat → ClassId) (n : Nat) (rec : (Gs → Int32 → Int32 → Int32 → UInt64 → UInt64 → Int32 → Int32 → Option (Int64 × Gs)) × (Gs → Int32 → Int32 → Int32 → UInt64 → UInt64 → Int32 → Int32 → Option (Int64 × Gs)) × (Gs → Int32 → Int32 → Int32 → UInt64 → UInt64 → Int32 → Int32 → Int32 → Option (Int64 × Gs)) × (Gs → Int32 → Int32 → Int32 → UInt64 → UInt64 → Int32 → Int32 → Int32 → UInt64 → Int32 → Option (Int64 × Gs)) × (Gs → Int32 → Int32 → Int32 → UInt64 → UInt64 → Int32 → Int32 → Int32 → UInt64 → Int32 → Int32 → Option (Int64 × Gs))) (IH : SH_X12_train l D hT aT yT rec) : S_X12_train_122 l D hT aT yT (h_X12_train_122 n rec) := by
  intro p e s m args below meth c H locs A ls gT v3 v4 v5 v6 v8 v10 v11 v12 q C X hl hF
  obtain ⟨hx, hb, hr, hml, hown, hts, hlk⟩ := id C
  unfold h_X12_train_122 at hF
  refine lv_iload hx hb dX12_train_122 (lv_at hl 8 rfl) ?_
  refine lv_iload hx hb dX12_train_124 (lv_at hl 3 rfl) ?_
  refine lv_icmp_gt (tgt := 295) hx hb dX12_train_126 (by decide) (fun c => ?_) (fun c => ?_)
  · replace hF := iT c hF
    refine lv_iinc (v := v11 + (1 : Int32)) (lv' := [(11, .int (v11 + (1 : Int32))), (0, .ref hT), (3, .int v3), (4, .int v4), (5, .int v5), (6, .double v6), (8, .double v8), (10, .int v10), (12, .int v12)]) hx hb dX12_train_295 hl (k := 7) rfl rfl (by decide) rfl (fun ls hl => ?_)
    refine lv_goto (tgt := 111) hx hb dX12_train_298 (by decide) ?_
    exact IH.2.1 C X (lv_sub hl [1, 2, 3, 4, 5, 6, 7, 0] rfl) hF
  · replace hF := iF c hF
    refine lv_iload hx hb dX12_train_129 (lv_at hl 7 rfl) ?_
    refine lv_i2d hx hb dX12_train_131 ?_
    refine lv_iload hx hb dX12_train_132 (lv_at hl 8 rfl) ?_
    refine lv_i2d hx hb dX12_train_134 ?_
    obtain ⟨h_6, hF⟩ := grd_some hF
    refine lv_ddiv hx hb dX12_train_135 (n64_ok h_6) ?_
    refine lv_dstore (lv' := [(13, .double (FP.ddiv (FP.i2d v11) (FP.i2d v12))), (0, .ref hT), (3, .int v3), (4, .int v4), (5, .int v5), (6, .double v6), (8, .double v8), (10, .int v10), (11, .int v11), (12, .int v12)]) hx hb dX12_train_136 hl (by decide) rfl (fun ls hl => ?_)
    refine lv_iload hx hb dX12_train_138 (lv_at hl 3 rfl) ?_
    refine lv_istore (lv' := [(15, .int v4), (13, .double (FP.ddiv (FP.i2d v11) (FP.i2d v12))), (0, .ref hT), (3, .int v3), (4, .int v4), (5, .int v5), (6, .double v6), (8, .double v8), (10, .int v10), (11, .int v11), (12, .int v12)]) hx hb dX12_train_140 hl (by decide) rfl (fun ls hl => ?_)
    exact IH.2.2.2.1 C X (lv_sub hl [2, 3, 4, 5, 6, 7, 8, 9, 10, 1, 0] rfl) hF
set_option maxHeartbeats 4000000 in
set_option maxRecDepth 100000 in
theorem k_X12_train_111 (l : Launch) (D : Dx) (hT : Nat) (aT : Nat → Nat) (yT : Nat → ClassId) (n : Nat) (rec : (Gs → Int32 → Int32 → Int32 → UInt64 → UInt64 → Int32 → Int32 → Option (Int64 × Gs)) × (Gs → Int32 → Int32 → Int32 → UInt64 → UInt64 → Int32 → Int32 → Option (Int64 × Gs)) × (Gs → Int32 → Int32 → Int32 → UInt64 → UInt64 → Int32 → Int32 → Int32 → Option (Int64 × Gs)) × (Gs → Int32 → Int32 → Int32 → UInt64 → UInt64 → Int32 → Int32 → Int32 → UInt64 → Int32 → Option (Int64 × Gs)) × (Gs → Int32 → Int32 → Int32 → UInt64 → UInt64 → Int32 → Int32 → Int32 → UInt64 → Int32 → Int32 → Option (Int64 × Gs))) (IH : SH_X12_train l D hT aT yT rec) : S_X12_train_111 l D hT aT yT (h_X12_train_111 n rec) := by
  intro p e s m args below meth c H locs A ls gT v3 v4 v5 v6 v8 v10 v11 q C X hl hF
  obtain ⟨hx, hb, hr, hml, hown, hts, hlk⟩ := id C
  unfold h_X12_train_111 at hF
  refine lv_iload hx hb dX12_train_111 (lv_at hl 7 rfl) ?_
  refine lv_iload hx hb dX12_train_113 (lv_at hl 3 rfl) ?_
  refine lv_icmp_gt (tgt := 301) hx hb dX12_train_115 (by decide) (fun c => ?_) (fun c => ?_)
  · replace hF := iT c hF
    refine lv_dload hx hb dX12_train_301 (lv_at hl 5 rfl) ?_
    obtain ⟨q_4, hc_5, hF⟩ := bnd_some hF
    refine cS_l (As := [.double v8]) (rest := []) C X (c_Jxe99ae_doubleToLongBits_ccdee l D  v8 q_4 hc_5 _) (va_cwS 1 hts (good_S q8_110 q8_111 q1_24 q8_112) rfl rfl rfl (by decide +kernel) ⟨Nat.le_of_ble_eq_true rfl, Nat.le_of_ble_eq_true rfl⟩) (eK X) eP (eD (A := A)) (eF X) hl.1 rfl rfl (Nat.le_of_ble_eq_true rfl) dX12_train_303 ⟨Nat.le_of_ble_eq_true rfl, Nat.le_of_ble_eq_true rfl⟩ (fun t H1 locs1 ht hB hk hS => ?_)
    have X := Hx_after_none X hk hS
    clear hk hS ht hB
    generalize H1 = H at X ⊢
    generalize locs1 = locs at X ⊢
    have hq := Option.some.inj hF
    subst hq
    exact rt_l C X dX12_train_306
  · replace hF := iF c hF
    refine lv_iload hx hb dX12_train_118 (lv_at hl 2 rfl) ?_
    refine lv_istore (lv' := [(12, .int v4), (0, .ref hT), (3, .int v3), (4, .int v4), (5, .int v5), (6, .double v6), (8, .double v8), (10, .int v10), (11, .int v11)]) hx hb dX12_train_120 hl (by decide) rfl (fun ls hl => ?_)
    exact IH.2.2.1 C X (lv_sub hl [1, 2, 3, 4, 5, 6, 7, 8, 0] rfl) hF
set_option maxHeartbeats 4000000 in
set_option maxRecDepth 100000 in
theorem k_X12_train_87 (l : Launch) (D : Dx) (hT : Nat) (aT : Nat → Nat) (yT : Nat → ClassId) (n : Nat) (rec : (Gs → Int32 → Int32 → Int32 → UInt64 → UInt64 → Int32 → Int32 → Option (Int64 × Gs)) × (Gs → Int32 → Int32 → Int32 → UInt64 → UInt64 → Int32 → Int32 → Option (Int64 × Gs)) × (Gs → Int32 → Int32 → Int32 → UInt64 → UInt64 → Int32 → Int32 → Int32 → Option (Int64 × Gs)) × (Gs → Int32 → Int32 → Int32 → UInt64 → UInt64 → Int32 → Int32 → Int32 → UInt64 → Int32 → Option (Int64 × Gs)) × (Gs → Int32 → Int32 → Int32 → UInt64 → UInt64 → Int32 → Int32 → Int32 → UInt64 → Int32 → Int32 → Option (Int64 × Gs))) (IH : SH_X12_train l D hT aT yT rec) : S_X12_train_87 l D hT aT yT (h_X12_train_87 n rec) := by
  intro p e s m args below meth c H locs A ls gT v3 v4 v5 v6 v8 v10 v11 q C X hl hF
  obtain ⟨hx, hb, hr, hml, hown, hts, hlk⟩ := id C
  unfold h_X12_train_87 at hF
  refine lv_iload hx hb dX12_train_87 (lv_at hl 7 rfl) ?_
  refine lv_iconst (v := (4 : Int32)) hx hb dX12_train_89 (by decide) ?_
  refine lv_icmp_ge (tgt := 107) hx hb dX12_train_90 (by decide) (fun c => ?_) (fun c => ?_)
  · replace hF := iT c hF
    refine lv_iload hx hb dX12_train_107 (lv_at hl 2 rfl) ?_
    refine lv_istore (lv' := [(11, .int v4), (0, .ref hT), (3, .int v3), (4, .int v4), (5, .int v5), (6, .double v6), (8, .double v8), (10, .int v10)]) hx hb dX12_train_109 hl (by decide) rfl (fun ls hl => ?_)
    exact IH.2.1 C X (lv_sub hl [1, 2, 3, 4, 5, 6, 7, 0] rfl) hF
  · replace hF := iF c hF
    refine lv_aload_n hx hb dX12_train_93 rfl (lv_at hl 0 rfl) ?_
    refine va_get (D := D.1) (ci := 12) (v := .ref (aT 102)) (C := RX12) (T := TX12) (N := 114) hx hb hts wi_X12 hown X.1 X.2.1 0 rfl rfl 102 (by decide) (hts _ q7_56) (fun _ h9 => h9) (fl_get (by decide)) dX12_train_94 ?_
    refine lv_iload hx hb dX12_train_97 (lv_at hl 7 rfl) ?_
    refine lv_iconst (v := (0 : Int32)) hx hb dX12_train_99 (by decide) ?_
    obtain ⟨h_15, hF⟩ := grd_some hF
    refine va_iast (D := D.1) (f := gIA gT 102) hx hb X.1 X.2.1 X.2.2.1 X.2.2.2.1 66 65 rfl rfl (inB_ok h_15) dX12_train_100 (fun H locs hP hD hS => ?_)
    have X : Hx D (tX12 yT) A s H locs (wX12 hT aT yT (sIA gT 102 (upd (gIA gT 102) v11.toNatClampNeg (0 : Int32)))) := Hx_set X (wG_sIA (i := 65) (k := 102) ndX12 rfl rfl) hP hD hS
    refine lv_iinc (v := v11 + (1 : Int32)) (lv' := [(11, .int (v11 + (1 : Int32))), (0, .ref hT), (3, .int v3), (4, .int v4), (5, .int v5), (6, .double v6), (8, .double v8), (10, .int v10)]) hx hb dX12_train_101 hl (k := 7) rfl rfl (by decide) rfl (fun ls hl => ?_)
    refine lv_goto (tgt := 87) hx hb dX12_train_104 (by decide) ?_
    exact IH.1 C X (lv_sub hl [1, 2, 3, 4, 5, 6, 7, 0] rfl) hF
set_option maxHeartbeats 4000000 in
set_option maxRecDepth 100000 in
theorem k_X12_train_75 (l : Launch) (D : Dx) (hT : Nat) (aT : Nat → Nat) (yT : Nat → ClassId) (n : Nat) (rec : (Gs → Int32 → Int32 → Int32 → UInt64 → UInt64 → Int32 → Int32 → Option (Int64 × Gs)) × (Gs → Int32 → Int32 → Int32 → UInt64 → UInt64 → Int32 → Int32 → Option (Int64 × Gs)) × (Gs → Int32 → Int32 → Int32 → UInt64 → UInt64 → Int32 → Int32 → Int32 → Option (Int64 × Gs)) × (Gs → Int32 → Int32 → Int32 → UInt64 → UInt64 → Int32 → Int32 → Int32 → UInt64 → Int32 → Option (Int64 × Gs)) × (Gs → Int32 → Int32 → Int32 → UInt64 → UInt64 → Int32 → Int32 → Int32 → UInt64 → Int32 → Int32 → Option (Int64 × Gs))) (IH : SH_X12_train l D hT aT yT rec) : S_X12_train_75 l D hT aT yT (b_X12_train_75 n rec) := by
  intro p e s m args below meth c H locs A ls gT v3 v4 v5 v6 v8 s0 q C X hl hF
  obtain ⟨hx, hb, hr, hml, hown, hts, hlk⟩ := id C
  unfold b_X12_train_75 at hF
  refine lv_istore (lv' := [(10, .int s0), (0, .ref hT), (3, .int v3), (4, .int v4), (5, .int v5), (6, .double v6), (8, .double v8)]) hx hb dX12_train_75 hl (by decide) rfl (fun ls hl => ?_)
  refine lv_aload_n hx hb dX12_train_77 rfl (lv_at hl 1 rfl) ?_
  refine lv_iconst (v := (2 : Int32)) hx hb dX12_train_78 (by decide) ?_
  refine lv_iload_n hx hb dX12_train_79 rfl (lv_at hl 2 rfl) ?_
  refine lv_imul hx hb dX12_train_80 ?_
  refine va_put (D := D.1) (ci := 12) (v := .int ((2 : Int32) * v3)) (ty := .int) (C := RX12) (T := TX12) (N := 114) hx hb hts wi_X12 tyX12 tyX12_ok nmX12 hown X.1 X.2.1 X.2.2.1 X.2.2.2.1 0 rfl rfl 101 (by decide) (hts _ q7_55) (fun _ h9 => h9) rfl (by decide +kernel) rfl rfl (by rw [List.length_map, List.length_range]; decide) dX12_train_81 (fun H locs hP hD hS => ?_)
  have X : Hx D (tX12 yT) A s H locs (wX12 hT aT yT (sI gT 101 ((2 : Int32) * v3))) := Hx_set X (wG_sI (k := 101) rfl) hP hD hS
  refine lv_iconst (v := (0 : Int32)) hx hb dX12_train_84 (by decide) ?_
  refine lv_istore (lv' := [(11, .int (0 : Int32)), (10, .int s0), (0, .ref hT), (3, .int v3), (4, .int v4), (5, .int v5), (6, .double v6), (8, .double v8)]) hx hb dX12_train_85 hl (by decide) rfl (fun ls hl => ?_)
  exact IH.1 C X (lv_sub hl [2, 3, 4, 5, 6, 7, 1, 0] rfl) hF
theorem kL_X12_train (l : Launch) (D : Dx) (hT : Nat) (aT : Nat → Nat) (yT : Nat → ClassId) (n : Nat) : ∀ k, SH_X12_train l D hT aT yT (L_X12_train n k)
  | 0 => ⟨(fun _ _ _ h => by cases h), (fun _ _ _ h => by cases h), (fun _ _ _ h => by cases h), (fun _ _ _ h => by cases h), (fun _ _ _ h => by cases h)⟩
  | k + 1 => ⟨k_X12_train_87 l D hT aT yT n _ (kL_X12_train l D hT aT yT n k), k_X12_train_111 l D hT aT yT n _ (kL_X12_train l D hT aT yT n k), k_X12_train_122 l D hT aT yT n _ (kL_X12_train l D hT aT yT n k), k_X12_train_142 l D hT aT yT n _ (kL_X12_train l D hT aT yT n k), k_X12_train_153 l D hT aT yT n _ (kL_X12_train l D hT aT yT n k)⟩
set_option maxHeartbeats 4000000 in
set_option maxRecDepth 100000 in
theorem c_X12_train (l : Launch) (D : Dx) (hT : Nat) (aT : Nat → Nat) (yT : Nat → ClassId) (n : Nat) (gT : Gs) (x0 : Int64) (x1 : Int32) (x2 : Int32) (x3 : Int32) (q : Int64 × Gs) (hF : f_X12_train n gT x0 x1 x2 x3 = some q) (sz : Nat) : Met l yX12_train (ws_ yX12_train cX12_train 21 (some .long)) R_X12_train (PC D (tX12 yT) [.ref hT, .long x0, .int x1, .int x2, .int x3] (wX12 hT aT yT gT) sz) (QL D (va_A (wX12 hT aT yT gT) sz) (wX12 hT aT yT q.2) q.1) 0 0 (va_A (wX12 hT aT yT gT) sz) := by
  refine Met.ofW (cc := cX12_train) (maxL := 21) (ret := (some .long)) (by decide) rfl ?_
  intro p e s m args below meth c s₁ B hml hv
  obtain ⟨rfl, hsz, hP, hK, hD, hN⟩ := hv
  subst hsz
  have C : Cx p s m _ meth c cX12_train (some .long) 21 RX12 lw_all := Cx_of B hml
  have X := Hx_start hP hK hD hN
  obtain ⟨hx, hb, hr, -, hown, hts, hlk⟩ := id C
  generalize va_A (wX12 hT aT yT gT) s.heap.size = A at X ⊢
  have hl := lv_entry ([.ref hT, .long x0, .int x1, .int x2, .int x3]) (n := 21) (Nat.le_of_ble_eq_true rfl)
  rw [lg_entry_eq]
  generalize (lg_sl ([.ref hT, .long x0, .int x1, .int x2, .int x3]) ++ List.replicate (21 - (lg_sl ([.ref hT, .long x0, .int x1, .int x2, .int x3])).length) Slot.unset).toArray = ls at hl ⊢
  have hl : lv_has ls 21 [(0, .ref hT), (1, .long x0), (3, .int x1), (4, .int x2), (5, .int x3)] := hl
  unfold f_X12_train at hF
  refine lv_lload_n hx hb dX12_train_0 rfl (lv_at hl 1 rfl) ?_
  obtain ⟨q_1, hc_2, hF⟩ := bnd_some hF
  refine cS_i (As := [.long x0]) (rest := []) C X (c_X12_isAbove l D  x0 q_1 hc_2 _) (va_cwS 1 hts (good_S q10_13 q10_14 q1_9 q10_15) rfl rfl rfl (by decide +kernel) ⟨Nat.le_of_ble_eq_true rfl, Nat.le_of_ble_eq_true rfl⟩) (eK X) eP (eD (A := A)) (eF X) hl.1 rfl rfl (Nat.le_of_ble_eq_true rfl) dX12_train_1 ⟨Nat.le_of_ble_eq_true rfl, Nat.le_of_ble_eq_true rfl⟩ (fun t H1 locs1 ht hB hk hS => ?_)
  have X := Hx_after_none X hk hS
  clear hk hS ht hB
  generalize H1 = H at X ⊢
  generalize locs1 = locs at X ⊢
  refine lv_if_eq (tgt := 48) hx hb dX12_train_4 (by decide) (fun c => ?_) (fun c => ?_)
  · replace hF := iT c hF
    refine lv_ldc2 hx hb hown (hts _ q9_125) dX12_train_48 ?_
    have hq := Option.some.inj hF
    subst hq
    exact rt_l C X dX12_train_51
  · replace hF := iF c hF
    refine lv_iload_n hx hb dX12_train_7 rfl (lv_at hl 2 rfl) ?_
    refine lv_iconst (v := (1 : Int32)) hx hb dX12_train_8 (by decide) ?_
    refine lv_icmp_lt (tgt := 48) hx hb dX12_train_9 (by decide) (fun c => ?_) (fun c => ?_)
    · replace hF := iT c hF
      refine lv_ldc2 hx hb hown (hts _ q9_125) dX12_train_48 ?_
      have hq := Option.some.inj hF
      subst hq
      exact rt_l C X dX12_train_51
    · replace hF := iF c hF
      refine lv_iload_n hx hb dX12_train_12 rfl (lv_at hl 2 rfl) ?_
      refine lv_iconst (v := (2 : Int32)) hx hb dX12_train_13 (by decide) ?_
      refine lv_icmp_gt (tgt := 48) hx hb dX12_train_14 (by decide) (fun c => ?_) (fun c => ?_)
      · replace hF := iT c hF
        refine lv_ldc2 hx hb hown (hts _ q9_125) dX12_train_48 ?_
        have hq := Option.some.inj hF
        subst hq
        exact rt_l C X dX12_train_51
      · replace hF := iF c hF
        refine lv_iload hx hb dX12_train_17 (lv_at hl 3 rfl) ?_
        refine lv_iconst (v := (4 : Int32)) hx hb dX12_train_19 (by decide) ?_
        refine lv_icmp_lt (tgt := 48) hx hb dX12_train_20 (by decide) (fun c => ?_) (fun c => ?_)
        · replace hF := iT c hF
          refine lv_ldc2 hx hb hown (hts _ q9_125) dX12_train_48 ?_
          have hq := Option.some.inj hF
          subst hq
          exact rt_l C X dX12_train_51
        · replace hF := iF c hF
          refine lv_iload hx hb dX12_train_23 (lv_at hl 4 rfl) ?_
          refine lv_sipush (v := (200 : Int32)) hx hb dX12_train_25 (by decide) ?_
          refine lv_icmp_gt (tgt := 48) hx hb dX12_train_28 (by decide) (fun c => ?_) (fun c => ?_)
          · replace hF := iT c hF
            refine lv_ldc2 hx hb hown (hts _ q9_125) dX12_train_48 ?_
            have hq := Option.some.inj hF
            subst hq
            exact rt_l C X dX12_train_51
          · replace hF := iF c hF
            refine lv_iload hx hb dX12_train_31 (lv_at hl 3 rfl) ?_
            refine lv_iload hx hb dX12_train_33 (lv_at hl 4 rfl) ?_
            refine lv_icmp_gt (tgt := 48) hx hb dX12_train_35 (by decide) (fun c => ?_) (fun c => ?_)
            · replace hF := iT c hF
              refine lv_ldc2 hx hb hown (hts _ q9_125) dX12_train_48 ?_
              have hq := Option.some.inj hF
              subst hq
              exact rt_l C X dX12_train_51
            · replace hF := iF c hF
              refine lv_iload hx hb dX12_train_38 (lv_at hl 4 rfl) ?_
              refine lv_iload hx hb dX12_train_40 (lv_at hl 3 rfl) ?_
              refine lv_isub hx hb dX12_train_42 ?_
              refine lv_bipush (v := (30 : Int32)) hx hb dX12_train_43 (by decide) ?_
              refine lv_icmp_le (tgt := 52) hx hb dX12_train_45 (by decide) (fun c => ?_) (fun c => ?_)
              · replace hF := iT c hF
                refine lv_lload_n hx hb dX12_train_52 rfl (lv_at hl 1 rfl) ?_
                obtain ⟨h_3, hF⟩ := grd_some hF
                refine vn_l2d hx hb (by rw [hml]; exact hl.1.symm) hown (hts _ q9_118) (hts _ q9_120) (hts _ q9_119) (hts _ q1_24) (nsnB_ok h_3) (Nat.le_of_ble_eq_true rfl) (Nat.le_of_ble_eq_true rfl) dX12_train_53 ?_
                refine lv_dstore (lv' := [(6, .double x0.toUInt64), (0, .ref hT), (1, .long x0), (3, .int x1), (4, .int x2), (5, .int x3)]) hx hb dX12_train_56 hl (by decide) rfl (fun ls hl => ?_)
                refine lv_ldc2d hx hb hown (hts _ q10_20) dX12_train_58 ?_
                refine lv_dstore (lv' := [(8, .double (13830554455654793216 : UInt64)), (6, .double x0.toUInt64), (0, .ref hT), (1, .long x0), (3, .int x1), (4, .int x2), (5, .int x3)]) hx hb dX12_train_61 hl (by decide) rfl (fun ls hl => ?_)
                refine lv_iload_n hx hb dX12_train_63 rfl (lv_at hl 4 rfl) ?_
                refine lv_iconst (v := (2 : Int32)) hx hb dX12_train_64 (by decide) ?_
                refine lv_icmp_ne (tgt := 73) hx hb dX12_train_65 (by decide) (fun c => ?_) (fun c => ?_)
                · replace hF := iF c hF
                  refine lv_iload hx hb dX12_train_73 (lv_at hl 5 rfl) ?_
                  exact (k_X12_train_75 l D hT aT yT n (L_X12_train n n) (kL_X12_train l D hT aT yT n n)) C X (lv_sub hl [2, 4, 5, 6, 1, 0] rfl) hF
                · replace hF := iT c hF
                  refine lv_iload hx hb dX12_train_68 (lv_at hl 6 rfl) ?_
                  refine lv_goto (tgt := 75) hx hb dX12_train_70 (by decide) ?_
                  exact (k_X12_train_75 l D hT aT yT n (L_X12_train n n) (kL_X12_train l D hT aT yT n n)) C X (lv_sub hl [2, 4, 5, 6, 1, 0] rfl) hF
              · replace hF := iF c hF
                refine lv_ldc2 hx hb hown (hts _ q9_125) dX12_train_48 ?_
                have hq := Option.some.inj hF
                subst hq
                exact rt_l C X dX12_train_51

/-! ### X12_wheel -/
theorem dX12_wheel_0 : decode cX12_wheel 0 = .ok (.iload_n 1, 1) := by decide +kernel
theorem dX12_wheel_1 : decode cX12_wheel 1 = .ok (.ifCond .lt 11, 3) := by decide +kernel
theorem dX12_wheel_4 : decode cX12_wheel 4 = .ok (.iload_n 1, 1) := by decide +kernel
theorem dX12_wheel_5 : decode cX12_wheel 5 = .ok (.aload_n 0, 1) := by decide +kernel
theorem dX12_wheel_6 : decode cX12_wheel 6 = .ok (.getfield 364, 3) := by decide +kernel
theorem dX12_wheel_9 : decode cX12_wheel 9 = .ok (.if_icmp .lt 5, 3) := by decide +kernel
theorem dX12_wheel_12 : decode cX12_wheel 12 = .ok (.iconst 0, 1) := by decide +kernel
theorem dX12_wheel_13 : decode cX12_wheel 13 = .ok (.ireturn, 1) := by decide +kernel
theorem dX12_wheel_14 : decode cX12_wheel 14 = .ok (.aload_n 0, 1) := by decide +kernel
theorem dX12_wheel_15 : decode cX12_wheel 15 = .ok (.getfield 367, 3) := by decide +kernel
theorem dX12_wheel_18 : decode cX12_wheel 18 = .ok (.iload_n 1, 1) := by decide +kernel
theorem dX12_wheel_19 : decode cX12_wheel 19 = .ok (.iaload, 1) := by decide +kernel
theorem dX12_wheel_20 : decode cX12_wheel 20 = .ok (.ireturn, 1) := by decide +kernel
abbrev R_X12_wheel : Room := ({ frames := 0, cells := 0, slots := 0, locals := 0 } : Room)
def f_X12_wheel (gT : Gs) (x0 : Int32) : Option (Int32) :=
  if x0 < 0 then (some (0 : Int32)) else (if x0 < (gI gT 101) then (grd (inB x0 4) (some (gIA gT 102 x0.toNatClampNeg))) else (some (0 : Int32)))
set_option maxHeartbeats 4000000 in
set_option maxRecDepth 100000 in
theorem c_X12_wheel (l : Launch) (D : Dx) (hT : Nat) (aT : Nat → Nat) (yT : Nat → ClassId) (gT : Gs) (x0 : Int32) (q : Int32) (hF : f_X12_wheel gT x0 = some q) (sz : Nat) : Met l yX12_wheel (ws_ yX12_wheel cX12_wheel 2 (some .int)) R_X12_wheel (PC D (tX12 yT) [.ref hT, .int x0] (wX12 hT aT yT gT) sz) (QI D (va_A (wX12 hT aT yT gT) sz) (wX12 hT aT yT gT) q) 0 0 (va_A (wX12 hT aT yT gT) sz) := by
  refine Met.ofW (cc := cX12_wheel) (maxL := 2) (ret := (some .int)) (by decide) rfl ?_
  intro p e s m args below meth c s₁ B hml hv
  obtain ⟨rfl, hsz, hP, hK, hD, hN⟩ := hv
  subst hsz
  have C : Cx p s m _ meth c cX12_wheel (some .int) 2 RX12 lw_all := Cx_of B hml
  have X := Hx_start hP hK hD hN
  obtain ⟨hx, hb, hr, -, hown, hts, hlk⟩ := id C
  generalize va_A (wX12 hT aT yT gT) s.heap.size = A at X ⊢
  have hl := lv_entry ([.ref hT, .int x0]) (n := 2) (Nat.le_of_ble_eq_true rfl)
  rw [lg_entry_eq]
  generalize (lg_sl ([.ref hT, .int x0]) ++ List.replicate (2 - (lg_sl ([.ref hT, .int x0])).length) Slot.unset).toArray = ls at hl ⊢
  have hl : lv_has ls 2 [(0, .ref hT), (1, .int x0)] := hl
  unfold f_X12_wheel at hF
  refine lv_iload_n hx hb dX12_wheel_0 rfl (lv_at hl 1 rfl) ?_
  refine lv_if_lt (tgt := 12) hx hb dX12_wheel_1 (by decide) (fun c => ?_) (fun c => ?_)
  · replace hF := iT c hF
    refine lv_iconst (v := (0 : Int32)) hx hb dX12_wheel_12 (by decide) ?_
    have hq := Option.some.inj hF
    subst hq
    exact rt_i C X dX12_wheel_13
  · replace hF := iF c hF
    refine lv_iload_n hx hb dX12_wheel_4 rfl (lv_at hl 1 rfl) ?_
    refine lv_aload_n hx hb dX12_wheel_5 rfl (lv_at hl 0 rfl) ?_
    refine va_get (D := D.1) (ci := 12) (v := .int (gI gT 101)) (C := RX12) (T := TX12) (N := 114) hx hb hts wi_X12 hown X.1 X.2.1 0 rfl rfl 101 (by decide) (hts _ q7_55) (fun _ h9 => h9) (fl_get (by decide)) dX12_wheel_6 ?_
    refine lv_icmp_lt (tgt := 14) hx hb dX12_wheel_9 (by decide) (fun c => ?_) (fun c => ?_)
    · replace hF := iT c hF
      refine lv_aload_n hx hb dX12_wheel_14 rfl (lv_at hl 0 rfl) ?_
      refine va_get (D := D.1) (ci := 12) (v := .ref (aT 102)) (C := RX12) (T := TX12) (N := 114) hx hb hts wi_X12 hown X.1 X.2.1 0 rfl rfl 102 (by decide) (hts _ q7_56) (fun _ h9 => h9) (fl_get (by decide)) dX12_wheel_15 ?_
      refine lv_iload_n hx hb dX12_wheel_18 rfl (lv_at hl 1 rfl) ?_
      obtain ⟨h_1, hF⟩ := grd_some hF
      refine va_iald (D := D.1) (f := gIA gT 102) hx hb X.1 X.2.1 66 65 rfl rfl (inB_ok h_1) dX12_wheel_19 ?_
      have hq := Option.some.inj hF
      subst hq
      exact rt_i C X dX12_wheel_20
    · replace hF := iF c hF
      refine lv_iconst (v := (0 : Int32)) hx hb dX12_wheel_12 (by decide) ?_
      have hq := Option.some.inj hF
      subst hq
      exact rt_i C X dX12_wheel_13

/-! ### X12_date -/
theorem dX12_date_0 : decode cX12_date 0 = .ok (.iload_n 3, 1) := by decide +kernel
theorem dX12_date_1 : decode cX12_date 1 = .ok (.ifCond .lt 15, 3) := by decide +kernel
theorem dX12_date_4 : decode cX12_date 4 = .ok (.iload_n 3, 1) := by decide +kernel
theorem dX12_date_5 : decode cX12_date 5 = .ok (.iconst 4, 1) := by decide +kernel
theorem dX12_date_6 : decode cX12_date 6 = .ok (.if_icmp .gt 10, 3) := by decide +kernel
theorem dX12_date_9 : decode cX12_date 9 = .ok (.lload_n 1, 1) := by decide +kernel
theorem dX12_date_10 : decode cX12_date 10 = .ok (.invokestatic 501, 3) := by decide +kernel
theorem dX12_date_13 : decode cX12_date 13 = .ok (.ifCond .ne 7, 3) := by decide +kernel
theorem dX12_date_16 : decode cX12_date 16 = .ok (.ldc_w 750, 3) := by decide +kernel
theorem dX12_date_19 : decode cX12_date 19 = .ok (.ireturn, 1) := by decide +kernel
theorem dX12_date_20 : decode cX12_date 20 = .ok (.aload_n 0, 1) := by decide +kernel
theorem dX12_date_21 : decode cX12_date 21 = .ok (.aload_n 0, 1) := by decide +kernel
theorem dX12_date_22 : decode cX12_date 22 = .ok (.lload_n 1, 1) := by decide +kernel
theorem dX12_date_23 : decode cX12_date 23 = .ok (.iconst 0, 1) := by decide +kernel
theorem dX12_date_24 : decode cX12_date 24 = .ok (.invokevirtual 666, 3) := by decide +kernel
theorem dX12_date_27 : decode cX12_date 27 = .ok (.bipush 7, 2) := by decide +kernel
theorem dX12_date_29 : decode cX12_date 29 = .ok (.iconst 5, 1) := by decide +kernel
theorem dX12_date_30 : decode cX12_date 30 = .ok (.invokevirtual 473, 3) := by decide +kernel
theorem dX12_date_33 : decode cX12_date 33 = .ok (.lstore 4, 2) := by decide +kernel
theorem dX12_date_35 : decode cX12_date 35 = .ok (.lload 4, 2) := by decide +kernel
theorem dX12_date_37 : decode cX12_date 37 = .ok (.ldc2_w 751, 3) := by decide +kernel
theorem dX12_date_40 : decode cX12_date 40 = .ok (.lcmp, 1) := by decide +kernel
theorem dX12_date_41 : decode cX12_date 41 = .ok (.ifCond .lt 12, 3) := by decide +kernel
theorem dX12_date_44 : decode cX12_date 44 = .ok (.lload 4, 2) := by decide +kernel
theorem dX12_date_46 : decode cX12_date 46 = .ok (.ldc2_w 753, 3) := by decide +kernel
theorem dX12_date_49 : decode cX12_date 49 = .ok (.lcmp, 1) := by decide +kernel
theorem dX12_date_50 : decode cX12_date 50 = .ok (.ifCond .le 7, 3) := by decide +kernel
theorem dX12_date_53 : decode cX12_date 53 = .ok (.ldc_w 750, 3) := by decide +kernel
theorem dX12_date_56 : decode cX12_date 56 = .ok (.ireturn, 1) := by decide +kernel
theorem dX12_date_57 : decode cX12_date 57 = .ok (.lload 4, 2) := by decide +kernel
theorem dX12_date_59 : decode cX12_date 59 = .ok (.l2i, 1) := by decide +kernel
theorem dX12_date_60 : decode cX12_date 60 = .ok (.ldc_w 755, 3) := by decide +kernel
theorem dX12_date_63 : decode cX12_date 63 = .ok (.iadd, 1) := by decide +kernel
theorem dX12_date_64 : decode cX12_date 64 = .ok (.ldc_w 756, 3) := by decide +kernel
theorem dX12_date_67 : decode cX12_date 67 = .ok (.iadd, 1) := by decide +kernel
theorem dX12_date_68 : decode cX12_date 68 = .ok (.istore 6, 2) := by decide +kernel
theorem dX12_date_70 : decode cX12_date 70 = .ok (.iload_n 3, 1) := by decide +kernel
theorem dX12_date_71 : decode cX12_date 71 = .ok (.iconst 3, 1) := by decide +kernel
theorem dX12_date_72 : decode cX12_date 72 = .ok (.if_icmp .ne 16, 3) := by decide +kernel
theorem dX12_date_75 : decode cX12_date 75 = .ok (.lload 4, 2) := by decide +kernel
theorem dX12_date_77 : decode cX12_date 77 = .ok (.l2i, 1) := by decide +kernel
theorem dX12_date_78 : decode cX12_date 78 = .ok (.bipush 7, 2) := by decide +kernel
theorem dX12_date_80 : decode cX12_date 80 = .ok (.irem, 1) := by decide +kernel
theorem dX12_date_81 : decode cX12_date 81 = .ok (.bipush 10, 2) := by decide +kernel
theorem dX12_date_83 : decode cX12_date 83 = .ok (.iadd, 1) := by decide +kernel
theorem dX12_date_84 : decode cX12_date 84 = .ok (.bipush 7, 2) := by decide +kernel
theorem dX12_date_86 : decode cX12_date 86 = .ok (.irem, 1) := by decide +kernel
theorem dX12_date_87 : decode cX12_date 87 = .ok (.ireturn, 1) := by decide +kernel
theorem dX12_date_88 : decode cX12_date 88 = .ok (.iload 6, 2) := by decide +kernel
theorem dX12_date_90 : decode cX12_date 90 = .ok (.ldc_w 757, 3) := by decide +kernel
theorem dX12_date_93 : decode cX12_date 93 = .ok (.idiv, 1) := by decide +kernel
theorem dX12_date_94 : decode cX12_date 94 = .ok (.istore 7, 2) := by decide +kernel
theorem dX12_date_96 : decode cX12_date 96 = .ok (.iload 6, 2) := by decide +kernel
theorem dX12_date_98 : decode cX12_date 98 = .ok (.ldc_w 757, 3) := by decide +kernel
theorem dX12_date_101 : decode cX12_date 101 = .ok (.irem, 1) := by decide +kernel
theorem dX12_date_102 : decode cX12_date 102 = .ok (.istore 8, 2) := by decide +kernel
theorem dX12_date_104 : decode cX12_date 104 = .ok (.sipush 400, 3) := by decide +kernel
theorem dX12_date_107 : decode cX12_date 107 = .ok (.iload 7, 2) := by decide +kernel
theorem dX12_date_109 : decode cX12_date 109 = .ok (.imul, 1) := by decide +kernel
theorem dX12_date_110 : decode cX12_date 110 = .ok (.ldc_w 758, 3) := by decide +kernel
theorem dX12_date_113 : decode cX12_date 113 = .ok (.isub, 1) := by decide +kernel
theorem dX12_date_114 : decode cX12_date 114 = .ok (.iconst 1, 1) := by decide +kernel
theorem dX12_date_115 : decode cX12_date 115 = .ok (.iadd, 1) := by decide +kernel
theorem dX12_date_116 : decode cX12_date 116 = .ok (.istore 9, 2) := by decide +kernel
theorem dX12_date_118 : decode cX12_date 118 = .ok (.iload 8, 2) := by decide +kernel
theorem dX12_date_120 : decode cX12_date 120 = .ok (.iload 9, 2) := by decide +kernel
theorem dX12_date_122 : decode cX12_date 122 = .ok (.invokestatic 759, 3) := by decide +kernel
theorem dX12_date_125 : decode cX12_date 125 = .ok (.ifCond .eq 9, 3) := by decide +kernel
theorem dX12_date_128 : decode cX12_date 128 = .ok (.sipush 366, 3) := by decide +kernel
theorem dX12_date_131 : decode cX12_date 131 = .ok (.goto 6, 3) := by decide +kernel
theorem dX12_date_134 : decode cX12_date 134 = .ok (.sipush 365, 3) := by decide +kernel
theorem dX12_date_137 : decode cX12_date 137 = .ok (.if_icmp .lt 31, 3) := by decide +kernel
theorem dX12_date_140 : decode cX12_date 140 = .ok (.iload 8, 2) := by decide +kernel
theorem dX12_date_142 : decode cX12_date 142 = .ok (.iload 9, 2) := by decide +kernel
theorem dX12_date_144 : decode cX12_date 144 = .ok (.invokestatic 759, 3) := by decide +kernel
theorem dX12_date_147 : decode cX12_date 147 = .ok (.ifCond .eq 9, 3) := by decide +kernel
theorem dX12_date_150 : decode cX12_date 150 = .ok (.sipush 366, 3) := by decide +kernel
theorem dX12_date_153 : decode cX12_date 153 = .ok (.goto 6, 3) := by decide +kernel
theorem dX12_date_156 : decode cX12_date 156 = .ok (.sipush 365, 3) := by decide +kernel
theorem dX12_date_159 : decode cX12_date 159 = .ok (.isub, 1) := by decide +kernel
theorem dX12_date_160 : decode cX12_date 160 = .ok (.istore 8, 2) := by decide +kernel
theorem dX12_date_162 : decode cX12_date 162 = .ok (.iinc 9 1, 3) := by decide +kernel
theorem dX12_date_165 : decode cX12_date 165 = .ok (.goto (-47), 3) := by decide +kernel
theorem dX12_date_168 : decode cX12_date 168 = .ok (.iload_n 3, 1) := by decide +kernel
theorem dX12_date_169 : decode cX12_date 169 = .ok (.ifCond .ne 6, 3) := by decide +kernel
theorem dX12_date_172 : decode cX12_date 172 = .ok (.iload 9, 2) := by decide +kernel
theorem dX12_date_174 : decode cX12_date 174 = .ok (.ireturn, 1) := by decide +kernel
theorem dX12_date_175 : decode cX12_date 175 = .ok (.iload_n 3, 1) := by decide +kernel
theorem dX12_date_176 : decode cX12_date 176 = .ok (.iconst 4, 1) := by decide +kernel
theorem dX12_date_177 : decode cX12_date 177 = .ok (.if_icmp .ne 8, 3) := by decide +kernel
theorem dX12_date_180 : decode cX12_date 180 = .ok (.iload 8, 2) := by decide +kernel
theorem dX12_date_182 : decode cX12_date 182 = .ok (.iconst 1, 1) := by decide +kernel
theorem dX12_date_183 : decode cX12_date 183 = .ok (.iadd, 1) := by decide +kernel
theorem dX12_date_184 : decode cX12_date 184 = .ok (.ireturn, 1) := by decide +kernel
theorem dX12_date_185 : decode cX12_date 185 = .ok (.iconst 1, 1) := by decide +kernel
theorem dX12_date_186 : decode cX12_date 186 = .ok (.istore 10, 2) := by decide +kernel
theorem dX12_date_188 : decode cX12_date 188 = .ok (.bipush 31, 2) := by decide +kernel
theorem dX12_date_190 : decode cX12_date 190 = .ok (.istore 11, 2) := by decide +kernel
theorem dX12_date_192 : decode cX12_date 192 = .ok (.iload 8, 2) := by decide +kernel
theorem dX12_date_194 : decode cX12_date 194 = .ok (.iload 11, 2) := by decide +kernel
theorem dX12_date_196 : decode cX12_date 196 = .ok (.if_icmp .lt 76, 3) := by decide +kernel
theorem dX12_date_199 : decode cX12_date 199 = .ok (.iload 8, 2) := by decide +kernel
theorem dX12_date_201 : decode cX12_date 201 = .ok (.iload 11, 2) := by decide +kernel
theorem dX12_date_203 : decode cX12_date 203 = .ok (.isub, 1) := by decide +kernel
theorem dX12_date_204 : decode cX12_date 204 = .ok (.istore 8, 2) := by decide +kernel
theorem dX12_date_206 : decode cX12_date 206 = .ok (.iinc 10 1, 3) := by decide +kernel
theorem dX12_date_209 : decode cX12_date 209 = .ok (.iload 10, 2) := by decide +kernel
theorem dX12_date_211 : decode cX12_date 211 = .ok (.iconst 2, 1) := by decide +kernel
theorem dX12_date_212 : decode cX12_date 212 = .ok (.if_icmp .ne 21, 3) := by decide +kernel
theorem dX12_date_215 : decode cX12_date 215 = .ok (.iload 9, 2) := by decide +kernel
theorem dX12_date_217 : decode cX12_date 217 = .ok (.invokestatic 759, 3) := by decide +kernel
theorem dX12_date_220 : decode cX12_date 220 = .ok (.ifCond .eq 8, 3) := by decide +kernel
theorem dX12_date_223 : decode cX12_date 223 = .ok (.bipush 29, 2) := by decide +kernel
theorem dX12_date_225 : decode cX12_date 225 = .ok (.goto 42, 3) := by decide +kernel
theorem dX12_date_228 : decode cX12_date 228 = .ok (.bipush 28, 2) := by decide +kernel
theorem dX12_date_230 : decode cX12_date 230 = .ok (.goto 37, 3) := by decide +kernel
theorem dX12_date_233 : decode cX12_date 233 = .ok (.iload 10, 2) := by decide +kernel
theorem dX12_date_235 : decode cX12_date 235 = .ok (.iconst 4, 1) := by decide +kernel
theorem dX12_date_236 : decode cX12_date 236 = .ok (.if_icmp .eq 24, 3) := by decide +kernel
theorem dX12_date_239 : decode cX12_date 239 = .ok (.iload 10, 2) := by decide +kernel
theorem dX12_date_241 : decode cX12_date 241 = .ok (.bipush 6, 2) := by decide +kernel
theorem dX12_date_243 : decode cX12_date 243 = .ok (.if_icmp .eq 17, 3) := by decide +kernel
theorem dX12_date_246 : decode cX12_date 246 = .ok (.iload 10, 2) := by decide +kernel
theorem dX12_date_248 : decode cX12_date 248 = .ok (.bipush 9, 2) := by decide +kernel
theorem dX12_date_250 : decode cX12_date 250 = .ok (.if_icmp .eq 10, 3) := by decide +kernel
theorem dX12_date_253 : decode cX12_date 253 = .ok (.iload 10, 2) := by decide +kernel
theorem dX12_date_255 : decode cX12_date 255 = .ok (.bipush 11, 2) := by decide +kernel
theorem dX12_date_257 : decode cX12_date 257 = .ok (.if_icmp .ne 8, 3) := by decide +kernel
theorem dX12_date_260 : decode cX12_date 260 = .ok (.bipush 30, 2) := by decide +kernel
theorem dX12_date_262 : decode cX12_date 262 = .ok (.goto 5, 3) := by decide +kernel
theorem dX12_date_265 : decode cX12_date 265 = .ok (.bipush 31, 2) := by decide +kernel
theorem dX12_date_267 : decode cX12_date 267 = .ok (.istore 11, 2) := by decide +kernel
theorem dX12_date_269 : decode cX12_date 269 = .ok (.goto (-77), 3) := by decide +kernel
theorem dX12_date_272 : decode cX12_date 272 = .ok (.iload_n 3, 1) := by decide +kernel
theorem dX12_date_273 : decode cX12_date 273 = .ok (.iconst 1, 1) := by decide +kernel
theorem dX12_date_274 : decode cX12_date 274 = .ok (.if_icmp .ne 8, 3) := by decide +kernel
theorem dX12_date_277 : decode cX12_date 277 = .ok (.iload 10, 2) := by decide +kernel
theorem dX12_date_279 : decode cX12_date 279 = .ok (.goto 7, 3) := by decide +kernel
theorem dX12_date_282 : decode cX12_date 282 = .ok (.iload 8, 2) := by decide +kernel
theorem dX12_date_284 : decode cX12_date 284 = .ok (.iconst 1, 1) := by decide +kernel
theorem dX12_date_285 : decode cX12_date 285 = .ok (.iadd, 1) := by decide +kernel
theorem dX12_date_286 : decode cX12_date 286 = .ok (.ireturn, 1) := by decide +kernel
abbrev R_X12_date : Room := ({ frames := 3, cells := 0, slots := 0, locals := 90 } : Room)
def b_X12_date_267 (n : Nat) (rec : (Gs → Int32 → Int32 → Int32 → Option (Int32 × Gs)) × (Gs → Int32 → Int32 → Int32 → Int32 → Int32 → Option (Int32 × Gs))) (gT : Gs) (v3 : Int32) (v8 : Int32) (v9 : Int32) (v10 : Int32) (s0 : Int32) : Option (Int32 × Gs) :=
  rec.2 gT v3 v8 v9 v10 s0
def b_X12_date_260 (n : Nat) (rec : (Gs → Int32 → Int32 → Int32 → Option (Int32 × Gs)) × (Gs → Int32 → Int32 → Int32 → Int32 → Int32 → Option (Int32 × Gs))) (gT : Gs) (v3 : Int32) (v8 : Int32) (v9 : Int32) (v10 : Int32) : Option (Int32 × Gs) :=
  b_X12_date_267 n rec gT v3 v8 v9 v10 (30 : Int32)
def h_X12_date_192 (n : Nat) (rec : (Gs → Int32 → Int32 → Int32 → Option (Int32 × Gs)) × (Gs → Int32 → Int32 → Int32 → Int32 → Int32 → Option (Int32 × Gs))) (gT : Gs) (v3 : Int32) (v8 : Int32) (v9 : Int32) (v10 : Int32) (v11 : Int32) : Option (Int32 × Gs) :=
  if v8 < v11 then (if v3 = (1 : Int32) then (some (v10, gT)) else (some (v8 + (1 : Int32), gT))) else (if (v10 + (1 : Int32)) = (2 : Int32) then (bnd (f_X12_isLeap v9) (fun q_9 => if q_9 = 0 then (b_X12_date_267 n rec gT v3 (v8 - v11) v9 (v10 + (1 : Int32)) (28 : Int32)) else (b_X12_date_267 n rec gT v3 (v8 - v11) v9 (v10 + (1 : Int32)) (29 : Int32)))) else (if (v10 + (1 : Int32)) = (4 : Int32) then (b_X12_date_260 n rec gT v3 (v8 - v11) v9 (v10 + (1 : Int32))) else (if (v10 + (1 : Int32)) = (6 : Int32) then (b_X12_date_260 n rec gT v3 (v8 - v11) v9 (v10 + (1 : Int32))) else (if (v10 + (1 : Int32)) = (9 : Int32) then (b_X12_date_260 n rec gT v3 (v8 - v11) v9 (v10 + (1 : Int32))) else (if (v10 + (1 : Int32)) = (11 : Int32) then (b_X12_date_260 n rec gT v3 (v8 - v11) v9 (v10 + (1 : Int32))) else (b_X12_date_267 n rec gT v3 (v8 - v11) v9 (v10 + (1 : Int32)) (31 : Int32)))))))
def b_X12_date_159 (n : Nat) (rec : (Gs → Int32 → Int32 → Int32 → Option (Int32 × Gs)) × (Gs → Int32 → Int32 → Int32 → Int32 → Int32 → Option (Int32 × Gs))) (gT : Gs) (v3 : Int32) (v9 : Int32) (s0 : Int32) (s1 : Int32) : Option (Int32 × Gs) :=
  rec.1 gT v3 (s1 - s0) (v9 + (1 : Int32))
def b_X12_date_137 (n : Nat) (rec : (Gs → Int32 → Int32 → Int32 → Option (Int32 × Gs)) × (Gs → Int32 → Int32 → Int32 → Int32 → Int32 → Option (Int32 × Gs))) (gT : Gs) (v3 : Int32) (v8 : Int32) (v9 : Int32) (s0 : Int32) (s1 : Int32) : Option (Int32 × Gs) :=
  if s1 < s0 then (if v3 = 0 then (some (v9, gT)) else (if v3 = (4 : Int32) then (some (v8 + (1 : Int32), gT)) else (rec.2 gT v3 v8 v9 (1 : Int32) (31 : Int32)))) else (bnd (f_X12_isLeap v9) (fun q_11 => if q_11 = 0 then (b_X12_date_159 n rec gT v3 v9 (365 : Int32) v8) else (b_X12_date_159 n rec gT v3 v9 (366 : Int32) v8)))
def h_X12_date_118 (n : Nat) (rec : (Gs → Int32 → Int32 → Int32 → Option (Int32 × Gs)) × (Gs → Int32 → Int32 → Int32 → Int32 → Int32 → Option (Int32 × Gs))) (gT : Gs) (v3 : Int32) (v8 : Int32) (v9 : Int32) : Option (Int32 × Gs) :=
  bnd (f_X12_isLeap v9) (fun q_7 => if q_7 = 0 then (b_X12_date_137 n rec gT v3 v8 v9 (365 : Int32) v8) else (b_X12_date_137 n rec gT v3 v8 v9 (366 : Int32) v8))
def L_X12_date (n : Nat) : Nat → ((Gs → Int32 → Int32 → Int32 → Option (Int32 × Gs)) × (Gs → Int32 → Int32 → Int32 → Int32 → Int32 → Option (Int32 × Gs)))
  | 0 => ((fun _ _ _ _ => none), (fun _ _ _ _ _ _ => none))
  | k + 1 => (h_X12_date_118 n (L_X12_date n k), h_X12_date_192 n (L_X12_date n k))
def f_X12_date (n : Nat) (gT : Gs) (x0 : Int64) (x1 : Int32) : Option (Int32 × Gs) :=
  if x1 < 0 then (some ((-1000000000 : Int32), gT)) else (if (4 : Int32) < x1 then (some ((-1000000000 : Int32), gT)) else (bnd (f_X12_isFinite x0) (fun q_1 => if q_1 = 0 then (some ((-1000000000 : Int32), gT)) else (bnd (f_X12_evened n gT x0 (0 : Int32)) (fun q_3 => bnd (f_X12_towards n q_3.2 q_3.1 (7 : Int32) (5 : Int32)) (fun q_5 => if q_5.1 < (-100000000 : Int64) then (some ((-1000000000 : Int32), q_5.2)) else (if q_5.1 ≤ (100000000 : Int64) then (if x1 = (3 : Int32) then (some (((q_5.1.toInt32 - q_5.1.toInt32 / (7 : Int32) * (7 : Int32)) + (10 : Int32)) - ((q_5.1.toInt32 - q_5.1.toInt32 / (7 : Int32) * (7 : Int32)) + (10 : Int32)) / (7 : Int32) * (7 : Int32), q_5.2)) else ((L_X12_date n n).1 q_5.2 x1 (((q_5.1.toInt32 + (719162 : Int32)) + (102267900 : Int32)) - ((q_5.1.toInt32 + (719162 : Int32)) + (102267900 : Int32)) / (146097 : Int32) * (146097 : Int32)) ((((400 : Int32) * (((q_5.1.toInt32 + (719162 : Int32)) + (102267900 : Int32)) / (146097 : Int32))) - (280000 : Int32)) + (1 : Int32)))) else (some ((-1000000000 : Int32), q_5.2)))))))))
def S_X12_date_267 (l : Launch) (D : Dx) (hT : Nat) (aT : Nat → Nat) (yT : Nat → ClassId) (fn : Gs → Int32 → Int32 → Int32 → Int32 → Int32 → Option (Int32 × Gs)) : Prop :=
  ∀ {p : Program} {e : Env} {s : State} {m : MethodId} {args : Array Value} {below : List Frame} {meth : Method} {c : Code} {H : Heap} {locs : List Loc} {A : Nat → Prop} {ls : Array Slot} {gT : Gs} {v3 : Int32} {v8 : Int32} {v9 : Int32} {v10 : Int32} {s0 : Int32} {q : Int32 × Gs}, Cx p s m args meth c cX12_date (some .int) 12 RX12 lw_all → Hx D (tX12 yT) A s H locs (wX12 hT aT yT gT) → lv_has ls 12 [(3, .int v3), (8, .int v8), (9, .int v9), (10, .int v10)] → fn gT v3 v8 v9 v10 s0 = some q → W p l e R_X12_date s m args below meth c H locs 0 0 (MQ below (QI D A (wX12 hT aT yT q.2) q.1) args s 0 0 A) (F0 m 267 ls [.int s0])
def S_X12_date_260 (l : Launch) (D : Dx) (hT : Nat) (aT : Nat → Nat) (yT : Nat → ClassId) (fn : Gs → Int32 → Int32 → Int32 → Int32 → Option (Int32 × Gs)) : Prop :=
  ∀ {p : Program} {e : Env} {s : State} {m : MethodId} {args : Array Value} {below : List Frame} {meth : Method} {c : Code} {H : Heap} {locs : List Loc} {A : Nat → Prop} {ls : Array Slot} {gT : Gs} {v3 : Int32} {v8 : Int32} {v9 : Int32} {v10 : Int32} {q : Int32 × Gs}, Cx p s m args meth c cX12_date (some .int) 12 RX12 lw_all → Hx D (tX12 yT) A s H locs (wX12 hT aT yT gT) → lv_has ls 12 [(3, .int v3), (8, .int v8), (9, .int v9), (10, .int v10)] → fn gT v3 v8 v9 v10 = some q → W p l e R_X12_date s m args below meth c H locs 0 0 (MQ below (QI D A (wX12 hT aT yT q.2) q.1) args s 0 0 A) (F0 m 260 ls [])
def S_X12_date_192 (l : Launch) (D : Dx) (hT : Nat) (aT : Nat → Nat) (yT : Nat → ClassId) (fn : Gs → Int32 → Int32 → Int32 → Int32 → Int32 → Option (Int32 × Gs)) : Prop :=
  ∀ {p : Program} {e : Env} {s : State} {m : MethodId} {args : Array Value} {below : List Frame} {meth : Method} {c : Code} {H : Heap} {locs : List Loc} {A : Nat → Prop} {ls : Array Slot} {gT : Gs} {v3 : Int32} {v8 : Int32} {v9 : Int32} {v10 : Int32} {v11 : Int32} {q : Int32 × Gs}, Cx p s m args meth c cX12_date (some .int) 12 RX12 lw_all → Hx D (tX12 yT) A s H locs (wX12 hT aT yT gT) → lv_has ls 12 [(3, .int v3), (8, .int v8), (9, .int v9), (10, .int v10), (11, .int v11)] → fn gT v3 v8 v9 v10 v11 = some q → W p l e R_X12_date s m args below meth c H locs 0 0 (MQ below (QI D A (wX12 hT aT yT q.2) q.1) args s 0 0 A) (F0 m 192 ls [])
def S_X12_date_159 (l : Launch) (D : Dx) (hT : Nat) (aT : Nat → Nat) (yT : Nat → ClassId) (fn : Gs → Int32 → Int32 → Int32 → Int32 → Option (Int32 × Gs)) : Prop :=
  ∀ {p : Program} {e : Env} {s : State} {m : MethodId} {args : Array Value} {below : List Frame} {meth : Method} {c : Code} {H : Heap} {locs : List Loc} {A : Nat → Prop} {ls : Array Slot} {gT : Gs} {v3 : Int32} {v9 : Int32} {s0 : Int32} {s1 : Int32} {q : Int32 × Gs}, Cx p s m args meth c cX12_date (some .int) 12 RX12 lw_all → Hx D (tX12 yT) A s H locs (wX12 hT aT yT gT) → lv_has ls 12 [(3, .int v3), (9, .int v9)] → fn gT v3 v9 s0 s1 = some q → W p l e R_X12_date s m args below meth c H locs 0 0 (MQ below (QI D A (wX12 hT aT yT q.2) q.1) args s 0 0 A) (F0 m 159 ls [.int s0, .int s1])
def S_X12_date_137 (l : Launch) (D : Dx) (hT : Nat) (aT : Nat → Nat) (yT : Nat → ClassId) (fn : Gs → Int32 → Int32 → Int32 → Int32 → Int32 → Option (Int32 × Gs)) : Prop :=
  ∀ {p : Program} {e : Env} {s : State} {m : MethodId} {args : Array Value} {below : List Frame} {meth : Method} {c : Code} {H : Heap} {locs : List Loc} {A : Nat → Prop} {ls : Array Slot} {gT : Gs} {v3 : Int32} {v8 : Int32} {v9 : Int32} {s0 : Int32} {s1 : Int32} {q : Int32 × Gs}, Cx p s m args meth c cX12_date (some .int) 12 RX12 lw_all → Hx D (tX12 yT) A s H locs (wX12 hT aT yT gT) → lv_has ls 12 [(3, .int v3), (8, .int v8), (9, .int v9)] → fn gT v3 v8 v9 s0 s1 = some q → W p l e R_X12_date s m args below meth c H locs 0 0 (MQ below (QI D A (wX12 hT aT yT q.2) q.1) args s 0 0 A) (F0 m 137 ls [.int s0, .int s1])
def S_X12_date_118 (l : Launch) (D : Dx) (hT : Nat) (aT : Nat → Nat) (yT : Nat → ClassId) (fn : Gs → Int32 → Int32 → Int32 → Option (Int32 × Gs)) : Prop :=
  ∀ {p : Program} {e : Env} {s : State} {m : MethodId} {args : Array Value} {below : List Frame} {meth : Method} {c : Code} {H : Heap} {locs : List Loc} {A : Nat → Prop} {ls : Array Slot} {gT : Gs} {v3 : Int32} {v8 : Int32} {v9 : Int32} {q : Int32 × Gs}, Cx p s m args meth c cX12_date (some .int) 12 RX12 lw_all → Hx D (tX12 yT) A s H locs (wX12 hT aT yT gT) → lv_has ls 12 [(3, .int v3), (8, .int v8), (9, .int v9)] → fn gT v3 v8 v9 = some q → W p l e R_X12_date s m args below meth c H locs 0 0 (MQ below (QI D A (wX12 hT aT yT q.2) q.1) args s 0 0 A) (F0 m 118 ls [])
def SH_X12_date (l : Launch) (D : Dx) (hT : Nat) (aT : Nat → Nat) (yT : Nat → ClassId) (rec : (Gs → Int32 → Int32 → Int32 → Option (Int32 × Gs)) × (Gs → Int32 → Int32 → Int32 → Int32 → Int32 → Option (Int32 × Gs))) : Prop := S_X12_date_118 l D hT aT yT rec.1 ∧ S_X12_date_192 l D hT aT yT rec.2
set_option maxHeartbeats 4000000 in
set_option maxRecDepth 100000 in
theorem k_X12_date_267 (l : Launch) (D : Dx) (hT : Nat) (aT : Nat → Nat) (yT : Nat → ClassId) (n : Nat) (rec : (Gs → Int32 → Int32 → Int32 → Option (Int32 × Gs)) × (Gs → Int32 → Int32 → Int32 → Int32 → Int32 → Option (Int32 × Gs))) (IH : SH_X12_date l D hT aT yT rec) : S_X12_date_267 l D hT aT yT (b_X12_date_267 n rec) := by
  intro p e s m args below meth c H locs A ls gT v3 v8 v9 v10 s0 q C X hl hF
  obtain ⟨hx, hb, hr, hml, hown, hts, hlk⟩ := id C
  unfold b_X12_date_267 at hF
  refine lv_istore (lv' := [(11, .int s0), (3, .int v3), (8, .int v8), (9, .int v9), (10, .int v10)]) hx hb dX12_date_267 hl (by decide) rfl (fun ls hl => ?_)
  refine lv_goto (tgt := 192) hx hb dX12_date_269 (by decide) ?_
  exact IH.2 C X (lv_sub hl [1, 2, 3, 4, 0] rfl) hF
set_option maxHeartbeats 4000000 in
set_option maxRecDepth 100000 in
theorem k_X12_date_260 (l : Launch) (D : Dx) (hT : Nat) (aT : Nat → Nat) (yT : Nat → ClassId) (n : Nat) (rec : (Gs → Int32 → Int32 → Int32 → Option (Int32 × Gs)) × (Gs → Int32 → Int32 → Int32 → Int32 → Int32 → Option (Int32 × Gs))) (IH : SH_X12_date l D hT aT yT rec) : S_X12_date_260 l D hT aT yT (b_X12_date_260 n rec) := by
  intro p e s m args below meth c H locs A ls gT v3 v8 v9 v10 q C X hl hF
  obtain ⟨hx, hb, hr, hml, hown, hts, hlk⟩ := id C
  unfold b_X12_date_260 at hF
  refine lv_bipush (v := (30 : Int32)) hx hb dX12_date_260 (by decide) ?_
  refine lv_goto (tgt := 267) hx hb dX12_date_262 (by decide) ?_
  exact (k_X12_date_267 l D hT aT yT n rec IH) C X (lv_sub hl [0, 1, 2, 3] rfl) hF
set_option maxHeartbeats 4000000 in
set_option maxRecDepth 100000 in
theorem k_X12_date_192 (l : Launch) (D : Dx) (hT : Nat) (aT : Nat → Nat) (yT : Nat → ClassId) (n : Nat) (rec : (Gs → Int32 → Int32 → Int32 → Option (Int32 × Gs)) × (Gs → Int32 → Int32 → Int32 → Int32 → Int32 → Option (Int32 × Gs))) (IH : SH_X12_date l D hT aT yT rec) : S_X12_date_192 l D hT aT yT (h_X12_date_192 n rec) := by
  intro p e s m args below meth c H locs A ls gT v3 v8 v9 v10 v11 q C X hl hF
  obtain ⟨hx, hb, hr, hml, hown, hts, hlk⟩ := id C
  unfold h_X12_date_192 at hF
  refine lv_iload hx hb dX12_date_192 (lv_at hl 1 rfl) ?_
  refine lv_iload hx hb dX12_date_194 (lv_at hl 4 rfl) ?_
  refine lv_icmp_lt (tgt := 272) hx hb dX12_date_196 (by decide) (fun c => ?_) (fun c => ?_)
  · replace hF := iT c hF
    refine lv_iload_n hx hb dX12_date_272 rfl (lv_at hl 0 rfl) ?_
    refine lv_iconst (v := (1 : Int32)) hx hb dX12_date_273 (by decide) ?_
    refine lv_icmp_ne (tgt := 282) hx hb dX12_date_274 (by decide) (fun c => ?_) (fun c => ?_)
    · replace hF := iF c hF
      refine lv_iload hx hb dX12_date_282 (lv_at hl 1 rfl) ?_
      refine lv_iconst (v := (1 : Int32)) hx hb dX12_date_284 (by decide) ?_
      refine lv_iadd hx hb dX12_date_285 ?_
      have hq := Option.some.inj hF
      subst hq
      exact rt_i C X dX12_date_286
    · replace hF := iT c hF
      refine lv_iload hx hb dX12_date_277 (lv_at hl 3 rfl) ?_
      refine lv_goto (tgt := 286) hx hb dX12_date_279 (by decide) ?_
      have hq := Option.some.inj hF
      subst hq
      exact rt_i C X dX12_date_286
  · replace hF := iF c hF
    refine lv_iload hx hb dX12_date_199 (lv_at hl 1 rfl) ?_
    refine lv_iload hx hb dX12_date_201 (lv_at hl 4 rfl) ?_
    refine lv_isub hx hb dX12_date_203 ?_
    refine lv_istore (lv' := [(8, .int (v8 - v11)), (3, .int v3), (9, .int v9), (10, .int v10), (11, .int v11)]) hx hb dX12_date_204 hl (by decide) rfl (fun ls hl => ?_)
    refine lv_iinc (v := v10 + (1 : Int32)) (lv' := [(10, .int (v10 + (1 : Int32))), (8, .int (v8 - v11)), (3, .int v3), (9, .int v9), (11, .int v11)]) hx hb dX12_date_206 hl (k := 3) rfl rfl (by decide) rfl (fun ls hl => ?_)
    refine lv_iload hx hb dX12_date_209 (lv_at hl 0 rfl) ?_
    refine lv_iconst (v := (2 : Int32)) hx hb dX12_date_211 (by decide) ?_
    refine lv_icmp_ne (tgt := 233) hx hb dX12_date_212 (by decide) (fun c => ?_) (fun c => ?_)
    · replace hF := iF c hF
      refine lv_iload hx hb dX12_date_233 (lv_at hl 0 rfl) ?_
      refine lv_iconst (v := (4 : Int32)) hx hb dX12_date_235 (by decide) ?_
      refine lv_icmp_eq (tgt := 260) hx hb dX12_date_236 (by decide) (fun c => ?_) (fun c => ?_)
      · replace hF := iT c hF
        exact (k_X12_date_260 l D hT aT yT n rec IH) C X (lv_sub hl [2, 1, 3, 0] rfl) hF
      · replace hF := iF c hF
        refine lv_iload hx hb dX12_date_239 (lv_at hl 0 rfl) ?_
        refine lv_bipush (v := (6 : Int32)) hx hb dX12_date_241 (by decide) ?_
        refine lv_icmp_eq (tgt := 260) hx hb dX12_date_243 (by decide) (fun c => ?_) (fun c => ?_)
        · replace hF := iT c hF
          exact (k_X12_date_260 l D hT aT yT n rec IH) C X (lv_sub hl [2, 1, 3, 0] rfl) hF
        · replace hF := iF c hF
          refine lv_iload hx hb dX12_date_246 (lv_at hl 0 rfl) ?_
          refine lv_bipush (v := (9 : Int32)) hx hb dX12_date_248 (by decide) ?_
          refine lv_icmp_eq (tgt := 260) hx hb dX12_date_250 (by decide) (fun c => ?_) (fun c => ?_)
          · replace hF := iT c hF
            exact (k_X12_date_260 l D hT aT yT n rec IH) C X (lv_sub hl [2, 1, 3, 0] rfl) hF
          · replace hF := iF c hF
            refine lv_iload hx hb dX12_date_253 (lv_at hl 0 rfl) ?_
            refine lv_bipush (v := (11 : Int32)) hx hb dX12_date_255 (by decide) ?_
            refine lv_icmp_ne (tgt := 265) hx hb dX12_date_257 (by decide) (fun c => ?_) (fun c => ?_)
            · replace hF := iF c hF
              refine lv_bipush (v := (31 : Int32)) hx hb dX12_date_265 (by decide) ?_
              exact (k_X12_date_267 l D hT aT yT n rec IH) C X (lv_sub hl [2, 1, 3, 0] rfl) hF
            · replace hF := iT c hF
              exact (k_X12_date_260 l D hT aT yT n rec IH) C X (lv_sub hl [2, 1, 3, 0] rfl) hF
    · replace hF := iT c hF
      refine lv_iload hx hb dX12_date_215 (lv_at hl 3 rfl) ?_
      obtain ⟨q_9, hc_10, hF⟩ := bnd_some hF
      refine cS_i (As := [.int v9]) (rest := []) C X (c_X12_isLeap l D  v9 q_9 hc_10 _) (va_cwS 1 hts (good_S q10_36 q10_37 q1_9 q10_38) rfl rfl rfl (by decide +kernel) ⟨Nat.le_of_ble_eq_true rfl, Nat.le_of_ble_eq_true rfl⟩) (eK X) eP (eD (A := A)) (eF X) hl.1 rfl rfl (Nat.le_of_ble_eq_true rfl) dX12_date_217 ⟨Nat.le_of_ble_eq_true rfl, Nat.le_of_ble_eq_true rfl⟩ (fun t H1 locs1 ht hB hk hS => ?_)
      have X := Hx_after_none X hk hS
      clear hk hS ht hB
      generalize H1 = H at X ⊢
      generalize locs1 = locs at X ⊢
      refine lv_if_eq (tgt := 228) hx hb dX12_date_220 (by decide) (fun c => ?_) (fun c => ?_)
      · replace hF := iT c hF
        refine lv_bipush (v := (28 : Int32)) hx hb dX12_date_228 (by decide) ?_
        refine lv_goto (tgt := 267) hx hb dX12_date_230 (by decide) ?_
        exact (k_X12_date_267 l D hT aT yT n rec IH) C X (lv_sub hl [2, 1, 3, 0] rfl) hF
      · replace hF := iF c hF
        refine lv_bipush (v := (29 : Int32)) hx hb dX12_date_223 (by decide) ?_
        refine lv_goto (tgt := 267) hx hb dX12_date_225 (by decide) ?_
        exact (k_X12_date_267 l D hT aT yT n rec IH) C X (lv_sub hl [2, 1, 3, 0] rfl) hF
set_option maxHeartbeats 4000000 in
set_option maxRecDepth 100000 in
theorem k_X12_date_159 (l : Launch) (D : Dx) (hT : Nat) (aT : Nat → Nat) (yT : Nat → ClassId) (n : Nat) (rec : (Gs → Int32 → Int32 → Int32 → Option (Int32 × Gs)) × (Gs → Int32 → Int32 → Int32 → Int32 → Int32 → Option (Int32 × Gs))) (IH : SH_X12_date l D hT aT yT rec) : S_X12_date_159 l D hT aT yT (b_X12_date_159 n rec) := by
  intro p e s m args below meth c H locs A ls gT v3 v9 s0 s1 q C X hl hF
  obtain ⟨hx, hb, hr, hml, hown, hts, hlk⟩ := id C
  unfold b_X12_date_159 at hF
  refine lv_isub hx hb dX12_date_159 ?_
  refine lv_istore (lv' := [(8, .int (s1 - s0)), (3, .int v3), (9, .int v9)]) hx hb dX12_date_160 hl (by decide) rfl (fun ls hl => ?_)
  refine lv_iinc (v := v9 + (1 : Int32)) (lv' := [(9, .int (v9 + (1 : Int32))), (8, .int (s1 - s0)), (3, .int v3)]) hx hb dX12_date_162 hl (k := 2) rfl rfl (by decide) rfl (fun ls hl => ?_)
  refine lv_goto (tgt := 118) hx hb dX12_date_165 (by decide) ?_
  exact IH.1 C X (lv_sub hl [2, 1, 0] rfl) hF
set_option maxHeartbeats 4000000 in
set_option maxRecDepth 100000 in
theorem k_X12_date_137 (l : Launch) (D : Dx) (hT : Nat) (aT : Nat → Nat) (yT : Nat → ClassId) (n : Nat) (rec : (Gs → Int32 → Int32 → Int32 → Option (Int32 × Gs)) × (Gs → Int32 → Int32 → Int32 → Int32 → Int32 → Option (Int32 × Gs))) (IH : SH_X12_date l D hT aT yT rec) : S_X12_date_137 l D hT aT yT (b_X12_date_137 n rec) := by
  intro p e s m args below meth c H locs A ls gT v3 v8 v9 s0 s1 q C X hl hF
  obtain ⟨hx, hb, hr, hml, hown, hts, hlk⟩ := id C
  unfold b_X12_date_137 at hF
  refine lv_icmp_lt (tgt := 168) hx hb dX12_date_137 (by decide) (fun c => ?_) (fun c => ?_)
  · replace hF := iT c hF
    refine lv_iload_n hx hb dX12_date_168 rfl (lv_at hl 0 rfl) ?_
    refine lv_if_ne (tgt := 175) hx hb dX12_date_169 (by decide) (fun c => ?_) (fun c => ?_)
    · replace hF := iF c hF
      refine lv_iload_n hx hb dX12_date_175 rfl (lv_at hl 0 rfl) ?_
      refine lv_iconst (v := (4 : Int32)) hx hb dX12_date_176 (by decide) ?_
      refine lv_icmp_ne (tgt := 185) hx hb dX12_date_177 (by decide) (fun c => ?_) (fun c => ?_)
      · replace hF := iF c hF
        refine lv_iconst (v := (1 : Int32)) hx hb dX12_date_185 (by decide) ?_
        refine lv_istore (lv' := [(10, .int (1 : Int32)), (3, .int v3), (8, .int v8), (9, .int v9)]) hx hb dX12_date_186 hl (by decide) rfl (fun ls hl => ?_)
        refine lv_bipush (v := (31 : Int32)) hx hb dX12_date_188 (by decide) ?_
        refine lv_istore (lv' := [(11, .int (31 : Int32)), (10, .int (1 : Int32)), (3, .int v3), (8, .int v8), (9, .int v9)]) hx hb dX12_date_190 hl (by decide) rfl (fun ls hl => ?_)
        exact IH.2 C X (lv_sub hl [2, 3, 4, 1, 0] rfl) hF
      · replace hF := iT c hF
        refine lv_iload hx hb dX12_date_180 (lv_at hl 1 rfl) ?_
        refine lv_iconst (v := (1 : Int32)) hx hb dX12_date_182 (by decide) ?_
        refine lv_iadd hx hb dX12_date_183 ?_
        have hq := Option.some.inj hF
        subst hq
        exact rt_i C X dX12_date_184
    · replace hF := iT c hF
      refine lv_iload hx hb dX12_date_172 (lv_at hl 2 rfl) ?_
      have hq := Option.some.inj hF
      subst hq
      exact rt_i C X dX12_date_174
  · replace hF := iF c hF
    refine lv_iload hx hb dX12_date_140 (lv_at hl 1 rfl) ?_
    refine lv_iload hx hb dX12_date_142 (lv_at hl 2 rfl) ?_
    obtain ⟨q_11, hc_12, hF⟩ := bnd_some hF
    refine cS_i (As := [.int v9]) (rest := [.int v8]) C X (c_X12_isLeap l D  v9 q_11 hc_12 _) (va_cwS 1 hts (good_S q10_36 q10_37 q1_9 q10_38) rfl rfl rfl (by decide +kernel) ⟨Nat.le_of_ble_eq_true rfl, Nat.le_of_ble_eq_true rfl⟩) (eK X) eP (eD (A := A)) (eF X) hl.1 rfl rfl (Nat.le_of_ble_eq_true rfl) dX12_date_144 ⟨Nat.le_of_ble_eq_true rfl, Nat.le_of_ble_eq_true rfl⟩ (fun t H1 locs1 ht hB hk hS => ?_)
    have X := Hx_after_none X hk hS
    clear hk hS ht hB
    generalize H1 = H at X ⊢
    generalize locs1 = locs at X ⊢
    refine lv_if_eq (tgt := 156) hx hb dX12_date_147 (by decide) (fun c => ?_) (fun c => ?_)
    · replace hF := iT c hF
      refine lv_sipush (v := (365 : Int32)) hx hb dX12_date_156 (by decide) ?_
      exact (k_X12_date_159 l D hT aT yT n rec IH) C X (lv_sub hl [0, 2] rfl) hF
    · replace hF := iF c hF
      refine lv_sipush (v := (366 : Int32)) hx hb dX12_date_150 (by decide) ?_
      refine lv_goto (tgt := 159) hx hb dX12_date_153 (by decide) ?_
      exact (k_X12_date_159 l D hT aT yT n rec IH) C X (lv_sub hl [0, 2] rfl) hF
set_option maxHeartbeats 4000000 in
set_option maxRecDepth 100000 in
theorem k_X12_date_118 (l : Launch) (D : Dx) (hT : Nat) (aT : Nat → Nat) (yT : Nat → ClassId) (n : Nat) (rec : (Gs → Int32 → Int32 → Int32 → Option (Int32 × Gs)) × (Gs → Int32 → Int32 → Int32 → Int32 → Int32 → Option (Int32 × Gs))) (IH : SH_X12_date l D hT aT yT rec) : S_X12_date_118 l D hT aT yT (h_X12_date_118 n rec) := by
  intro p e s m args below meth c H locs A ls gT v3 v8 v9 q C X hl hF
  obtain ⟨hx, hb, hr, hml, hown, hts, hlk⟩ := id C
  unfold h_X12_date_118 at hF
  refine lv_iload hx hb dX12_date_118 (lv_at hl 1 rfl) ?_
  refine lv_iload hx hb dX12_date_120 (lv_at hl 2 rfl) ?_
  obtain ⟨q_7, hc_8, hF⟩ := bnd_some hF
  refine cS_i (As := [.int v9]) (rest := [.int v8]) C X (c_X12_isLeap l D  v9 q_7 hc_8 _) (va_cwS 1 hts (good_S q10_36 q10_37 q1_9 q10_38) rfl rfl rfl (by decide +kernel) ⟨Nat.le_of_ble_eq_true rfl, Nat.le_of_ble_eq_true rfl⟩) (eK X) eP (eD (A := A)) (eF X) hl.1 rfl rfl (Nat.le_of_ble_eq_true rfl) dX12_date_122 ⟨Nat.le_of_ble_eq_true rfl, Nat.le_of_ble_eq_true rfl⟩ (fun t H1 locs1 ht hB hk hS => ?_)
  have X := Hx_after_none X hk hS
  clear hk hS ht hB
  generalize H1 = H at X ⊢
  generalize locs1 = locs at X ⊢
  refine lv_if_eq (tgt := 134) hx hb dX12_date_125 (by decide) (fun c => ?_) (fun c => ?_)
  · replace hF := iT c hF
    refine lv_sipush (v := (365 : Int32)) hx hb dX12_date_134 (by decide) ?_
    exact (k_X12_date_137 l D hT aT yT n rec IH) C X (lv_sub hl [0, 1, 2] rfl) hF
  · replace hF := iF c hF
    refine lv_sipush (v := (366 : Int32)) hx hb dX12_date_128 (by decide) ?_
    refine lv_goto (tgt := 137) hx hb dX12_date_131 (by decide) ?_
    exact (k_X12_date_137 l D hT aT yT n rec IH) C X (lv_sub hl [0, 1, 2] rfl) hF
theorem kL_X12_date (l : Launch) (D : Dx) (hT : Nat) (aT : Nat → Nat) (yT : Nat → ClassId) (n : Nat) : ∀ k, SH_X12_date l D hT aT yT (L_X12_date n k)
  | 0 => ⟨(fun _ _ _ h => by cases h), (fun _ _ _ h => by cases h)⟩
  | k + 1 => ⟨k_X12_date_118 l D hT aT yT n _ (kL_X12_date l D hT aT yT n k), k_X12_date_192 l D hT aT yT n _ (kL_X12_date l D hT aT yT n k)⟩
set_option maxHeartbeats 4000000 in
set_option maxRecDepth 100000 in
theorem c_X12_date (l : Launch) (D : Dx) (hT : Nat) (aT : Nat → Nat) (yT : Nat → ClassId) (n : Nat) (gT : Gs) (x0 : Int64) (x1 : Int32) (q : Int32 × Gs) (hF : f_X12_date n gT x0 x1 = some q) (sz : Nat) : Met l yX12_date (ws_ yX12_date cX12_date 12 (some .int)) R_X12_date (PC D (tX12 yT) [.ref hT, .long x0, .int x1] (wX12 hT aT yT gT) sz) (QI D (va_A (wX12 hT aT yT gT) sz) (wX12 hT aT yT q.2) q.1) 0 0 (va_A (wX12 hT aT yT gT) sz) := by
  refine Met.ofW (cc := cX12_date) (maxL := 12) (ret := (some .int)) (by decide) rfl ?_
  intro p e s m args below meth c s₁ B hml hv
  obtain ⟨rfl, hsz, hP, hK, hD, hN⟩ := hv
  subst hsz
  have C : Cx p s m _ meth c cX12_date (some .int) 12 RX12 lw_all := Cx_of B hml
  have X := Hx_start hP hK hD hN
  obtain ⟨hx, hb, hr, -, hown, hts, hlk⟩ := id C
  generalize va_A (wX12 hT aT yT gT) s.heap.size = A at X ⊢
  have hl := lv_entry ([.ref hT, .long x0, .int x1]) (n := 12) (Nat.le_of_ble_eq_true rfl)
  rw [lg_entry_eq]
  generalize (lg_sl ([.ref hT, .long x0, .int x1]) ++ List.replicate (12 - (lg_sl ([.ref hT, .long x0, .int x1])).length) Slot.unset).toArray = ls at hl ⊢
  have hl : lv_has ls 12 [(0, .ref hT), (1, .long x0), (3, .int x1)] := hl
  unfold f_X12_date at hF
  refine lv_iload_n hx hb dX12_date_0 rfl (lv_at hl 2 rfl) ?_
  refine lv_if_lt (tgt := 16) hx hb dX12_date_1 (by decide) (fun c => ?_) (fun c => ?_)
  · replace hF := iT c hF
    refine lv_ldcw hx hb hown (hts _ q10_29) dX12_date_16 ?_
    have hq := Option.some.inj hF
    subst hq
    exact rt_i C X dX12_date_19
  · replace hF := iF c hF
    refine lv_iload_n hx hb dX12_date_4 rfl (lv_at hl 2 rfl) ?_
    refine lv_iconst (v := (4 : Int32)) hx hb dX12_date_5 (by decide) ?_
    refine lv_icmp_gt (tgt := 16) hx hb dX12_date_6 (by decide) (fun c => ?_) (fun c => ?_)
    · replace hF := iT c hF
      refine lv_ldcw hx hb hown (hts _ q10_29) dX12_date_16 ?_
      have hq := Option.some.inj hF
      subst hq
      exact rt_i C X dX12_date_19
    · replace hF := iF c hF
      refine lv_lload_n hx hb dX12_date_9 rfl (lv_at hl 1 rfl) ?_
      obtain ⟨q_1, hc_2, hF⟩ := bnd_some hF
      refine cS_i (As := [.long x0]) (rest := []) C X (c_X12_isFinite l D  x0 q_1 hc_2 _) (va_cwS 1 hts (good_S q9_121 q9_122 q1_9 q9_123) rfl rfl rfl (by decide +kernel) ⟨Nat.le_of_ble_eq_true rfl, Nat.le_of_ble_eq_true rfl⟩) (eK X) eP (eD (A := A)) (eF X) hl.1 rfl rfl (Nat.le_of_ble_eq_true rfl) dX12_date_10 ⟨Nat.le_of_ble_eq_true rfl, Nat.le_of_ble_eq_true rfl⟩ (fun t H1 locs1 ht hB hk hS => ?_)
      have X := Hx_after_none X hk hS
      clear hk hS ht hB
      generalize H1 = H at X ⊢
      generalize locs1 = locs at X ⊢
      refine lv_if_ne (tgt := 20) hx hb dX12_date_13 (by decide) (fun c => ?_) (fun c => ?_)
      · replace hF := iF c hF
        refine lv_aload_n hx hb dX12_date_20 rfl (lv_at hl 0 rfl) ?_
        refine lv_aload_n hx hb dX12_date_21 rfl (lv_at hl 0 rfl) ?_
        refine lv_lload_n hx hb dX12_date_22 rfl (lv_at hl 1 rfl) ?_
        refine lv_iconst (v := (0 : Int32)) hx hb dX12_date_23 (by decide) ?_
        obtain ⟨q_3, hc_4, hF⟩ := bnd_some hF
        refine cV_l (As := [.long x0, .int (0 : Int32)]) (rest := [.ref hT]) C X (c_X12_evened l D hT aT yT n gT x0 (0 : Int32) q_3 hc_4 _) (cwV 2 hts (good_V q9_134 q9_136 q0_120 q1_9 q9_137) rfl rfl rfl (by decide +kernel) ⟨Nat.le_of_ble_eq_true rfl, Nat.le_of_ble_eq_true rfl⟩) (va_recv X.1 X.2.1 (ci := 12) (q0 := 0) rfl rfl) X.1 X.2.1 X.2.2.1 (free_all X) hl.1 rfl rfl (Nat.le_of_ble_eq_true rfl) dX12_date_24 ⟨Nat.le_of_ble_eq_true rfl, Nat.le_of_ble_eq_true rfl⟩ (fun t H1 locs1 ht hB hk hS => ?_)
        have X : Hx D (tX12 yT) A s H1 locs1 (wX12 hT aT yT q_3.2) := Hx_after_all X ht hB hS
        clear hk hS ht hB
        generalize H1 = H at X ⊢
        generalize locs1 = locs at X ⊢
        refine lv_bipush (v := (7 : Int32)) hx hb dX12_date_27 (by decide) ?_
        refine lv_iconst (v := (5 : Int32)) hx hb dX12_date_29 (by decide) ?_
        obtain ⟨q_5, hc_6, hF⟩ := bnd_some hF
        refine cV_l (As := [.long q_3.1, .int (7 : Int32), .int (5 : Int32)]) (rest := []) C X (c_X12_towards l D hT aT yT n q_3.2 q_3.1 (7 : Int32) (5 : Int32) q_5 hc_6 _) (cwV 3 hts (good_V q8_154 q8_156 q0_74 q1_9 q8_157) rfl rfl rfl (by decide +kernel) ⟨Nat.le_of_ble_eq_true rfl, Nat.le_of_ble_eq_true rfl⟩) (va_recv X.1 X.2.1 (ci := 12) (q0 := 0) rfl rfl) X.1 X.2.1 X.2.2.1 (free_all X) hl.1 rfl rfl (Nat.le_of_ble_eq_true rfl) dX12_date_30 ⟨Nat.le_of_ble_eq_true rfl, Nat.le_of_ble_eq_true rfl⟩ (fun t H1 locs1 ht hB hk hS => ?_)
        have X : Hx D (tX12 yT) A s H1 locs1 (wX12 hT aT yT q_5.2) := Hx_after_all X ht hB hS
        clear hk hS ht hB
        generalize H1 = H at X ⊢
        generalize locs1 = locs at X ⊢
        refine lv_lstore (lv' := [(4, .long q_5.1), (0, .ref hT), (1, .long x0), (3, .int x1)]) hx hb dX12_date_33 hl (by decide) rfl (fun ls hl => ?_)
        refine lv_lload hx hb dX12_date_35 (lv_at hl 0 rfl) ?_
        refine lv_ldc2 hx hb hown (hts _ q10_30) dX12_date_37 ?_
        refine W.lcmp hx hb dX12_date_40 ?_
        refine lv_if_lt (tgt := 53) hx hb dX12_date_41 (by decide) (fun c => ?_) (fun c => ?_)
        · have c := (lg_cmp_lt _ _).mp c
          replace hF := iT c hF
          refine lv_ldcw hx hb hown (hts _ q10_29) dX12_date_53 ?_
          have hq := Option.some.inj hF
          subst hq
          exact rt_i C X dX12_date_56
        · have c := fun h => c ((lg_cmp_lt _ _).mpr h)
          replace hF := iF c hF
          refine lv_lload hx hb dX12_date_44 (lv_at hl 0 rfl) ?_
          refine lv_ldc2 hx hb hown (hts _ q10_31) dX12_date_46 ?_
          refine W.lcmp hx hb dX12_date_49 ?_
          refine lv_if_le (tgt := 57) hx hb dX12_date_50 (by decide) (fun c => ?_) (fun c => ?_)
          · have c := (lg_cmp_le _ _).mp c
            replace hF := iT c hF
            refine lv_lload hx hb dX12_date_57 (lv_at hl 0 rfl) ?_
            refine lv_l2i hx hb dX12_date_59 rfl ?_
            refine lv_ldcw hx hb hown (hts _ q10_32) dX12_date_60 ?_
            refine lv_iadd hx hb dX12_date_63 ?_
            refine lv_ldcw hx hb hown (hts _ q10_33) dX12_date_64 ?_
            refine lv_iadd hx hb dX12_date_67 ?_
            refine lv_istore (lv' := [(6, .int ((q_5.1.toInt32 + (719162 : Int32)) + (102267900 : Int32))), (4, .long q_5.1), (0, .ref hT), (1, .long x0), (3, .int x1)]) hx hb dX12_date_68 hl (by decide) rfl (fun ls hl => ?_)
            refine lv_iload_n hx hb dX12_date_70 rfl (lv_at hl 4 rfl) ?_
            refine lv_iconst (v := (3 : Int32)) hx hb dX12_date_71 (by decide) ?_
            refine lv_icmp_ne (tgt := 88) hx hb dX12_date_72 (by decide) (fun c => ?_) (fun c => ?_)
            · replace hF := iF c hF
              refine lv_iload hx hb dX12_date_88 (lv_at hl 0 rfl) ?_
              refine lv_ldcw hx hb hown (hts _ q10_34) dX12_date_90 ?_
              refine lv_idiv hx hb dX12_date_93 (by decide) ?_
              refine lv_istore (lv' := [(7, .int (((q_5.1.toInt32 + (719162 : Int32)) + (102267900 : Int32)) / (146097 : Int32))), (6, .int ((q_5.1.toInt32 + (719162 : Int32)) + (102267900 : Int32))), (4, .long q_5.1), (0, .ref hT), (1, .long x0), (3, .int x1)]) hx hb dX12_date_94 hl (by decide) rfl (fun ls hl => ?_)
              refine lv_iload hx hb dX12_date_96 (lv_at hl 1 rfl) ?_
              refine lv_ldcw hx hb hown (hts _ q10_34) dX12_date_98 ?_
              refine lv_irem hx hb dX12_date_101 (by decide) ?_
              refine lv_istore (lv' := [(8, .int (((q_5.1.toInt32 + (719162 : Int32)) + (102267900 : Int32)) - ((q_5.1.toInt32 + (719162 : Int32)) + (102267900 : Int32)) / (146097 : Int32) * (146097 : Int32))), (7, .int (((q_5.1.toInt32 + (719162 : Int32)) + (102267900 : Int32)) / (146097 : Int32))), (6, .int ((q_5.1.toInt32 + (719162 : Int32)) + (102267900 : Int32))), (4, .long q_5.1), (0, .ref hT), (1, .long x0), (3, .int x1)]) hx hb dX12_date_102 hl (by decide) rfl (fun ls hl => ?_)
              refine lv_sipush (v := (400 : Int32)) hx hb dX12_date_104 (by decide) ?_
              refine lv_iload hx hb dX12_date_107 (lv_at hl 1 rfl) ?_
              refine lv_imul hx hb dX12_date_109 ?_
              refine lv_ldcw hx hb hown (hts _ q10_35) dX12_date_110 ?_
              refine lv_isub hx hb dX12_date_113 ?_
              refine lv_iconst (v := (1 : Int32)) hx hb dX12_date_114 (by decide) ?_
              refine lv_iadd hx hb dX12_date_115 ?_
              refine lv_istore (lv' := [(9, .int ((((400 : Int32) * (((q_5.1.toInt32 + (719162 : Int32)) + (102267900 : Int32)) / (146097 : Int32))) - (280000 : Int32)) + (1 : Int32))), (8, .int (((q_5.1.toInt32 + (719162 : Int32)) + (102267900 : Int32)) - ((q_5.1.toInt32 + (719162 : Int32)) + (102267900 : Int32)) / (146097 : Int32) * (146097 : Int32))), (7, .int (((q_5.1.toInt32 + (719162 : Int32)) + (102267900 : Int32)) / (146097 : Int32))), (6, .int ((q_5.1.toInt32 + (719162 : Int32)) + (102267900 : Int32))), (4, .long q_5.1), (0, .ref hT), (1, .long x0), (3, .int x1)]) hx hb dX12_date_116 hl (by decide) rfl (fun ls hl => ?_)
              exact (kL_X12_date l D hT aT yT n n).1 C X (lv_sub hl [7, 1, 0] rfl) hF
            · replace hF := iT c hF
              refine lv_lload hx hb dX12_date_75 (lv_at hl 1 rfl) ?_
              refine lv_l2i hx hb dX12_date_77 rfl ?_
              refine lv_bipush (v := (7 : Int32)) hx hb dX12_date_78 (by decide) ?_
              refine lv_irem hx hb dX12_date_80 (by decide) ?_
              refine lv_bipush (v := (10 : Int32)) hx hb dX12_date_81 (by decide) ?_
              refine lv_iadd hx hb dX12_date_83 ?_
              refine lv_bipush (v := (7 : Int32)) hx hb dX12_date_84 (by decide) ?_
              refine lv_irem hx hb dX12_date_86 (by decide) ?_
              have hq := Option.some.inj hF
              subst hq
              exact rt_i C X dX12_date_87
          · have c := fun h => c ((lg_cmp_le _ _).mpr h)
            replace hF := iF c hF
            refine lv_ldcw hx hb hown (hts _ q10_29) dX12_date_53 ?_
            have hq := Option.some.inj hF
            subst hq
            exact rt_i C X dX12_date_56
      · replace hF := iT c hF
        refine lv_ldcw hx hb hown (hts _ q10_29) dX12_date_16 ?_
        have hq := Option.some.inj hF
        subst hq
        exact rt_i C X dX12_date_19
