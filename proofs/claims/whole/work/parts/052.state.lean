abbrev wAJ40 (h : Nat) (_ : Nat → Nat) (y : Nat → ClassId) (g : Gs) : va_W := [(h, .inl (y 0, 40, .inr (.inl (gLA g 0))))]
abbrev tAJ40 (y : Nat → ClassId) : List (ClassId × FieldType) := [(y 0, .long)]
abbrev wAD40 (h : Nat) (_ : Nat → Nat) (y : Nat → ClassId) (g : Gs) : va_W := [(h, .inl (y 0, 40, .inr (.inr (.inr (.inl (gDA g 0))))))]
abbrev tAD40 (y : Nat → ClassId) : List (ClassId × FieldType) := [(y 0, .double)]
abbrev wAI52 (h : Nat) (_ : Nat → Nat) (y : Nat → ClassId) (g : Gs) : va_W := [(h, .inl (y 0, 52, .inl (gIA g 0)))]
abbrev tAI52 (y : Nat → ClassId) : List (ClassId × FieldType) := [(y 0, .int)]
abbrev wAI12 (h : Nat) (_ : Nat → Nat) (y : Nat → ClassId) (g : Gs) : va_W := [(h, .inl (y 0, 12, .inl (gIA g 0)))]
abbrev tAI12 (y : Nat → ClassId) : List (ClassId × FieldType) := [(y 0, .int)]
def kdX9 (k : Nat) : Nat := ([3, 3, 3, 3, 3, 3, 3, 3, 3, 3, 3, 3, 0, 0, 1, 2, 0] : List Nat).getD k 9
def ksX9 : List Nat := [0, 1, 2, 3, 4, 5, 6, 7, 8, 9, 10, 11]
def akX9 (k : Nat) : Nat := ([1, 2, 1, 2, 1, 2, 0, 0, 0, 0, 1, 0, 9, 9, 9, 9, 9] : List Nat).getD k 9
def lnX9 (k : Nat) : Nat := ([40, 40, 40, 40, 1280, 1280, 52, 52, 52, 12, 64, 64, 0, 0, 0, 0, 0] : List Nat).getD k 0
def tkX9 (k : Nat) : FieldType := ([.long, .double, .long, .double, .long, .double, .int, .int, .int, .int, .long, .int, .int, .int, .int, .int, .int] : List FieldType).getD k .int
abbrev wX9 (h : Nat) (a : Nat → Nat) (y : Nat → ClassId) (g : Gs) : va_W := wG 9 17 kdX9 ksX9 akX9 lnX9 h a y g
abbrev tX9 (y : Nat → ClassId) : List (ClassId × FieldType) := tG ksX9 tkX9 y
theorem ndX9 : va_nd ksX9 = true := by decide
theorem wi_X9 : ∀ w ∈ u_ws RX9 TX9 17, w ∈ lw_all := wi_all (wi_eq rfl (wi_ch tc_1 [93, 95, 97, 99, 101, 103, 105, 107, 109, 111, 113, 115, 117, 119, 121, 123, 125]))
theorem q1_53 : Cond.fieldLink RX9 9 "TurningHall$State" "whole" "[J" ∈ lw_all := lw_in (tc_1 (List.mem_of_getElem? (i := 53) rfl)) rfl
theorem q5_19 : Cond.methodLink RX9 68 yJ7_fill_d0a16 ∈ lw_all := lw_in (tc_5 (List.mem_of_getElem? (i := 19) rfl)) rfl
theorem q5_20 : Cond.static yJ7_fill_d0a16 ∈ lw_all := lw_in (tc_5 (List.mem_of_getElem? (i := 20) rfl)) rfl
theorem q1_21 : Cond.initialized RJ7 ∈ lw_all := lw_in (tc_1 (List.mem_of_getElem? (i := 21) rfl)) rfl
theorem q5_21 : Cond.code yJ7_fill_d0a16 cJ7_fill_d0a16 5 none ∈ lw_all := lw_in (tc_5 (List.mem_of_getElem? (i := 21) rfl)) rfl
theorem q1_56 : Cond.fieldLink RX9 15 "TurningHall$State" "real" "[D" ∈ lw_all := lw_in (tc_1 (List.mem_of_getElem? (i := 56) rfl)) rfl
theorem q5_22 : Cond.methodLink RX9 74 yJ7_fill_7f8df ∈ lw_all := lw_in (tc_5 (List.mem_of_getElem? (i := 22) rfl)) rfl
theorem q5_23 : Cond.static yJ7_fill_7f8df ∈ lw_all := lw_in (tc_5 (List.mem_of_getElem? (i := 23) rfl)) rfl
theorem q5_24 : Cond.code yJ7_fill_7f8df cJ7_fill_7f8df 5 none ∈ lw_all := lw_in (tc_5 (List.mem_of_getElem? (i := 24) rfl)) rfl
theorem q1_59 : Cond.fieldLink RX9 19 "TurningHall$State" "oldWhole" "[J" ∈ lw_all := lw_in (tc_1 (List.mem_of_getElem? (i := 59) rfl)) rfl
theorem q1_62 : Cond.fieldLink RX9 22 "TurningHall$State" "oldReal" "[D" ∈ lw_all := lw_in (tc_1 (List.mem_of_getElem? (i := 62) rfl)) rfl
theorem q1_69 : Cond.fieldLink RX9 31 "TurningHall$State" "jams" "[I" ∈ lw_all := lw_in (tc_1 (List.mem_of_getElem? (i := 69) rfl)) rfl
theorem q5_25 : Cond.methodLink RX9 77 yJ7_fill_53178 ∈ lw_all := lw_in (tc_5 (List.mem_of_getElem? (i := 25) rfl)) rfl
theorem q5_26 : Cond.static yJ7_fill_53178 ∈ lw_all := lw_in (tc_5 (List.mem_of_getElem? (i := 26) rfl)) rfl
theorem q5_27 : Cond.code yJ7_fill_53178 cJ7_fill_53178 4 none ∈ lw_all := lw_in (tc_5 (List.mem_of_getElem? (i := 27) rfl)) rfl
theorem q1_71 : Cond.fieldLink RX9 35 "TurningHall$State" "jamKind" "[I" ∈ lw_all := lw_in (tc_1 (List.mem_of_getElem? (i := 71) rfl)) rfl
theorem q1_73 : Cond.fieldLink RX9 38 "TurningHall$State" "jamPlace" "[I" ∈ lw_all := lw_in (tc_1 (List.mem_of_getElem? (i := 73) rfl)) rfl
theorem q1_75 : Cond.fieldLink RX9 41 "TurningHall$State" "counts" "[I" ∈ lw_all := lw_in (tc_1 (List.mem_of_getElem? (i := 75) rfl)) rfl
theorem q1_81 : Cond.fieldLink RX9 50 "TurningHall$State" "strikes" "I" ∈ lw_all := lw_in (tc_1 (List.mem_of_getElem? (i := 81) rfl)) rfl
theorem q1_83 : Cond.fieldLink RX9 54 "TurningHall$State" "nextStrike" "I" ∈ lw_all := lw_in (tc_1 (List.mem_of_getElem? (i := 83) rfl)) rfl
theorem q1_85 : Cond.fieldLink RX9 57 "TurningHall$State" "ticks" "J" ∈ lw_all := lw_in (tc_1 (List.mem_of_getElem? (i := 85) rfl)) rfl
theorem q6_1 : Cond.methodLink RX9 80 arraycopyName ∈ lw_all := lw_in (tc_6 (List.mem_of_getElem? (i := 1) rfl)) rfl
theorem q4_77 : Cond.native arraycopyName ∈ lw_all := lw_in (tc_4 (List.mem_of_getElem? (i := 77) rfl)) rfl
theorem q4_76 : Cond.static arraycopyName ∈ lw_all := lw_in (tc_4 (List.mem_of_getElem? (i := 76) rfl)) rfl
theorem q1_20 : Cond.initialized "java/lang/System" ∈ lw_all := lw_in (tc_1 (List.mem_of_getElem? (i := 20) rfl)) rfl
theorem q1_65 : Cond.fieldLink RX9 25 "TurningHall$State" "pastWhole" "[J" ∈ lw_all := lw_in (tc_1 (List.mem_of_getElem? (i := 65) rfl)) rfl
theorem q1_67 : Cond.fieldLink RX9 28 "TurningHall$State" "pastReal" "[D" ∈ lw_all := lw_in (tc_1 (List.mem_of_getElem? (i := 67) rfl)) rfl
theorem q1_77 : Cond.fieldLink RX9 44 "TurningHall$State" "strikeTick" "[J" ∈ lw_all := lw_in (tc_1 (List.mem_of_getElem? (i := 77) rfl)) rfl
theorem q1_79 : Cond.fieldLink RX9 47 "TurningHall$State" "strikeBell" "[I" ∈ lw_all := lw_in (tc_1 (List.mem_of_getElem? (i := 79) rfl)) rfl
theorem q1_88 : Cond.fieldLink RX9 61 "TurningHall$State" "step" "D" ∈ lw_all := lw_in (tc_1 (List.mem_of_getElem? (i := 88) rfl)) rfl
theorem q1_91 : Cond.fieldLink RX9 65 "TurningHall$State" "planNumber" "I" ∈ lw_all := lw_in (tc_1 (List.mem_of_getElem? (i := 91) rfl)) rfl
theorem q5_199 : Cond.constantLong RX9 86 (31) ∈ lw_all := lw_in (tc_5 (List.mem_of_getElem? (i := 199) rfl)) rfl
theorem q6_0 : Cond.methodLink RX9 88 yX9_pastRow ∈ lw_all := lw_in (tc_6 (List.mem_of_getElem? (i := 0) rfl)) rfl
theorem q5_196 : Cond.instanceMethod yX9_pastRow ∈ lw_all := lw_in (tc_5 (List.mem_of_getElem? (i := 196) rfl)) rfl
theorem q5_197 : Cond.selects RX9 yX9_pastRow yX9_pastRow ∈ lw_all := lw_in (tc_5 (List.mem_of_getElem? (i := 197) rfl)) rfl
theorem q1_3 : Cond.initialized RX9 ∈ lw_all := lw_in (tc_1 (List.mem_of_getElem? (i := 3) rfl)) rfl
theorem q5_198 : Cond.code yX9_pastRow cX9_pastRow 2 (some .int) ∈ lw_all := lw_in (tc_5 (List.mem_of_getElem? (i := 198) rfl)) rfl
theorem q5_148 : Cond.constant RX9 92 (2147483647) ∈ lw_all := lw_in (tc_5 (List.mem_of_getElem? (i := 148) rfl)) rfl
theorem q6_6 : Cond.methodLink RX9 93 Lib.Math.min.name ∈ lw_all := lw_in (tc_6 (List.mem_of_getElem? (i := 6) rfl)) rfl
/-! ### J7_fill_d0a16__AJ40 -/
theorem dJ7_fill_d0a16_0 : decode cJ7_fill_d0a16 0 = .ok (.iconst 0, 1) := by decide +kernel
theorem dJ7_fill_d0a16_1 : decode cJ7_fill_d0a16 1 = .ok (.istore_n 3, 1) := by decide +kernel
theorem dJ7_fill_d0a16_2 : decode cJ7_fill_d0a16 2 = .ok (.aload_n 0, 1) := by decide +kernel
theorem dJ7_fill_d0a16_3 : decode cJ7_fill_d0a16 3 = .ok (.arraylength, 1) := by decide +kernel
theorem dJ7_fill_d0a16_4 : decode cJ7_fill_d0a16 4 = .ok (.istore 4, 2) := by decide +kernel
theorem dJ7_fill_d0a16_6 : decode cJ7_fill_d0a16 6 = .ok (.iload_n 3, 1) := by decide +kernel
theorem dJ7_fill_d0a16_7 : decode cJ7_fill_d0a16 7 = .ok (.iload 4, 2) := by decide +kernel
theorem dJ7_fill_d0a16_9 : decode cJ7_fill_d0a16 9 = .ok (.if_icmp .ge 13, 3) := by decide +kernel
theorem dJ7_fill_d0a16_12 : decode cJ7_fill_d0a16 12 = .ok (.aload_n 0, 1) := by decide +kernel
theorem dJ7_fill_d0a16_13 : decode cJ7_fill_d0a16 13 = .ok (.iload_n 3, 1) := by decide +kernel
theorem dJ7_fill_d0a16_14 : decode cJ7_fill_d0a16 14 = .ok (.lload_n 1, 1) := by decide +kernel
theorem dJ7_fill_d0a16_15 : decode cJ7_fill_d0a16 15 = .ok (.lastore, 1) := by decide +kernel
theorem dJ7_fill_d0a16_16 : decode cJ7_fill_d0a16 16 = .ok (.iinc 3 1, 3) := by decide +kernel
theorem dJ7_fill_d0a16_19 : decode cJ7_fill_d0a16 19 = .ok (.goto (-13), 3) := by decide +kernel
theorem dJ7_fill_d0a16_22 : decode cJ7_fill_d0a16 22 = .ok (.return_, 1) := by decide +kernel
abbrev R_J7_fill_d0a16__AJ40 : Room := ({ frames := 0, cells := 0, slots := 0, locals := 0 } : Room)
def h_J7_fill_d0a16__AJ40_6 (n : Nat) (rec : (Gs → Int64 → Int32 → Int32 → Option (Gs))) (gP0 : Gs) (v1 : Int64) (v3 : Int32) (v4 : Int32) : Option (Gs) :=
  if v4 ≤ v3 then (some gP0) else (grd (inB v3 40) (rec (sLA gP0 0 (vp_updL (gLA gP0 0) v3.toNatClampNeg v1)) v1 (v3 + (1 : Int32)) v4))
def L_J7_fill_d0a16__AJ40 (n : Nat) : Nat → (Gs → Int64 → Int32 → Int32 → Option (Gs))
  | 0 => ((fun _ _ _ _ => none))
  | k + 1 => (h_J7_fill_d0a16__AJ40_6 n (L_J7_fill_d0a16__AJ40 n k))
def f_J7_fill_d0a16__AJ40 (n : Nat) (gP0 : Gs) (x1 : Int64) : Option (Gs) :=
  (L_J7_fill_d0a16__AJ40 n n) gP0 x1 (0 : Int32) (40 : Int32)
def S_J7_fill_d0a16__AJ40_6 (l : Launch) (D : Dx) (hP0 : Nat) (aP0 : Nat → Nat) (yP0 : Nat → ClassId) (fn : Gs → Int64 → Int32 → Int32 → Option (Gs)) : Prop :=
  ∀ {p : Program} {e : Env} {s : State} {m : MethodId} {args : Array Value} {below : List Frame} {meth : Method} {c : Code} {H : Heap} {locs : List Loc} {A : Nat → Prop} {ls : Array Slot} {gP0 : Gs} {v1 : Int64} {v3 : Int32} {v4 : Int32} {q : Gs}, Cx p s m args meth c cJ7_fill_d0a16 none 5 RJ7 lw_all → Hx D (tAJ40 yP0) A s H locs (wAJ40 hP0 aP0 yP0 gP0) → lv_has ls 5 [(0, .ref hP0), (1, .long v1), (3, .int v3), (4, .int v4)] → fn gP0 v1 v3 v4 = some q → W p l e R_J7_fill_d0a16__AJ40 s m args below meth c H locs 0 0 (MQ below (QV D A (wAJ40 hP0 aP0 yP0 q)) args s 0 0 A) (F0 m 6 ls [])
def SH_J7_fill_d0a16__AJ40 (l : Launch) (D : Dx) (hP0 : Nat) (aP0 : Nat → Nat) (yP0 : Nat → ClassId) (rec : (Gs → Int64 → Int32 → Int32 → Option (Gs))) : Prop := S_J7_fill_d0a16__AJ40_6 l D hP0 aP0 yP0 rec
set_option maxHeartbeats 4000000 in
set_option maxRecDepth 100000 in
theorem k_J7_fill_d0a16__AJ40_6 (l : Launch) (D : Dx) (hP0 : Nat) (aP0 : Nat → Nat) (yP0 : Nat → ClassId) (n : Nat) (rec : (Gs → Int64 → Int32 → Int32 → Option (Gs))) (IH : SH_J7_fill_d0a16__AJ40 l D hP0 aP0 yP0 rec) : S_J7_fill_d0a16__AJ40_6 l D hP0 aP0 yP0 (h_J7_fill_d0a16__AJ40_6 n rec) := by
  intro p e s m args below meth c H locs A ls gP0 v1 v3 v4 q C X hl hF
  obtain ⟨hx, hb, hr, hml, hown, hts, hlk⟩ := id C
  unfold h_J7_fill_d0a16__AJ40_6 at hF
  refine lv_iload_n hx hb dJ7_fill_d0a16_6 rfl (lv_at hl 2 rfl) ?_
  refine lv_iload hx hb dJ7_fill_d0a16_7 (lv_at hl 3 rfl) ?_
  refine lv_icmp_ge (tgt := 22) hx hb dJ7_fill_d0a16_9 (by decide) (fun c => ?_) (fun c => ?_)
  · replace hF := iT c hF
    have hq := Option.some.inj hF
    subst hq
    exact rt_v C X dJ7_fill_d0a16_22
  · replace hF := iF c hF
    refine lv_aload_n hx hb dJ7_fill_d0a16_12 rfl (lv_at hl 0 rfl) ?_
    refine lv_iload_n hx hb dJ7_fill_d0a16_13 rfl (lv_at hl 2 rfl) ?_
    refine lv_lload_n hx hb dJ7_fill_d0a16_14 rfl (lv_at hl 1 rfl) ?_
    obtain ⟨h_1, hF⟩ := grd_some hF
    refine va_last (D := D.1) (f := gLA gP0 0) hx hb X.1 X.2.1 X.2.2.1 X.2.2.2.1 0 0 rfl rfl (inB_ok h_1) dJ7_fill_d0a16_15 (fun H locs hP hD hS => ?_)
    have X : Hx D (tAJ40 yP0) A s H locs (wAJ40 hP0 aP0 yP0 (sLA gP0 0 (vp_updL (gLA gP0 0) v3.toNatClampNeg v1))) := Hx_set X (rfl) hP hD hS
    refine lv_iinc (v := v3 + (1 : Int32)) (lv' := [(3, .int (v3 + (1 : Int32))), (0, .ref hP0), (1, .long v1), (4, .int v4)]) hx hb dJ7_fill_d0a16_16 hl (k := 2) rfl rfl (by decide) rfl (fun ls hl => ?_)
    refine lv_goto (tgt := 6) hx hb dJ7_fill_d0a16_19 (by decide) ?_
    exact IH C X (lv_sub hl [1, 2, 0, 3] rfl) hF
theorem kL_J7_fill_d0a16__AJ40 (l : Launch) (D : Dx) (hP0 : Nat) (aP0 : Nat → Nat) (yP0 : Nat → ClassId) (n : Nat) : ∀ k, SH_J7_fill_d0a16__AJ40 l D hP0 aP0 yP0 (L_J7_fill_d0a16__AJ40 n k)
  | 0 => fun _ _ _ h => by cases h
  | k + 1 => k_J7_fill_d0a16__AJ40_6 l D hP0 aP0 yP0 n _ (kL_J7_fill_d0a16__AJ40 l D hP0 aP0 yP0 n k)
set_option maxHeartbeats 4000000 in
set_option maxRecDepth 100000 in
theorem c_J7_fill_d0a16__AJ40 (l : Launch) (D : Dx) (hP0 : Nat) (aP0 : Nat → Nat) (yP0 : Nat → ClassId) (n : Nat) (gP0 : Gs) (x1 : Int64) (q : Gs) (hF : f_J7_fill_d0a16__AJ40 n gP0 x1 = some q) (sz : Nat) : Met l yJ7_fill_d0a16 (ws_ yJ7_fill_d0a16 cJ7_fill_d0a16 5 none) R_J7_fill_d0a16__AJ40 (PC D (tAJ40 yP0) [.ref hP0, .long x1] (wAJ40 hP0 aP0 yP0 gP0) sz) (QV D (va_A (wAJ40 hP0 aP0 yP0 gP0) sz) (wAJ40 hP0 aP0 yP0 q)) 0 0 (va_A (wAJ40 hP0 aP0 yP0 gP0) sz) := by
  refine Met.ofW (cc := cJ7_fill_d0a16) (maxL := 5) (ret := none) (by decide) rfl ?_
  intro p e s m args below meth c s₁ B hml hv
  obtain ⟨rfl, hsz, hP, hK, hD, hN⟩ := hv
  subst hsz
  have C : Cx p s m _ meth c cJ7_fill_d0a16 none 5 RJ7 lw_all := Cx_of B hml
  have X := Hx_start hP hK hD hN
  obtain ⟨hx, hb, hr, -, hown, hts, hlk⟩ := id C
  generalize va_A (wAJ40 hP0 aP0 yP0 gP0) s.heap.size = A at X ⊢
  have hl := lv_entry ([.ref hP0, .long x1]) (n := 5) (Nat.le_of_ble_eq_true rfl)
  rw [lg_entry_eq]
  generalize (lg_sl ([.ref hP0, .long x1]) ++ List.replicate (5 - (lg_sl ([.ref hP0, .long x1])).length) Slot.unset).toArray = ls at hl ⊢
  have hl : lv_has ls 5 [(0, .ref hP0), (1, .long x1)] := hl
  unfold f_J7_fill_d0a16__AJ40 at hF
  refine lv_iconst (v := (0 : Int32)) hx hb dJ7_fill_d0a16_0 (by decide) ?_
  refine lv_istore_n (lv' := [(3, .int (0 : Int32)), (0, .ref hP0), (1, .long x1)]) hx hb dJ7_fill_d0a16_1 rfl hl (by decide) rfl (fun ls hl => ?_)
  refine lv_aload_n hx hb dJ7_fill_d0a16_2 rfl (lv_at hl 1 rfl) ?_
  refine va_alen (D := D.1) (v := (40 : Int32)) hx hb X.1 X.2.1 0 0 rfl rfl rfl dJ7_fill_d0a16_3 ?_
  refine lv_istore (lv' := [(4, .int (40 : Int32)), (3, .int (0 : Int32)), (0, .ref hP0), (1, .long x1)]) hx hb dJ7_fill_d0a16_4 hl (by decide) rfl (fun ls hl => ?_)
  exact (kL_J7_fill_d0a16__AJ40 l D hP0 aP0 yP0 n n) C X (lv_sub hl [2, 3, 1, 0] rfl) hF

/-! ### J7_fill_7f8df__AD40 -/
theorem dJ7_fill_7f8df_0 : decode cJ7_fill_7f8df 0 = .ok (.iconst 0, 1) := by decide +kernel
theorem dJ7_fill_7f8df_1 : decode cJ7_fill_7f8df 1 = .ok (.istore_n 3, 1) := by decide +kernel
theorem dJ7_fill_7f8df_2 : decode cJ7_fill_7f8df 2 = .ok (.aload_n 0, 1) := by decide +kernel
theorem dJ7_fill_7f8df_3 : decode cJ7_fill_7f8df 3 = .ok (.arraylength, 1) := by decide +kernel
theorem dJ7_fill_7f8df_4 : decode cJ7_fill_7f8df 4 = .ok (.istore 4, 2) := by decide +kernel
theorem dJ7_fill_7f8df_6 : decode cJ7_fill_7f8df 6 = .ok (.iload_n 3, 1) := by decide +kernel
theorem dJ7_fill_7f8df_7 : decode cJ7_fill_7f8df 7 = .ok (.iload 4, 2) := by decide +kernel
theorem dJ7_fill_7f8df_9 : decode cJ7_fill_7f8df 9 = .ok (.if_icmp .ge 13, 3) := by decide +kernel
theorem dJ7_fill_7f8df_12 : decode cJ7_fill_7f8df 12 = .ok (.aload_n 0, 1) := by decide +kernel
theorem dJ7_fill_7f8df_13 : decode cJ7_fill_7f8df 13 = .ok (.iload_n 3, 1) := by decide +kernel
theorem dJ7_fill_7f8df_14 : decode cJ7_fill_7f8df 14 = .ok (.dload_n 1, 1) := by decide +kernel
theorem dJ7_fill_7f8df_15 : decode cJ7_fill_7f8df 15 = .ok (.dastore, 1) := by decide +kernel
theorem dJ7_fill_7f8df_16 : decode cJ7_fill_7f8df 16 = .ok (.iinc 3 1, 3) := by decide +kernel
theorem dJ7_fill_7f8df_19 : decode cJ7_fill_7f8df 19 = .ok (.goto (-13), 3) := by decide +kernel
theorem dJ7_fill_7f8df_22 : decode cJ7_fill_7f8df 22 = .ok (.return_, 1) := by decide +kernel
abbrev R_J7_fill_7f8df__AD40 : Room := ({ frames := 0, cells := 0, slots := 0, locals := 0 } : Room)
def h_J7_fill_7f8df__AD40_6 (n : Nat) (rec : (Gs → UInt64 → Int32 → Int32 → Option (Gs))) (gP0 : Gs) (v1 : UInt64) (v3 : Int32) (v4 : Int32) : Option (Gs) :=
  if v4 ≤ v3 then (some gP0) else (grd (inB v3 40) (rec (sDA gP0 0 (vf_upd (gDA gP0 0) v3.toNatClampNeg v1)) v1 (v3 + (1 : Int32)) v4))
def L_J7_fill_7f8df__AD40 (n : Nat) : Nat → (Gs → UInt64 → Int32 → Int32 → Option (Gs))
  | 0 => ((fun _ _ _ _ => none))
  | k + 1 => (h_J7_fill_7f8df__AD40_6 n (L_J7_fill_7f8df__AD40 n k))
def f_J7_fill_7f8df__AD40 (n : Nat) (gP0 : Gs) (x1 : UInt64) : Option (Gs) :=
  (L_J7_fill_7f8df__AD40 n n) gP0 x1 (0 : Int32) (40 : Int32)
def S_J7_fill_7f8df__AD40_6 (l : Launch) (D : Dx) (hP0 : Nat) (aP0 : Nat → Nat) (yP0 : Nat → ClassId) (fn : Gs → UInt64 → Int32 → Int32 → Option (Gs)) : Prop :=
  ∀ {p : Program} {e : Env} {s : State} {m : MethodId} {args : Array Value} {below : List Frame} {meth : Method} {c : Code} {H : Heap} {locs : List Loc} {A : Nat → Prop} {ls : Array Slot} {gP0 : Gs} {v1 : UInt64} {v3 : Int32} {v4 : Int32} {q : Gs}, Cx p s m args meth c cJ7_fill_7f8df none 5 RJ7 lw_all → Hx D (tAD40 yP0) A s H locs (wAD40 hP0 aP0 yP0 gP0) → lv_has ls 5 [(0, .ref hP0), (1, .double v1), (3, .int v3), (4, .int v4)] → fn gP0 v1 v3 v4 = some q → W p l e R_J7_fill_7f8df__AD40 s m args below meth c H locs 0 0 (MQ below (QV D A (wAD40 hP0 aP0 yP0 q)) args s 0 0 A) (F0 m 6 ls [])
def SH_J7_fill_7f8df__AD40 (l : Launch) (D : Dx) (hP0 : Nat) (aP0 : Nat → Nat) (yP0 : Nat → ClassId) (rec : (Gs → UInt64 → Int32 → Int32 → Option (Gs))) : Prop := S_J7_fill_7f8df__AD40_6 l D hP0 aP0 yP0 rec
set_option maxHeartbeats 4000000 in
set_option maxRecDepth 100000 in
theorem k_J7_fill_7f8df__AD40_6 (l : Launch) (D : Dx) (hP0 : Nat) (aP0 : Nat → Nat) (yP0 : Nat → ClassId) (n : Nat) (rec : (Gs → UInt64 → Int32 → Int32 → Option (Gs))) (IH : SH_J7_fill_7f8df__AD40 l D hP0 aP0 yP0 rec) : S_J7_fill_7f8df__AD40_6 l D hP0 aP0 yP0 (h_J7_fill_7f8df__AD40_6 n rec) := by
  intro p e s m args below meth c H locs A ls gP0 v1 v3 v4 q C X hl hF
  obtain ⟨hx, hb, hr, hml, hown, hts, hlk⟩ := id C
  unfold h_J7_fill_7f8df__AD40_6 at hF
  refine lv_iload_n hx hb dJ7_fill_7f8df_6 rfl (lv_at hl 2 rfl) ?_
  refine lv_iload hx hb dJ7_fill_7f8df_7 (lv_at hl 3 rfl) ?_
  refine lv_icmp_ge (tgt := 22) hx hb dJ7_fill_7f8df_9 (by decide) (fun c => ?_) (fun c => ?_)
  · replace hF := iT c hF
    have hq := Option.some.inj hF
    subst hq
    exact rt_v C X dJ7_fill_7f8df_22
  · replace hF := iF c hF
    refine lv_aload_n hx hb dJ7_fill_7f8df_12 rfl (lv_at hl 0 rfl) ?_
    refine lv_iload_n hx hb dJ7_fill_7f8df_13 rfl (lv_at hl 2 rfl) ?_
    refine lv_dload_n hx hb dJ7_fill_7f8df_14 rfl (lv_at hl 1 rfl) ?_
    obtain ⟨h_1, hF⟩ := grd_some hF
    refine va_dast (D := D.1) (f := gDA gP0 0) hx hb X.1 X.2.1 X.2.2.1 X.2.2.2.1 0 0 rfl rfl (inB_ok h_1) dJ7_fill_7f8df_15 (fun H locs hP hD hS => ?_)
    have X : Hx D (tAD40 yP0) A s H locs (wAD40 hP0 aP0 yP0 (sDA gP0 0 (vf_upd (gDA gP0 0) v3.toNatClampNeg v1))) := Hx_set X (rfl) hP hD hS
    refine lv_iinc (v := v3 + (1 : Int32)) (lv' := [(3, .int (v3 + (1 : Int32))), (0, .ref hP0), (1, .double v1), (4, .int v4)]) hx hb dJ7_fill_7f8df_16 hl (k := 2) rfl rfl (by decide) rfl (fun ls hl => ?_)
    refine lv_goto (tgt := 6) hx hb dJ7_fill_7f8df_19 (by decide) ?_
    exact IH C X (lv_sub hl [1, 2, 0, 3] rfl) hF
theorem kL_J7_fill_7f8df__AD40 (l : Launch) (D : Dx) (hP0 : Nat) (aP0 : Nat → Nat) (yP0 : Nat → ClassId) (n : Nat) : ∀ k, SH_J7_fill_7f8df__AD40 l D hP0 aP0 yP0 (L_J7_fill_7f8df__AD40 n k)
  | 0 => fun _ _ _ h => by cases h
  | k + 1 => k_J7_fill_7f8df__AD40_6 l D hP0 aP0 yP0 n _ (kL_J7_fill_7f8df__AD40 l D hP0 aP0 yP0 n k)
set_option maxHeartbeats 4000000 in
set_option maxRecDepth 100000 in
theorem c_J7_fill_7f8df__AD40 (l : Launch) (D : Dx) (hP0 : Nat) (aP0 : Nat → Nat) (yP0 : Nat → ClassId) (n : Nat) (gP0 : Gs) (x1 : UInt64) (q : Gs) (hF : f_J7_fill_7f8df__AD40 n gP0 x1 = some q) (sz : Nat) : Met l yJ7_fill_7f8df (ws_ yJ7_fill_7f8df cJ7_fill_7f8df 5 none) R_J7_fill_7f8df__AD40 (PC D (tAD40 yP0) [.ref hP0, .double x1] (wAD40 hP0 aP0 yP0 gP0) sz) (QV D (va_A (wAD40 hP0 aP0 yP0 gP0) sz) (wAD40 hP0 aP0 yP0 q)) 0 0 (va_A (wAD40 hP0 aP0 yP0 gP0) sz) := by
  refine Met.ofW (cc := cJ7_fill_7f8df) (maxL := 5) (ret := none) (by decide) rfl ?_
  intro p e s m args below meth c s₁ B hml hv
  obtain ⟨rfl, hsz, hP, hK, hD, hN⟩ := hv
  subst hsz
  have C : Cx p s m _ meth c cJ7_fill_7f8df none 5 RJ7 lw_all := Cx_of B hml
  have X := Hx_start hP hK hD hN
  obtain ⟨hx, hb, hr, -, hown, hts, hlk⟩ := id C
  generalize va_A (wAD40 hP0 aP0 yP0 gP0) s.heap.size = A at X ⊢
  have hl := lv_entry ([.ref hP0, .double x1]) (n := 5) (Nat.le_of_ble_eq_true rfl)
  rw [lg_entry_eq]
  generalize (lg_sl ([.ref hP0, .double x1]) ++ List.replicate (5 - (lg_sl ([.ref hP0, .double x1])).length) Slot.unset).toArray = ls at hl ⊢
  have hl : lv_has ls 5 [(0, .ref hP0), (1, .double x1)] := hl
  unfold f_J7_fill_7f8df__AD40 at hF
  refine lv_iconst (v := (0 : Int32)) hx hb dJ7_fill_7f8df_0 (by decide) ?_
  refine lv_istore_n (lv' := [(3, .int (0 : Int32)), (0, .ref hP0), (1, .double x1)]) hx hb dJ7_fill_7f8df_1 rfl hl (by decide) rfl (fun ls hl => ?_)
  refine lv_aload_n hx hb dJ7_fill_7f8df_2 rfl (lv_at hl 1 rfl) ?_
  refine va_alen (D := D.1) (v := (40 : Int32)) hx hb X.1 X.2.1 0 0 rfl rfl rfl dJ7_fill_7f8df_3 ?_
  refine lv_istore (lv' := [(4, .int (40 : Int32)), (3, .int (0 : Int32)), (0, .ref hP0), (1, .double x1)]) hx hb dJ7_fill_7f8df_4 hl (by decide) rfl (fun ls hl => ?_)
  exact (kL_J7_fill_7f8df__AD40 l D hP0 aP0 yP0 n n) C X (lv_sub hl [2, 3, 1, 0] rfl) hF

/-! ### J7_fill_53178__AI52 -/
theorem dJ7_fill_53178_0 : decode cJ7_fill_53178 0 = .ok (.iconst 0, 1) := by decide +kernel
theorem dJ7_fill_53178_1 : decode cJ7_fill_53178 1 = .ok (.istore_n 2, 1) := by decide +kernel
theorem dJ7_fill_53178_2 : decode cJ7_fill_53178 2 = .ok (.aload_n 0, 1) := by decide +kernel
theorem dJ7_fill_53178_3 : decode cJ7_fill_53178 3 = .ok (.arraylength, 1) := by decide +kernel
theorem dJ7_fill_53178_4 : decode cJ7_fill_53178 4 = .ok (.istore_n 3, 1) := by decide +kernel
theorem dJ7_fill_53178_5 : decode cJ7_fill_53178 5 = .ok (.iload_n 2, 1) := by decide +kernel
theorem dJ7_fill_53178_6 : decode cJ7_fill_53178 6 = .ok (.iload_n 3, 1) := by decide +kernel
theorem dJ7_fill_53178_7 : decode cJ7_fill_53178 7 = .ok (.if_icmp .ge 13, 3) := by decide +kernel
theorem dJ7_fill_53178_10 : decode cJ7_fill_53178 10 = .ok (.aload_n 0, 1) := by decide +kernel
theorem dJ7_fill_53178_11 : decode cJ7_fill_53178 11 = .ok (.iload_n 2, 1) := by decide +kernel
theorem dJ7_fill_53178_12 : decode cJ7_fill_53178 12 = .ok (.iload_n 1, 1) := by decide +kernel
theorem dJ7_fill_53178_13 : decode cJ7_fill_53178 13 = .ok (.iastore, 1) := by decide +kernel
theorem dJ7_fill_53178_14 : decode cJ7_fill_53178 14 = .ok (.iinc 2 1, 3) := by decide +kernel
theorem dJ7_fill_53178_17 : decode cJ7_fill_53178 17 = .ok (.goto (-12), 3) := by decide +kernel
theorem dJ7_fill_53178_20 : decode cJ7_fill_53178 20 = .ok (.return_, 1) := by decide +kernel
abbrev R_J7_fill_53178__AI52 : Room := ({ frames := 0, cells := 0, slots := 0, locals := 0 } : Room)
def h_J7_fill_53178__AI52_5 (n : Nat) (rec : (Gs → Int32 → Int32 → Int32 → Option (Gs))) (gP0 : Gs) (v1 : Int32) (v2 : Int32) (v3 : Int32) : Option (Gs) :=
  if v3 ≤ v2 then (some gP0) else (grd (inB v2 52) (rec (sIA gP0 0 (upd (gIA gP0 0) v2.toNatClampNeg v1)) v1 (v2 + (1 : Int32)) v3))
def L_J7_fill_53178__AI52 (n : Nat) : Nat → (Gs → Int32 → Int32 → Int32 → Option (Gs))
  | 0 => ((fun _ _ _ _ => none))
  | k + 1 => (h_J7_fill_53178__AI52_5 n (L_J7_fill_53178__AI52 n k))
def f_J7_fill_53178__AI52 (n : Nat) (gP0 : Gs) (x1 : Int32) : Option (Gs) :=
  (L_J7_fill_53178__AI52 n n) gP0 x1 (0 : Int32) (52 : Int32)
def S_J7_fill_53178__AI52_5 (l : Launch) (D : Dx) (hP0 : Nat) (aP0 : Nat → Nat) (yP0 : Nat → ClassId) (fn : Gs → Int32 → Int32 → Int32 → Option (Gs)) : Prop :=
  ∀ {p : Program} {e : Env} {s : State} {m : MethodId} {args : Array Value} {below : List Frame} {meth : Method} {c : Code} {H : Heap} {locs : List Loc} {A : Nat → Prop} {ls : Array Slot} {gP0 : Gs} {v1 : Int32} {v2 : Int32} {v3 : Int32} {q : Gs}, Cx p s m args meth c cJ7_fill_53178 none 4 RJ7 lw_all → Hx D (tAI52 yP0) A s H locs (wAI52 hP0 aP0 yP0 gP0) → lv_has ls 4 [(0, .ref hP0), (1, .int v1), (2, .int v2), (3, .int v3)] → fn gP0 v1 v2 v3 = some q → W p l e R_J7_fill_53178__AI52 s m args below meth c H locs 0 0 (MQ below (QV D A (wAI52 hP0 aP0 yP0 q)) args s 0 0 A) (F0 m 5 ls [])
def SH_J7_fill_53178__AI52 (l : Launch) (D : Dx) (hP0 : Nat) (aP0 : Nat → Nat) (yP0 : Nat → ClassId) (rec : (Gs → Int32 → Int32 → Int32 → Option (Gs))) : Prop := S_J7_fill_53178__AI52_5 l D hP0 aP0 yP0 rec
set_option maxHeartbeats 4000000 in
set_option maxRecDepth 100000 in
theorem k_J7_fill_53178__AI52_5 (l : Launch) (D : Dx) (hP0 : Nat) (aP0 : Nat → Nat) (yP0 : Nat → ClassId) (n : Nat) (rec : (Gs → Int32 → Int32 → Int32 → Option (Gs))) (IH : SH_J7_fill_53178__AI52 l D hP0 aP0 yP0 rec) : S_J7_fill_53178__AI52_5 l D hP0 aP0 yP0 (h_J7_fill_53178__AI52_5 n rec) := by
  intro p e s m args below meth c H locs A ls gP0 v1 v2 v3 q C X hl hF
  obtain ⟨hx, hb, hr, hml, hown, hts, hlk⟩ := id C
  unfold h_J7_fill_53178__AI52_5 at hF
  refine lv_iload_n hx hb dJ7_fill_53178_5 rfl (lv_at hl 2 rfl) ?_
  refine lv_iload_n hx hb dJ7_fill_53178_6 rfl (lv_at hl 3 rfl) ?_
  refine lv_icmp_ge (tgt := 20) hx hb dJ7_fill_53178_7 (by decide) (fun c => ?_) (fun c => ?_)
  · replace hF := iT c hF
    have hq := Option.some.inj hF
    subst hq
    exact rt_v C X dJ7_fill_53178_20
  · replace hF := iF c hF
    refine lv_aload_n hx hb dJ7_fill_53178_10 rfl (lv_at hl 0 rfl) ?_
    refine lv_iload_n hx hb dJ7_fill_53178_11 rfl (lv_at hl 2 rfl) ?_
    refine lv_iload_n hx hb dJ7_fill_53178_12 rfl (lv_at hl 1 rfl) ?_
    obtain ⟨h_1, hF⟩ := grd_some hF
    refine va_iast (D := D.1) (f := gIA gP0 0) hx hb X.1 X.2.1 X.2.2.1 X.2.2.2.1 0 0 rfl rfl (inB_ok h_1) dJ7_fill_53178_13 (fun H locs hP hD hS => ?_)
    have X : Hx D (tAI52 yP0) A s H locs (wAI52 hP0 aP0 yP0 (sIA gP0 0 (upd (gIA gP0 0) v2.toNatClampNeg v1))) := Hx_set X (rfl) hP hD hS
    refine lv_iinc (v := v2 + (1 : Int32)) (lv' := [(2, .int (v2 + (1 : Int32))), (0, .ref hP0), (1, .int v1), (3, .int v3)]) hx hb dJ7_fill_53178_14 hl (k := 2) rfl rfl (by decide) rfl (fun ls hl => ?_)
    refine lv_goto (tgt := 5) hx hb dJ7_fill_53178_17 (by decide) ?_
    exact IH C X (lv_sub hl [1, 2, 0, 3] rfl) hF
theorem kL_J7_fill_53178__AI52 (l : Launch) (D : Dx) (hP0 : Nat) (aP0 : Nat → Nat) (yP0 : Nat → ClassId) (n : Nat) : ∀ k, SH_J7_fill_53178__AI52 l D hP0 aP0 yP0 (L_J7_fill_53178__AI52 n k)
  | 0 => fun _ _ _ h => by cases h
  | k + 1 => k_J7_fill_53178__AI52_5 l D hP0 aP0 yP0 n _ (kL_J7_fill_53178__AI52 l D hP0 aP0 yP0 n k)
set_option maxHeartbeats 4000000 in
set_option maxRecDepth 100000 in
theorem c_J7_fill_53178__AI52 (l : Launch) (D : Dx) (hP0 : Nat) (aP0 : Nat → Nat) (yP0 : Nat → ClassId) (n : Nat) (gP0 : Gs) (x1 : Int32) (q : Gs) (hF : f_J7_fill_53178__AI52 n gP0 x1 = some q) (sz : Nat) : Met l yJ7_fill_53178 (ws_ yJ7_fill_53178 cJ7_fill_53178 4 none) R_J7_fill_53178__AI52 (PC D (tAI52 yP0) [.ref hP0, .int x1] (wAI52 hP0 aP0 yP0 gP0) sz) (QV D (va_A (wAI52 hP0 aP0 yP0 gP0) sz) (wAI52 hP0 aP0 yP0 q)) 0 0 (va_A (wAI52 hP0 aP0 yP0 gP0) sz) := by
  refine Met.ofW (cc := cJ7_fill_53178) (maxL := 4) (ret := none) (by decide) rfl ?_
  intro p e s m args below meth c s₁ B hml hv
  obtain ⟨rfl, hsz, hP, hK, hD, hN⟩ := hv
  subst hsz
  have C : Cx p s m _ meth c cJ7_fill_53178 none 4 RJ7 lw_all := Cx_of B hml
  have X := Hx_start hP hK hD hN
  obtain ⟨hx, hb, hr, -, hown, hts, hlk⟩ := id C
  generalize va_A (wAI52 hP0 aP0 yP0 gP0) s.heap.size = A at X ⊢
  have hl := lv_entry ([.ref hP0, .int x1]) (n := 4) (Nat.le_of_ble_eq_true rfl)
  rw [lg_entry_eq]
  generalize (lg_sl ([.ref hP0, .int x1]) ++ List.replicate (4 - (lg_sl ([.ref hP0, .int x1])).length) Slot.unset).toArray = ls at hl ⊢
  have hl : lv_has ls 4 [(0, .ref hP0), (1, .int x1)] := hl
  unfold f_J7_fill_53178__AI52 at hF
  refine lv_iconst (v := (0 : Int32)) hx hb dJ7_fill_53178_0 (by decide) ?_
  refine lv_istore_n (lv' := [(2, .int (0 : Int32)), (0, .ref hP0), (1, .int x1)]) hx hb dJ7_fill_53178_1 rfl hl (by decide) rfl (fun ls hl => ?_)
  refine lv_aload_n hx hb dJ7_fill_53178_2 rfl (lv_at hl 1 rfl) ?_
  refine va_alen (D := D.1) (v := (52 : Int32)) hx hb X.1 X.2.1 0 0 rfl rfl rfl dJ7_fill_53178_3 ?_
  refine lv_istore_n (lv' := [(3, .int (52 : Int32)), (2, .int (0 : Int32)), (0, .ref hP0), (1, .int x1)]) hx hb dJ7_fill_53178_4 rfl hl (by decide) rfl (fun ls hl => ?_)
  exact (kL_J7_fill_53178__AI52 l D hP0 aP0 yP0 n n) C X (lv_sub hl [2, 3, 1, 0] rfl) hF

/-! ### J7_fill_53178__AI12 -/
abbrev R_J7_fill_53178__AI12 : Room := ({ frames := 0, cells := 0, slots := 0, locals := 0 } : Room)
def h_J7_fill_53178__AI12_5 (n : Nat) (rec : (Gs → Int32 → Int32 → Int32 → Option (Gs))) (gP0 : Gs) (v1 : Int32) (v2 : Int32) (v3 : Int32) : Option (Gs) :=
  if v3 ≤ v2 then (some gP0) else (grd (inB v2 12) (rec (sIA gP0 0 (upd (gIA gP0 0) v2.toNatClampNeg v1)) v1 (v2 + (1 : Int32)) v3))
def L_J7_fill_53178__AI12 (n : Nat) : Nat → (Gs → Int32 → Int32 → Int32 → Option (Gs))
  | 0 => ((fun _ _ _ _ => none))
  | k + 1 => (h_J7_fill_53178__AI12_5 n (L_J7_fill_53178__AI12 n k))
def f_J7_fill_53178__AI12 (n : Nat) (gP0 : Gs) (x1 : Int32) : Option (Gs) :=
  (L_J7_fill_53178__AI12 n n) gP0 x1 (0 : Int32) (12 : Int32)
def S_J7_fill_53178__AI12_5 (l : Launch) (D : Dx) (hP0 : Nat) (aP0 : Nat → Nat) (yP0 : Nat → ClassId) (fn : Gs → Int32 → Int32 → Int32 → Option (Gs)) : Prop :=
  ∀ {p : Program} {e : Env} {s : State} {m : MethodId} {args : Array Value} {below : List Frame} {meth : Method} {c : Code} {H : Heap} {locs : List Loc} {A : Nat → Prop} {ls : Array Slot} {gP0 : Gs} {v1 : Int32} {v2 : Int32} {v3 : Int32} {q : Gs}, Cx p s m args meth c cJ7_fill_53178 none 4 RJ7 lw_all → Hx D (tAI12 yP0) A s H locs (wAI12 hP0 aP0 yP0 gP0) → lv_has ls 4 [(0, .ref hP0), (1, .int v1), (2, .int v2), (3, .int v3)] → fn gP0 v1 v2 v3 = some q → W p l e R_J7_fill_53178__AI12 s m args below meth c H locs 0 0 (MQ below (QV D A (wAI12 hP0 aP0 yP0 q)) args s 0 0 A) (F0 m 5 ls [])
def SH_J7_fill_53178__AI12 (l : Launch) (D : Dx) (hP0 : Nat) (aP0 : Nat → Nat) (yP0 : Nat → ClassId) (rec : (Gs → Int32 → Int32 → Int32 → Option (Gs))) : Prop := S_J7_fill_53178__AI12_5 l D hP0 aP0 yP0 rec
set_option maxHeartbeats 4000000 in
set_option maxRecDepth 100000 in
theorem k_J7_fill_53178__AI12_5 (l : Launch) (D : Dx) (hP0 : Nat) (aP0 : Nat → Nat) (yP0 : Nat → ClassId) (n : Nat) (rec : (Gs → Int32 → Int32 → Int32 → Option (Gs))) (IH : SH_J7_fill_53178__AI12 l D hP0 aP0 yP0 rec) : S_J7_fill_53178__AI12_5 l D hP0 aP0 yP0 (h_J7_fill_53178__AI12_5 n rec) := by
  intro p e s m args below meth c H locs A ls gP0 v1 v2 v3 q C X hl hF
  obtain ⟨hx, hb, hr, hml, hown, hts, hlk⟩ := id C
  unfold h_J7_fill_53178__AI12_5 at hF
  refine lv_iload_n hx hb dJ7_fill_53178_5 rfl (lv_at hl 2 rfl) ?_
  refine lv_iload_n hx hb dJ7_fill_53178_6 rfl (lv_at hl 3 rfl) ?_
  refine lv_icmp_ge (tgt := 20) hx hb dJ7_fill_53178_7 (by decide) (fun c => ?_) (fun c => ?_)
  · replace hF := iT c hF
    have hq := Option.some.inj hF
    subst hq
    exact rt_v C X dJ7_fill_53178_20
  · replace hF := iF c hF
    refine lv_aload_n hx hb dJ7_fill_53178_10 rfl (lv_at hl 0 rfl) ?_
    refine lv_iload_n hx hb dJ7_fill_53178_11 rfl (lv_at hl 2 rfl) ?_
    refine lv_iload_n hx hb dJ7_fill_53178_12 rfl (lv_at hl 1 rfl) ?_
    obtain ⟨h_1, hF⟩ := grd_some hF
    refine va_iast (D := D.1) (f := gIA gP0 0) hx hb X.1 X.2.1 X.2.2.1 X.2.2.2.1 0 0 rfl rfl (inB_ok h_1) dJ7_fill_53178_13 (fun H locs hP hD hS => ?_)
    have X : Hx D (tAI12 yP0) A s H locs (wAI12 hP0 aP0 yP0 (sIA gP0 0 (upd (gIA gP0 0) v2.toNatClampNeg v1))) := Hx_set X (rfl) hP hD hS
    refine lv_iinc (v := v2 + (1 : Int32)) (lv' := [(2, .int (v2 + (1 : Int32))), (0, .ref hP0), (1, .int v1), (3, .int v3)]) hx hb dJ7_fill_53178_14 hl (k := 2) rfl rfl (by decide) rfl (fun ls hl => ?_)
    refine lv_goto (tgt := 5) hx hb dJ7_fill_53178_17 (by decide) ?_
    exact IH C X (lv_sub hl [1, 2, 0, 3] rfl) hF
theorem kL_J7_fill_53178__AI12 (l : Launch) (D : Dx) (hP0 : Nat) (aP0 : Nat → Nat) (yP0 : Nat → ClassId) (n : Nat) : ∀ k, SH_J7_fill_53178__AI12 l D hP0 aP0 yP0 (L_J7_fill_53178__AI12 n k)
  | 0 => fun _ _ _ h => by cases h
  | k + 1 => k_J7_fill_53178__AI12_5 l D hP0 aP0 yP0 n _ (kL_J7_fill_53178__AI12 l D hP0 aP0 yP0 n k)
set_option maxHeartbeats 4000000 in
set_option maxRecDepth 100000 in
theorem c_J7_fill_53178__AI12 (l : Launch) (D : Dx) (hP0 : Nat) (aP0 : Nat → Nat) (yP0 : Nat → ClassId) (n : Nat) (gP0 : Gs) (x1 : Int32) (q : Gs) (hF : f_J7_fill_53178__AI12 n gP0 x1 = some q) (sz : Nat) : Met l yJ7_fill_53178 (ws_ yJ7_fill_53178 cJ7_fill_53178 4 none) R_J7_fill_53178__AI12 (PC D (tAI12 yP0) [.ref hP0, .int x1] (wAI12 hP0 aP0 yP0 gP0) sz) (QV D (va_A (wAI12 hP0 aP0 yP0 gP0) sz) (wAI12 hP0 aP0 yP0 q)) 0 0 (va_A (wAI12 hP0 aP0 yP0 gP0) sz) := by
  refine Met.ofW (cc := cJ7_fill_53178) (maxL := 4) (ret := none) (by decide) rfl ?_
  intro p e s m args below meth c s₁ B hml hv
  obtain ⟨rfl, hsz, hP, hK, hD, hN⟩ := hv
  subst hsz
  have C : Cx p s m _ meth c cJ7_fill_53178 none 4 RJ7 lw_all := Cx_of B hml
  have X := Hx_start hP hK hD hN
  obtain ⟨hx, hb, hr, -, hown, hts, hlk⟩ := id C
  generalize va_A (wAI12 hP0 aP0 yP0 gP0) s.heap.size = A at X ⊢
  have hl := lv_entry ([.ref hP0, .int x1]) (n := 4) (Nat.le_of_ble_eq_true rfl)
  rw [lg_entry_eq]
  generalize (lg_sl ([.ref hP0, .int x1]) ++ List.replicate (4 - (lg_sl ([.ref hP0, .int x1])).length) Slot.unset).toArray = ls at hl ⊢
  have hl : lv_has ls 4 [(0, .ref hP0), (1, .int x1)] := hl
  unfold f_J7_fill_53178__AI12 at hF
  refine lv_iconst (v := (0 : Int32)) hx hb dJ7_fill_53178_0 (by decide) ?_
  refine lv_istore_n (lv' := [(2, .int (0 : Int32)), (0, .ref hP0), (1, .int x1)]) hx hb dJ7_fill_53178_1 rfl hl (by decide) rfl (fun ls hl => ?_)
  refine lv_aload_n hx hb dJ7_fill_53178_2 rfl (lv_at hl 1 rfl) ?_
  refine va_alen (D := D.1) (v := (12 : Int32)) hx hb X.1 X.2.1 0 0 rfl rfl rfl dJ7_fill_53178_3 ?_
  refine lv_istore_n (lv' := [(3, .int (12 : Int32)), (2, .int (0 : Int32)), (0, .ref hP0), (1, .int x1)]) hx hb dJ7_fill_53178_4 rfl hl (by decide) rfl (fun ls hl => ?_)
  exact (kL_J7_fill_53178__AI12 l D hP0 aP0 yP0 n n) C X (lv_sub hl [2, 3, 1, 0] rfl) hF

/-! ### X9_clear -/
theorem dX9_clear_0 : decode cX9_clear 0 = .ok (.aload_n 0, 1) := by decide +kernel
theorem dX9_clear_1 : decode cX9_clear 1 = .ok (.getfield 9, 3) := by decide +kernel
theorem dX9_clear_4 : decode cX9_clear 4 = .ok (.lconst 0, 1) := by decide +kernel
theorem dX9_clear_5 : decode cX9_clear 5 = .ok (.invokestatic 68, 3) := by decide +kernel
theorem dX9_clear_8 : decode cX9_clear 8 = .ok (.aload_n 0, 1) := by decide +kernel
theorem dX9_clear_9 : decode cX9_clear 9 = .ok (.getfield 15, 3) := by decide +kernel
theorem dX9_clear_12 : decode cX9_clear 12 = .ok (.dconst 0, 1) := by decide +kernel
theorem dX9_clear_13 : decode cX9_clear 13 = .ok (.invokestatic 74, 3) := by decide +kernel
theorem dX9_clear_16 : decode cX9_clear 16 = .ok (.aload_n 0, 1) := by decide +kernel
theorem dX9_clear_17 : decode cX9_clear 17 = .ok (.getfield 19, 3) := by decide +kernel
theorem dX9_clear_20 : decode cX9_clear 20 = .ok (.lconst 0, 1) := by decide +kernel
theorem dX9_clear_21 : decode cX9_clear 21 = .ok (.invokestatic 68, 3) := by decide +kernel
theorem dX9_clear_24 : decode cX9_clear 24 = .ok (.aload_n 0, 1) := by decide +kernel
theorem dX9_clear_25 : decode cX9_clear 25 = .ok (.getfield 22, 3) := by decide +kernel
theorem dX9_clear_28 : decode cX9_clear 28 = .ok (.dconst 0, 1) := by decide +kernel
theorem dX9_clear_29 : decode cX9_clear 29 = .ok (.invokestatic 74, 3) := by decide +kernel
theorem dX9_clear_32 : decode cX9_clear 32 = .ok (.aload_n 0, 1) := by decide +kernel
theorem dX9_clear_33 : decode cX9_clear 33 = .ok (.getfield 31, 3) := by decide +kernel
theorem dX9_clear_36 : decode cX9_clear 36 = .ok (.iconst 0, 1) := by decide +kernel
theorem dX9_clear_37 : decode cX9_clear 37 = .ok (.invokestatic 77, 3) := by decide +kernel
theorem dX9_clear_40 : decode cX9_clear 40 = .ok (.aload_n 0, 1) := by decide +kernel
theorem dX9_clear_41 : decode cX9_clear 41 = .ok (.getfield 35, 3) := by decide +kernel
theorem dX9_clear_44 : decode cX9_clear 44 = .ok (.iconst 0, 1) := by decide +kernel
theorem dX9_clear_45 : decode cX9_clear 45 = .ok (.invokestatic 77, 3) := by decide +kernel
theorem dX9_clear_48 : decode cX9_clear 48 = .ok (.aload_n 0, 1) := by decide +kernel
theorem dX9_clear_49 : decode cX9_clear 49 = .ok (.getfield 38, 3) := by decide +kernel
theorem dX9_clear_52 : decode cX9_clear 52 = .ok (.iconst (-1), 1) := by decide +kernel
theorem dX9_clear_53 : decode cX9_clear 53 = .ok (.invokestatic 77, 3) := by decide +kernel
theorem dX9_clear_56 : decode cX9_clear 56 = .ok (.aload_n 0, 1) := by decide +kernel
theorem dX9_clear_57 : decode cX9_clear 57 = .ok (.getfield 41, 3) := by decide +kernel
theorem dX9_clear_60 : decode cX9_clear 60 = .ok (.iconst 0, 1) := by decide +kernel
theorem dX9_clear_61 : decode cX9_clear 61 = .ok (.invokestatic 77, 3) := by decide +kernel
theorem dX9_clear_64 : decode cX9_clear 64 = .ok (.aload_n 0, 1) := by decide +kernel
theorem dX9_clear_65 : decode cX9_clear 65 = .ok (.iconst 0, 1) := by decide +kernel
theorem dX9_clear_66 : decode cX9_clear 66 = .ok (.putfield 50, 3) := by decide +kernel
theorem dX9_clear_69 : decode cX9_clear 69 = .ok (.aload_n 0, 1) := by decide +kernel
theorem dX9_clear_70 : decode cX9_clear 70 = .ok (.iconst 0, 1) := by decide +kernel
theorem dX9_clear_71 : decode cX9_clear 71 = .ok (.putfield 54, 3) := by decide +kernel
theorem dX9_clear_74 : decode cX9_clear 74 = .ok (.aload_n 0, 1) := by decide +kernel
theorem dX9_clear_75 : decode cX9_clear 75 = .ok (.lconst 0, 1) := by decide +kernel
theorem dX9_clear_76 : decode cX9_clear 76 = .ok (.putfield 57, 3) := by decide +kernel
theorem dX9_clear_79 : decode cX9_clear 79 = .ok (.return_, 1) := by decide +kernel
abbrev R_X9_clear : Room := ({ frames := 1, cells := 0, slots := 0, locals := 24 } : Room)
def f_X9_clear (n : Nat) (gT : Gs) : Option (Gs) :=
  bnd (f_J7_fill_d0a16__AJ40 n (sLA gT 0 (gLA gT 0)) (0 : Int64)) (fun q_1 => bnd (f_J7_fill_7f8df__AD40 n (sDA gT 0 (gDA gT 1)) FP.dconst0) (fun q_3 => bnd (f_J7_fill_d0a16__AJ40 n (sLA gT 0 (gLA gT 2)) (0 : Int64)) (fun q_5 => bnd (f_J7_fill_7f8df__AD40 n (sDA gT 0 (gDA gT 3)) FP.dconst0) (fun q_7 => bnd (f_J7_fill_53178__AI52 n (sIA gT 0 (gIA gT 6)) (0 : Int32)) (fun q_9 => bnd (f_J7_fill_53178__AI52 n (sIA gT 0 (gIA gT 7)) (0 : Int32)) (fun q_11 => bnd (f_J7_fill_53178__AI52 n (sIA gT 0 (gIA gT 8)) (-1 : Int32)) (fun q_13 => bnd (f_J7_fill_53178__AI12 n (sIA gT 0 (gIA gT 9)) (0 : Int32)) (fun q_15 => some (sL (sI (sI (sIA (sIA (sIA (sIA (sDA (sLA (sDA (sLA gT 0 (gLA q_1 0)) 1 (gDA q_3 0)) 2 (gLA q_5 0)) 3 (gDA q_7 0)) 6 (gIA q_9 0)) 7 (gIA q_11 0)) 8 (gIA q_13 0)) 9 (gIA q_15 0)) 12 (0 : Int32)) 13 (0 : Int32)) 14 (0 : Int64))))))))))
set_option maxHeartbeats 4000000 in
set_option maxRecDepth 100000 in
theorem c_X9_clear (l : Launch) (D : Dx) (hT : Nat) (aT : Nat → Nat) (yT : Nat → ClassId) (n : Nat) (gT : Gs) (q : Gs) (hF : f_X9_clear n gT = some q) (sz : Nat) : Met l yX9_clear (ws_ yX9_clear cX9_clear 1 none) R_X9_clear (PC D (tX9 yT) [.ref hT] (wX9 hT aT yT gT) sz) (QV D (va_A (wX9 hT aT yT gT) sz) (wX9 hT aT yT q)) 0 0 (va_A (wX9 hT aT yT gT) sz) := by
  refine Met.ofW (cc := cX9_clear) (maxL := 1) (ret := none) (by decide) rfl ?_
  intro p e s m args below meth c s₁ B hml hv
  obtain ⟨rfl, hsz, hP, hK, hD, hN⟩ := hv
  subst hsz
  have C : Cx p s m _ meth c cX9_clear none 1 RX9 lw_all := Cx_of B hml
  have X := Hx_start hP hK hD hN
  obtain ⟨hx, hb, hr, -, hown, hts, hlk⟩ := id C
  generalize va_A (wX9 hT aT yT gT) s.heap.size = A at X ⊢
  have hl := lv_entry ([.ref hT]) (n := 1) (Nat.le_of_ble_eq_true rfl)
  rw [lg_entry_eq]
  generalize (lg_sl ([.ref hT]) ++ List.replicate (1 - (lg_sl ([.ref hT])).length) Slot.unset).toArray = ls at hl ⊢
  have hl : lv_has ls 1 [(0, .ref hT)] := hl
  unfold f_X9_clear at hF
  refine lv_aload_n hx hb dX9_clear_0 rfl (lv_at hl 0 rfl) ?_
  refine va_get (D := D.1) (ci := 9) (v := .ref (aT 0)) (C := RX9) (T := TX9) (N := 17) hx hb hts wi_X9 hown X.1 X.2.1 0 rfl rfl 0 (by decide) (hts _ q1_53) (fun _ h9 => h9) (fl_get (by decide)) dX9_clear_1 ?_
  refine lv_lconst (v := (0 : Int64)) hx hb dX9_clear_4 (by decide) ?_
  obtain ⟨q_1, hc_2, hF⟩ := bnd_some hF
  refine cS_v (As := [.ref (aT 0), .long (0 : Int64)]) (rest := []) C X (c_J7_fill_d0a16__AJ40 l D (aT 0) aT (fun _ => yT 0) n (sLA gT 0 (gLA gT 0)) (0 : Int64) q_1 hc_2 _) (va_cwS 2 hts (good_S q5_19 q5_20 q1_21 q5_21) rfl rfl rfl (by decide +kernel) ⟨Nat.le_of_ble_eq_true rfl, Nat.le_of_ble_eq_true rfl⟩) (X.1.sub (tys' := tAJ40 (fun _ => yT 0)) [0] rfl) (X.2.1.sub (ws' := wAJ40 (aT 0) aT (fun _ => yT 0) (sLA gT 0 (gLA gT 0))) [1] rfl) (X.2.2.1.sub (ws' := wAJ40 (aT 0) aT (fun _ => yT 0) (sLA gT 0 (gLA gT 0))) [1] (by decide) rfl) (free_of (wC := wAJ40 (aT 0) aT (fun _ => yT 0) (sLA gT 0 (gLA gT 0))) (isC := [1]) X rfl) hl.1 rfl rfl (Nat.le_of_ble_eq_true rfl) dX9_clear_5 ⟨Nat.le_of_ble_eq_true rfl, Nat.le_of_ble_eq_true rfl⟩ (fun t H1 locs1 ht hB hk hS => ?_)
  have X : Hx D (tX9 yT) A s H1 locs1 (wX9 hT aT yT (sLA gT 0 (gLA q_1 0))) := Hx_cell (ix := 1) X rfl (wG_sLA (i := 0) (k := 0) ndX9 rfl rfl) ht hB hk hS
  clear hk hS ht hB
  generalize H1 = H at X ⊢
  generalize locs1 = locs at X ⊢
  refine lv_aload_n hx hb dX9_clear_8 rfl (lv_at hl 0 rfl) ?_
  refine va_get (D := D.1) (ci := 9) (v := .ref (aT 1)) (C := RX9) (T := TX9) (N := 17) hx hb hts wi_X9 hown X.1 X.2.1 0 rfl rfl 1 (by decide) (hts _ q1_56) (fun _ h9 => h9) (fl_get (by decide)) dX9_clear_9 ?_
  refine lv_dconst0 hx hb dX9_clear_12 ?_
  obtain ⟨q_3, hc_4, hF⟩ := bnd_some hF
  refine cS_v (As := [.ref (aT 1), .double FP.dconst0]) (rest := []) C X (c_J7_fill_7f8df__AD40 l D (aT 1) aT (fun _ => yT 1) n (sDA gT 0 (gDA gT 1)) FP.dconst0 q_3 hc_4 _) (va_cwS 2 hts (good_S q5_22 q5_23 q1_21 q5_24) rfl rfl rfl (by decide +kernel) ⟨Nat.le_of_ble_eq_true rfl, Nat.le_of_ble_eq_true rfl⟩) (X.1.sub (tys' := tAD40 (fun _ => yT 1)) [1] rfl) (X.2.1.sub (ws' := wAD40 (aT 1) aT (fun _ => yT 1) (sDA gT 0 (gDA gT 1))) [2] rfl) (X.2.2.1.sub (ws' := wAD40 (aT 1) aT (fun _ => yT 1) (sDA gT 0 (gDA gT 1))) [2] (by decide) rfl) (free_of (wC := wAD40 (aT 1) aT (fun _ => yT 1) (sDA gT 0 (gDA gT 1))) (isC := [2]) X rfl) hl.1 rfl rfl (Nat.le_of_ble_eq_true rfl) dX9_clear_13 ⟨Nat.le_of_ble_eq_true rfl, Nat.le_of_ble_eq_true rfl⟩ (fun t H1 locs1 ht hB hk hS => ?_)
  have X : Hx D (tX9 yT) A s H1 locs1 (wX9 hT aT yT (sDA (sLA gT 0 (gLA q_1 0)) 1 (gDA q_3 0))) := Hx_cell (ix := 2) X rfl (wG_sDA (i := 1) (k := 1) ndX9 rfl rfl) ht hB hk hS
  clear hk hS ht hB
  generalize H1 = H at X ⊢
  generalize locs1 = locs at X ⊢
  refine lv_aload_n hx hb dX9_clear_16 rfl (lv_at hl 0 rfl) ?_
  refine va_get (D := D.1) (ci := 9) (v := .ref (aT 2)) (C := RX9) (T := TX9) (N := 17) hx hb hts wi_X9 hown X.1 X.2.1 0 rfl rfl 2 (by decide) (hts _ q1_59) (fun _ h9 => h9) (fl_get (by decide)) dX9_clear_17 ?_
  refine lv_lconst (v := (0 : Int64)) hx hb dX9_clear_20 (by decide) ?_
  obtain ⟨q_5, hc_6, hF⟩ := bnd_some hF
  refine cS_v (As := [.ref (aT 2), .long (0 : Int64)]) (rest := []) C X (c_J7_fill_d0a16__AJ40 l D (aT 2) aT (fun _ => yT 2) n (sLA gT 0 (gLA gT 2)) (0 : Int64) q_5 hc_6 _) (va_cwS 2 hts (good_S q5_19 q5_20 q1_21 q5_21) rfl rfl rfl (by decide +kernel) ⟨Nat.le_of_ble_eq_true rfl, Nat.le_of_ble_eq_true rfl⟩) (X.1.sub (tys' := tAJ40 (fun _ => yT 2)) [2] rfl) (X.2.1.sub (ws' := wAJ40 (aT 2) aT (fun _ => yT 2) (sLA gT 0 (gLA gT 2))) [3] rfl) (X.2.2.1.sub (ws' := wAJ40 (aT 2) aT (fun _ => yT 2) (sLA gT 0 (gLA gT 2))) [3] (by decide) rfl) (free_of (wC := wAJ40 (aT 2) aT (fun _ => yT 2) (sLA gT 0 (gLA gT 2))) (isC := [3]) X rfl) hl.1 rfl rfl (Nat.le_of_ble_eq_true rfl) dX9_clear_21 ⟨Nat.le_of_ble_eq_true rfl, Nat.le_of_ble_eq_true rfl⟩ (fun t H1 locs1 ht hB hk hS => ?_)
  have X : Hx D (tX9 yT) A s H1 locs1 (wX9 hT aT yT (sLA (sDA (sLA gT 0 (gLA q_1 0)) 1 (gDA q_3 0)) 2 (gLA q_5 0))) := Hx_cell (ix := 3) X rfl (wG_sLA (i := 2) (k := 2) ndX9 rfl rfl) ht hB hk hS
  clear hk hS ht hB
  generalize H1 = H at X ⊢
  generalize locs1 = locs at X ⊢
  refine lv_aload_n hx hb dX9_clear_24 rfl (lv_at hl 0 rfl) ?_
  refine va_get (D := D.1) (ci := 9) (v := .ref (aT 3)) (C := RX9) (T := TX9) (N := 17) hx hb hts wi_X9 hown X.1 X.2.1 0 rfl rfl 3 (by decide) (hts _ q1_62) (fun _ h9 => h9) (fl_get (by decide)) dX9_clear_25 ?_
  refine lv_dconst0 hx hb dX9_clear_28 ?_
  obtain ⟨q_7, hc_8, hF⟩ := bnd_some hF
  refine cS_v (As := [.ref (aT 3), .double FP.dconst0]) (rest := []) C X (c_J7_fill_7f8df__AD40 l D (aT 3) aT (fun _ => yT 3) n (sDA gT 0 (gDA gT 3)) FP.dconst0 q_7 hc_8 _) (va_cwS 2 hts (good_S q5_22 q5_23 q1_21 q5_24) rfl rfl rfl (by decide +kernel) ⟨Nat.le_of_ble_eq_true rfl, Nat.le_of_ble_eq_true rfl⟩) (X.1.sub (tys' := tAD40 (fun _ => yT 3)) [3] rfl) (X.2.1.sub (ws' := wAD40 (aT 3) aT (fun _ => yT 3) (sDA gT 0 (gDA gT 3))) [4] rfl) (X.2.2.1.sub (ws' := wAD40 (aT 3) aT (fun _ => yT 3) (sDA gT 0 (gDA gT 3))) [4] (by decide) rfl) (free_of (wC := wAD40 (aT 3) aT (fun _ => yT 3) (sDA gT 0 (gDA gT 3))) (isC := [4]) X rfl) hl.1 rfl rfl (Nat.le_of_ble_eq_true rfl) dX9_clear_29 ⟨Nat.le_of_ble_eq_true rfl, Nat.le_of_ble_eq_true rfl⟩ (fun t H1 locs1 ht hB hk hS => ?_)
  have X : Hx D (tX9 yT) A s H1 locs1 (wX9 hT aT yT (sDA (sLA (sDA (sLA gT 0 (gLA q_1 0)) 1 (gDA q_3 0)) 2 (gLA q_5 0)) 3 (gDA q_7 0))) := Hx_cell (ix := 4) X rfl (wG_sDA (i := 3) (k := 3) ndX9 rfl rfl) ht hB hk hS
  clear hk hS ht hB
  generalize H1 = H at X ⊢
  generalize locs1 = locs at X ⊢
  refine lv_aload_n hx hb dX9_clear_32 rfl (lv_at hl 0 rfl) ?_
  refine va_get (D := D.1) (ci := 9) (v := .ref (aT 6)) (C := RX9) (T := TX9) (N := 17) hx hb hts wi_X9 hown X.1 X.2.1 0 rfl rfl 6 (by decide) (hts _ q1_69) (fun _ h9 => h9) (fl_get (by decide)) dX9_clear_33 ?_
  refine lv_iconst (v := (0 : Int32)) hx hb dX9_clear_36 (by decide) ?_
  obtain ⟨q_9, hc_10, hF⟩ := bnd_some hF
  refine cS_v (As := [.ref (aT 6), .int (0 : Int32)]) (rest := []) C X (c_J7_fill_53178__AI52 l D (aT 6) aT (fun _ => yT 6) n (sIA gT 0 (gIA gT 6)) (0 : Int32) q_9 hc_10 _) (va_cwS 2 hts (good_S q5_25 q5_26 q1_21 q5_27) rfl rfl rfl (by decide +kernel) ⟨Nat.le_of_ble_eq_true rfl, Nat.le_of_ble_eq_true rfl⟩) (X.1.sub (tys' := tAI52 (fun _ => yT 6)) [6] rfl) (X.2.1.sub (ws' := wAI52 (aT 6) aT (fun _ => yT 6) (sIA gT 0 (gIA gT 6))) [7] rfl) (X.2.2.1.sub (ws' := wAI52 (aT 6) aT (fun _ => yT 6) (sIA gT 0 (gIA gT 6))) [7] (by decide) rfl) (free_of (wC := wAI52 (aT 6) aT (fun _ => yT 6) (sIA gT 0 (gIA gT 6))) (isC := [7]) X rfl) hl.1 rfl rfl (Nat.le_of_ble_eq_true rfl) dX9_clear_37 ⟨Nat.le_of_ble_eq_true rfl, Nat.le_of_ble_eq_true rfl⟩ (fun t H1 locs1 ht hB hk hS => ?_)
  have X : Hx D (tX9 yT) A s H1 locs1 (wX9 hT aT yT (sIA (sDA (sLA (sDA (sLA gT 0 (gLA q_1 0)) 1 (gDA q_3 0)) 2 (gLA q_5 0)) 3 (gDA q_7 0)) 6 (gIA q_9 0))) := Hx_cell (ix := 7) X rfl (wG_sIA (i := 6) (k := 6) ndX9 rfl rfl) ht hB hk hS
  clear hk hS ht hB
  generalize H1 = H at X ⊢
  generalize locs1 = locs at X ⊢
  refine lv_aload_n hx hb dX9_clear_40 rfl (lv_at hl 0 rfl) ?_
  refine va_get (D := D.1) (ci := 9) (v := .ref (aT 7)) (C := RX9) (T := TX9) (N := 17) hx hb hts wi_X9 hown X.1 X.2.1 0 rfl rfl 7 (by decide) (hts _ q1_71) (fun _ h9 => h9) (fl_get (by decide)) dX9_clear_41 ?_
  refine lv_iconst (v := (0 : Int32)) hx hb dX9_clear_44 (by decide) ?_
  obtain ⟨q_11, hc_12, hF⟩ := bnd_some hF
  refine cS_v (As := [.ref (aT 7), .int (0 : Int32)]) (rest := []) C X (c_J7_fill_53178__AI52 l D (aT 7) aT (fun _ => yT 7) n (sIA gT 0 (gIA gT 7)) (0 : Int32) q_11 hc_12 _) (va_cwS 2 hts (good_S q5_25 q5_26 q1_21 q5_27) rfl rfl rfl (by decide +kernel) ⟨Nat.le_of_ble_eq_true rfl, Nat.le_of_ble_eq_true rfl⟩) (X.1.sub (tys' := tAI52 (fun _ => yT 7)) [7] rfl) (X.2.1.sub (ws' := wAI52 (aT 7) aT (fun _ => yT 7) (sIA gT 0 (gIA gT 7))) [8] rfl) (X.2.2.1.sub (ws' := wAI52 (aT 7) aT (fun _ => yT 7) (sIA gT 0 (gIA gT 7))) [8] (by decide) rfl) (free_of (wC := wAI52 (aT 7) aT (fun _ => yT 7) (sIA gT 0 (gIA gT 7))) (isC := [8]) X rfl) hl.1 rfl rfl (Nat.le_of_ble_eq_true rfl) dX9_clear_45 ⟨Nat.le_of_ble_eq_true rfl, Nat.le_of_ble_eq_true rfl⟩ (fun t H1 locs1 ht hB hk hS => ?_)
  have X : Hx D (tX9 yT) A s H1 locs1 (wX9 hT aT yT (sIA (sIA (sDA (sLA (sDA (sLA gT 0 (gLA q_1 0)) 1 (gDA q_3 0)) 2 (gLA q_5 0)) 3 (gDA q_7 0)) 6 (gIA q_9 0)) 7 (gIA q_11 0))) := Hx_cell (ix := 8) X rfl (wG_sIA (i := 7) (k := 7) ndX9 rfl rfl) ht hB hk hS
  clear hk hS ht hB
  generalize H1 = H at X ⊢
  generalize locs1 = locs at X ⊢
  refine lv_aload_n hx hb dX9_clear_48 rfl (lv_at hl 0 rfl) ?_
  refine va_get (D := D.1) (ci := 9) (v := .ref (aT 8)) (C := RX9) (T := TX9) (N := 17) hx hb hts wi_X9 hown X.1 X.2.1 0 rfl rfl 8 (by decide) (hts _ q1_73) (fun _ h9 => h9) (fl_get (by decide)) dX9_clear_49 ?_
  refine lv_iconst (v := (-1 : Int32)) hx hb dX9_clear_52 (by decide) ?_
  obtain ⟨q_13, hc_14, hF⟩ := bnd_some hF
  refine cS_v (As := [.ref (aT 8), .int (-1 : Int32)]) (rest := []) C X (c_J7_fill_53178__AI52 l D (aT 8) aT (fun _ => yT 8) n (sIA gT 0 (gIA gT 8)) (-1 : Int32) q_13 hc_14 _) (va_cwS 2 hts (good_S q5_25 q5_26 q1_21 q5_27) rfl rfl rfl (by decide +kernel) ⟨Nat.le_of_ble_eq_true rfl, Nat.le_of_ble_eq_true rfl⟩) (X.1.sub (tys' := tAI52 (fun _ => yT 8)) [8] rfl) (X.2.1.sub (ws' := wAI52 (aT 8) aT (fun _ => yT 8) (sIA gT 0 (gIA gT 8))) [9] rfl) (X.2.2.1.sub (ws' := wAI52 (aT 8) aT (fun _ => yT 8) (sIA gT 0 (gIA gT 8))) [9] (by decide) rfl) (free_of (wC := wAI52 (aT 8) aT (fun _ => yT 8) (sIA gT 0 (gIA gT 8))) (isC := [9]) X rfl) hl.1 rfl rfl (Nat.le_of_ble_eq_true rfl) dX9_clear_53 ⟨Nat.le_of_ble_eq_true rfl, Nat.le_of_ble_eq_true rfl⟩ (fun t H1 locs1 ht hB hk hS => ?_)
  have X : Hx D (tX9 yT) A s H1 locs1 (wX9 hT aT yT (sIA (sIA (sIA (sDA (sLA (sDA (sLA gT 0 (gLA q_1 0)) 1 (gDA q_3 0)) 2 (gLA q_5 0)) 3 (gDA q_7 0)) 6 (gIA q_9 0)) 7 (gIA q_11 0)) 8 (gIA q_13 0))) := Hx_cell (ix := 9) X rfl (wG_sIA (i := 8) (k := 8) ndX9 rfl rfl) ht hB hk hS
  clear hk hS ht hB
  generalize H1 = H at X ⊢
  generalize locs1 = locs at X ⊢
  refine lv_aload_n hx hb dX9_clear_56 rfl (lv_at hl 0 rfl) ?_
  refine va_get (D := D.1) (ci := 9) (v := .ref (aT 9)) (C := RX9) (T := TX9) (N := 17) hx hb hts wi_X9 hown X.1 X.2.1 0 rfl rfl 9 (by decide) (hts _ q1_75) (fun _ h9 => h9) (fl_get (by decide)) dX9_clear_57 ?_
  refine lv_iconst (v := (0 : Int32)) hx hb dX9_clear_60 (by decide) ?_
  obtain ⟨q_15, hc_16, hF⟩ := bnd_some hF
  refine cS_v (As := [.ref (aT 9), .int (0 : Int32)]) (rest := []) C X (c_J7_fill_53178__AI12 l D (aT 9) aT (fun _ => yT 9) n (sIA gT 0 (gIA gT 9)) (0 : Int32) q_15 hc_16 _) (va_cwS 2 hts (good_S q5_25 q5_26 q1_21 q5_27) rfl rfl rfl (by decide +kernel) ⟨Nat.le_of_ble_eq_true rfl, Nat.le_of_ble_eq_true rfl⟩) (X.1.sub (tys' := tAI12 (fun _ => yT 9)) [9] rfl) (X.2.1.sub (ws' := wAI12 (aT 9) aT (fun _ => yT 9) (sIA gT 0 (gIA gT 9))) [10] rfl) (X.2.2.1.sub (ws' := wAI12 (aT 9) aT (fun _ => yT 9) (sIA gT 0 (gIA gT 9))) [10] (by decide) rfl) (free_of (wC := wAI12 (aT 9) aT (fun _ => yT 9) (sIA gT 0 (gIA gT 9))) (isC := [10]) X rfl) hl.1 rfl rfl (Nat.le_of_ble_eq_true rfl) dX9_clear_61 ⟨Nat.le_of_ble_eq_true rfl, Nat.le_of_ble_eq_true rfl⟩ (fun t H1 locs1 ht hB hk hS => ?_)
  have X : Hx D (tX9 yT) A s H1 locs1 (wX9 hT aT yT (sIA (sIA (sIA (sIA (sDA (sLA (sDA (sLA gT 0 (gLA q_1 0)) 1 (gDA q_3 0)) 2 (gLA q_5 0)) 3 (gDA q_7 0)) 6 (gIA q_9 0)) 7 (gIA q_11 0)) 8 (gIA q_13 0)) 9 (gIA q_15 0))) := Hx_cell (ix := 10) X rfl (wG_sIA (i := 9) (k := 9) ndX9 rfl rfl) ht hB hk hS
  clear hk hS ht hB
  generalize H1 = H at X ⊢
  generalize locs1 = locs at X ⊢
  refine lv_aload_n hx hb dX9_clear_64 rfl (lv_at hl 0 rfl) ?_
  refine lv_iconst (v := (0 : Int32)) hx hb dX9_clear_65 (by decide) ?_
  refine va_put (D := D.1) (ci := 9) (v := .int (0 : Int32)) (ty := .int) (C := RX9) (T := TX9) (N := 17) hx hb hts wi_X9 tyX9 tyX9_ok nmX9 hown X.1 X.2.1 X.2.2.1 X.2.2.2.1 0 rfl rfl 12 (by decide) (hts _ q1_81) (fun _ h9 => h9) rfl (by decide +kernel) rfl rfl (by rw [List.length_map, List.length_range]; decide) dX9_clear_66 (fun H locs hP hD hS => ?_)
  have X : Hx D (tX9 yT) A s H locs (wX9 hT aT yT (sI (sIA (sIA (sIA (sIA (sDA (sLA (sDA (sLA gT 0 (gLA q_1 0)) 1 (gDA q_3 0)) 2 (gLA q_5 0)) 3 (gDA q_7 0)) 6 (gIA q_9 0)) 7 (gIA q_11 0)) 8 (gIA q_13 0)) 9 (gIA q_15 0)) 12 (0 : Int32))) := Hx_set X (wG_sI (k := 12) rfl) hP hD hS
  refine lv_aload_n hx hb dX9_clear_69 rfl (lv_at hl 0 rfl) ?_
  refine lv_iconst (v := (0 : Int32)) hx hb dX9_clear_70 (by decide) ?_
  refine va_put (D := D.1) (ci := 9) (v := .int (0 : Int32)) (ty := .int) (C := RX9) (T := TX9) (N := 17) hx hb hts wi_X9 tyX9 tyX9_ok nmX9 hown X.1 X.2.1 X.2.2.1 X.2.2.2.1 0 rfl rfl 13 (by decide) (hts _ q1_83) (fun _ h9 => h9) rfl (by decide +kernel) rfl rfl (by rw [List.length_map, List.length_range]; decide) dX9_clear_71 (fun H locs hP hD hS => ?_)
  have X : Hx D (tX9 yT) A s H locs (wX9 hT aT yT (sI (sI (sIA (sIA (sIA (sIA (sDA (sLA (sDA (sLA gT 0 (gLA q_1 0)) 1 (gDA q_3 0)) 2 (gLA q_5 0)) 3 (gDA q_7 0)) 6 (gIA q_9 0)) 7 (gIA q_11 0)) 8 (gIA q_13 0)) 9 (gIA q_15 0)) 12 (0 : Int32)) 13 (0 : Int32))) := Hx_set X (wG_sI (k := 13) rfl) hP hD hS
  refine lv_aload_n hx hb dX9_clear_74 rfl (lv_at hl 0 rfl) ?_
  refine lv_lconst (v := (0 : Int64)) hx hb dX9_clear_75 (by decide) ?_
  refine va_put (D := D.1) (ci := 9) (v := .long (0 : Int64)) (ty := .long) (C := RX9) (T := TX9) (N := 17) hx hb hts wi_X9 tyX9 tyX9_ok nmX9 hown X.1 X.2.1 X.2.2.1 X.2.2.2.1 0 rfl rfl 14 (by decide) (hts _ q1_85) (fun _ h9 => h9) rfl (by decide +kernel) rfl rfl (by rw [List.length_map, List.length_range]; decide) dX9_clear_76 (fun H locs hP hD hS => ?_)
  have X : Hx D (tX9 yT) A s H locs (wX9 hT aT yT (sL (sI (sI (sIA (sIA (sIA (sIA (sDA (sLA (sDA (sLA gT 0 (gLA q_1 0)) 1 (gDA q_3 0)) 2 (gLA q_5 0)) 3 (gDA q_7 0)) 6 (gIA q_9 0)) 7 (gIA q_11 0)) 8 (gIA q_13 0)) 9 (gIA q_15 0)) 12 (0 : Int32)) 13 (0 : Int32)) 14 (0 : Int64))) := Hx_set X (wG_sL (k := 14) rfl) hP hD hS
  have hq := Option.some.inj hF
  subst hq
  exact rt_v C X dX9_clear_79

/-! ### X9_takeOver -/
theorem dX9_takeOver_0 : decode cX9_takeOver 0 = .ok (.aload_n 1, 1) := by decide +kernel
theorem dX9_takeOver_1 : decode cX9_takeOver 1 = .ok (.getfield 9, 3) := by decide +kernel
theorem dX9_takeOver_4 : decode cX9_takeOver 4 = .ok (.iconst 0, 1) := by decide +kernel
theorem dX9_takeOver_5 : decode cX9_takeOver 5 = .ok (.aload_n 0, 1) := by decide +kernel
theorem dX9_takeOver_6 : decode cX9_takeOver 6 = .ok (.getfield 9, 3) := by decide +kernel
theorem dX9_takeOver_9 : decode cX9_takeOver 9 = .ok (.iconst 0, 1) := by decide +kernel
theorem dX9_takeOver_10 : decode cX9_takeOver 10 = .ok (.bipush 40, 2) := by decide +kernel
theorem dX9_takeOver_12 : decode cX9_takeOver 12 = .ok (.invokestatic 80, 3) := by decide +kernel
theorem dX9_takeOver_15 : decode cX9_takeOver 15 = .ok (.aload_n 1, 1) := by decide +kernel
theorem dX9_takeOver_16 : decode cX9_takeOver 16 = .ok (.getfield 15, 3) := by decide +kernel
theorem dX9_takeOver_19 : decode cX9_takeOver 19 = .ok (.iconst 0, 1) := by decide +kernel
theorem dX9_takeOver_20 : decode cX9_takeOver 20 = .ok (.aload_n 0, 1) := by decide +kernel
theorem dX9_takeOver_21 : decode cX9_takeOver 21 = .ok (.getfield 15, 3) := by decide +kernel
theorem dX9_takeOver_24 : decode cX9_takeOver 24 = .ok (.iconst 0, 1) := by decide +kernel
theorem dX9_takeOver_25 : decode cX9_takeOver 25 = .ok (.bipush 40, 2) := by decide +kernel
theorem dX9_takeOver_27 : decode cX9_takeOver 27 = .ok (.invokestatic 80, 3) := by decide +kernel
theorem dX9_takeOver_30 : decode cX9_takeOver 30 = .ok (.aload_n 1, 1) := by decide +kernel
theorem dX9_takeOver_31 : decode cX9_takeOver 31 = .ok (.getfield 19, 3) := by decide +kernel
theorem dX9_takeOver_34 : decode cX9_takeOver 34 = .ok (.iconst 0, 1) := by decide +kernel
theorem dX9_takeOver_35 : decode cX9_takeOver 35 = .ok (.aload_n 0, 1) := by decide +kernel
theorem dX9_takeOver_36 : decode cX9_takeOver 36 = .ok (.getfield 19, 3) := by decide +kernel
theorem dX9_takeOver_39 : decode cX9_takeOver 39 = .ok (.iconst 0, 1) := by decide +kernel
theorem dX9_takeOver_40 : decode cX9_takeOver 40 = .ok (.bipush 40, 2) := by decide +kernel
theorem dX9_takeOver_42 : decode cX9_takeOver 42 = .ok (.invokestatic 80, 3) := by decide +kernel
theorem dX9_takeOver_45 : decode cX9_takeOver 45 = .ok (.aload_n 1, 1) := by decide +kernel
theorem dX9_takeOver_46 : decode cX9_takeOver 46 = .ok (.getfield 22, 3) := by decide +kernel
theorem dX9_takeOver_49 : decode cX9_takeOver 49 = .ok (.iconst 0, 1) := by decide +kernel
theorem dX9_takeOver_50 : decode cX9_takeOver 50 = .ok (.aload_n 0, 1) := by decide +kernel
theorem dX9_takeOver_51 : decode cX9_takeOver 51 = .ok (.getfield 22, 3) := by decide +kernel
theorem dX9_takeOver_54 : decode cX9_takeOver 54 = .ok (.iconst 0, 1) := by decide +kernel
theorem dX9_takeOver_55 : decode cX9_takeOver 55 = .ok (.bipush 40, 2) := by decide +kernel
theorem dX9_takeOver_57 : decode cX9_takeOver 57 = .ok (.invokestatic 80, 3) := by decide +kernel
theorem dX9_takeOver_60 : decode cX9_takeOver 60 = .ok (.aload_n 1, 1) := by decide +kernel
theorem dX9_takeOver_61 : decode cX9_takeOver 61 = .ok (.getfield 25, 3) := by decide +kernel
theorem dX9_takeOver_64 : decode cX9_takeOver 64 = .ok (.iconst 0, 1) := by decide +kernel
theorem dX9_takeOver_65 : decode cX9_takeOver 65 = .ok (.aload_n 0, 1) := by decide +kernel
theorem dX9_takeOver_66 : decode cX9_takeOver 66 = .ok (.getfield 25, 3) := by decide +kernel
theorem dX9_takeOver_69 : decode cX9_takeOver 69 = .ok (.iconst 0, 1) := by decide +kernel
theorem dX9_takeOver_70 : decode cX9_takeOver 70 = .ok (.sipush 1280, 3) := by decide +kernel
theorem dX9_takeOver_73 : decode cX9_takeOver 73 = .ok (.invokestatic 80, 3) := by decide +kernel
theorem dX9_takeOver_76 : decode cX9_takeOver 76 = .ok (.aload_n 1, 1) := by decide +kernel
theorem dX9_takeOver_77 : decode cX9_takeOver 77 = .ok (.getfield 28, 3) := by decide +kernel
theorem dX9_takeOver_80 : decode cX9_takeOver 80 = .ok (.iconst 0, 1) := by decide +kernel
theorem dX9_takeOver_81 : decode cX9_takeOver 81 = .ok (.aload_n 0, 1) := by decide +kernel
theorem dX9_takeOver_82 : decode cX9_takeOver 82 = .ok (.getfield 28, 3) := by decide +kernel
theorem dX9_takeOver_85 : decode cX9_takeOver 85 = .ok (.iconst 0, 1) := by decide +kernel
theorem dX9_takeOver_86 : decode cX9_takeOver 86 = .ok (.sipush 1280, 3) := by decide +kernel
theorem dX9_takeOver_89 : decode cX9_takeOver 89 = .ok (.invokestatic 80, 3) := by decide +kernel
theorem dX9_takeOver_92 : decode cX9_takeOver 92 = .ok (.aload_n 1, 1) := by decide +kernel
theorem dX9_takeOver_93 : decode cX9_takeOver 93 = .ok (.getfield 31, 3) := by decide +kernel
theorem dX9_takeOver_96 : decode cX9_takeOver 96 = .ok (.iconst 0, 1) := by decide +kernel
theorem dX9_takeOver_97 : decode cX9_takeOver 97 = .ok (.aload_n 0, 1) := by decide +kernel
theorem dX9_takeOver_98 : decode cX9_takeOver 98 = .ok (.getfield 31, 3) := by decide +kernel
theorem dX9_takeOver_101 : decode cX9_takeOver 101 = .ok (.iconst 0, 1) := by decide +kernel
theorem dX9_takeOver_102 : decode cX9_takeOver 102 = .ok (.bipush 52, 2) := by decide +kernel
theorem dX9_takeOver_104 : decode cX9_takeOver 104 = .ok (.invokestatic 80, 3) := by decide +kernel
theorem dX9_takeOver_107 : decode cX9_takeOver 107 = .ok (.aload_n 1, 1) := by decide +kernel
theorem dX9_takeOver_108 : decode cX9_takeOver 108 = .ok (.getfield 35, 3) := by decide +kernel
theorem dX9_takeOver_111 : decode cX9_takeOver 111 = .ok (.iconst 0, 1) := by decide +kernel
theorem dX9_takeOver_112 : decode cX9_takeOver 112 = .ok (.aload_n 0, 1) := by decide +kernel
theorem dX9_takeOver_113 : decode cX9_takeOver 113 = .ok (.getfield 35, 3) := by decide +kernel
theorem dX9_takeOver_116 : decode cX9_takeOver 116 = .ok (.iconst 0, 1) := by decide +kernel
theorem dX9_takeOver_117 : decode cX9_takeOver 117 = .ok (.bipush 52, 2) := by decide +kernel
theorem dX9_takeOver_119 : decode cX9_takeOver 119 = .ok (.invokestatic 80, 3) := by decide +kernel
theorem dX9_takeOver_122 : decode cX9_takeOver 122 = .ok (.aload_n 1, 1) := by decide +kernel
theorem dX9_takeOver_123 : decode cX9_takeOver 123 = .ok (.getfield 38, 3) := by decide +kernel
theorem dX9_takeOver_126 : decode cX9_takeOver 126 = .ok (.iconst 0, 1) := by decide +kernel
theorem dX9_takeOver_127 : decode cX9_takeOver 127 = .ok (.aload_n 0, 1) := by decide +kernel
theorem dX9_takeOver_128 : decode cX9_takeOver 128 = .ok (.getfield 38, 3) := by decide +kernel
theorem dX9_takeOver_131 : decode cX9_takeOver 131 = .ok (.iconst 0, 1) := by decide +kernel
theorem dX9_takeOver_132 : decode cX9_takeOver 132 = .ok (.bipush 52, 2) := by decide +kernel
theorem dX9_takeOver_134 : decode cX9_takeOver 134 = .ok (.invokestatic 80, 3) := by decide +kernel
theorem dX9_takeOver_137 : decode cX9_takeOver 137 = .ok (.aload_n 1, 1) := by decide +kernel
theorem dX9_takeOver_138 : decode cX9_takeOver 138 = .ok (.getfield 41, 3) := by decide +kernel
theorem dX9_takeOver_141 : decode cX9_takeOver 141 = .ok (.iconst 0, 1) := by decide +kernel
theorem dX9_takeOver_142 : decode cX9_takeOver 142 = .ok (.aload_n 0, 1) := by decide +kernel
theorem dX9_takeOver_143 : decode cX9_takeOver 143 = .ok (.getfield 41, 3) := by decide +kernel
theorem dX9_takeOver_146 : decode cX9_takeOver 146 = .ok (.iconst 0, 1) := by decide +kernel
theorem dX9_takeOver_147 : decode cX9_takeOver 147 = .ok (.bipush 12, 2) := by decide +kernel
theorem dX9_takeOver_149 : decode cX9_takeOver 149 = .ok (.invokestatic 80, 3) := by decide +kernel
theorem dX9_takeOver_152 : decode cX9_takeOver 152 = .ok (.aload_n 1, 1) := by decide +kernel
theorem dX9_takeOver_153 : decode cX9_takeOver 153 = .ok (.getfield 44, 3) := by decide +kernel
theorem dX9_takeOver_156 : decode cX9_takeOver 156 = .ok (.iconst 0, 1) := by decide +kernel
theorem dX9_takeOver_157 : decode cX9_takeOver 157 = .ok (.aload_n 0, 1) := by decide +kernel
theorem dX9_takeOver_158 : decode cX9_takeOver 158 = .ok (.getfield 44, 3) := by decide +kernel
theorem dX9_takeOver_161 : decode cX9_takeOver 161 = .ok (.iconst 0, 1) := by decide +kernel
theorem dX9_takeOver_162 : decode cX9_takeOver 162 = .ok (.bipush 64, 2) := by decide +kernel
theorem dX9_takeOver_164 : decode cX9_takeOver 164 = .ok (.invokestatic 80, 3) := by decide +kernel
theorem dX9_takeOver_167 : decode cX9_takeOver 167 = .ok (.aload_n 1, 1) := by decide +kernel
theorem dX9_takeOver_168 : decode cX9_takeOver 168 = .ok (.getfield 47, 3) := by decide +kernel
theorem dX9_takeOver_171 : decode cX9_takeOver 171 = .ok (.iconst 0, 1) := by decide +kernel
theorem dX9_takeOver_172 : decode cX9_takeOver 172 = .ok (.aload_n 0, 1) := by decide +kernel
theorem dX9_takeOver_173 : decode cX9_takeOver 173 = .ok (.getfield 47, 3) := by decide +kernel
theorem dX9_takeOver_176 : decode cX9_takeOver 176 = .ok (.iconst 0, 1) := by decide +kernel
theorem dX9_takeOver_177 : decode cX9_takeOver 177 = .ok (.bipush 64, 2) := by decide +kernel
theorem dX9_takeOver_179 : decode cX9_takeOver 179 = .ok (.invokestatic 80, 3) := by decide +kernel
theorem dX9_takeOver_182 : decode cX9_takeOver 182 = .ok (.aload_n 0, 1) := by decide +kernel
theorem dX9_takeOver_183 : decode cX9_takeOver 183 = .ok (.aload_n 1, 1) := by decide +kernel
theorem dX9_takeOver_184 : decode cX9_takeOver 184 = .ok (.getfield 50, 3) := by decide +kernel
theorem dX9_takeOver_187 : decode cX9_takeOver 187 = .ok (.putfield 50, 3) := by decide +kernel
theorem dX9_takeOver_190 : decode cX9_takeOver 190 = .ok (.aload_n 0, 1) := by decide +kernel
theorem dX9_takeOver_191 : decode cX9_takeOver 191 = .ok (.aload_n 1, 1) := by decide +kernel
theorem dX9_takeOver_192 : decode cX9_takeOver 192 = .ok (.getfield 54, 3) := by decide +kernel
theorem dX9_takeOver_195 : decode cX9_takeOver 195 = .ok (.putfield 54, 3) := by decide +kernel
theorem dX9_takeOver_198 : decode cX9_takeOver 198 = .ok (.aload_n 0, 1) := by decide +kernel
theorem dX9_takeOver_199 : decode cX9_takeOver 199 = .ok (.aload_n 1, 1) := by decide +kernel
theorem dX9_takeOver_200 : decode cX9_takeOver 200 = .ok (.getfield 57, 3) := by decide +kernel
theorem dX9_takeOver_203 : decode cX9_takeOver 203 = .ok (.putfield 57, 3) := by decide +kernel
theorem dX9_takeOver_206 : decode cX9_takeOver 206 = .ok (.aload_n 0, 1) := by decide +kernel
theorem dX9_takeOver_207 : decode cX9_takeOver 207 = .ok (.aload_n 1, 1) := by decide +kernel
theorem dX9_takeOver_208 : decode cX9_takeOver 208 = .ok (.getfield 61, 3) := by decide +kernel
theorem dX9_takeOver_211 : decode cX9_takeOver 211 = .ok (.putfield 61, 3) := by decide +kernel
theorem dX9_takeOver_214 : decode cX9_takeOver 214 = .ok (.aload_n 0, 1) := by decide +kernel
theorem dX9_takeOver_215 : decode cX9_takeOver 215 = .ok (.aload_n 1, 1) := by decide +kernel
theorem dX9_takeOver_216 : decode cX9_takeOver 216 = .ok (.getfield 65, 3) := by decide +kernel
theorem dX9_takeOver_219 : decode cX9_takeOver 219 = .ok (.putfield 65, 3) := by decide +kernel
theorem dX9_takeOver_222 : decode cX9_takeOver 222 = .ok (.return_, 1) := by decide +kernel
abbrev R_X9_takeOver : Room := ({ frames := 1, cells := 0, slots := 0, locals := 64 } : Room)
def f_X9_takeOver (gT : Gs) (gP0 : Gs) : Option (Gs) :=
  grd (cpB (0 : Int32) (0 : Int32) (40 : Int32) 40 40) (grd (cpB (0 : Int32) (0 : Int32) (40 : Int32) 40 40) (grd (cpB (0 : Int32) (0 : Int32) (40 : Int32) 40 40) (grd (cpB (0 : Int32) (0 : Int32) (40 : Int32) 40 40) (grd (cpB (0 : Int32) (0 : Int32) (1280 : Int32) 1280 1280) (grd (cpB (0 : Int32) (0 : Int32) (1280 : Int32) 1280 1280) (grd (cpB (0 : Int32) (0 : Int32) (52 : Int32) 52 52) (grd (cpB (0 : Int32) (0 : Int32) (52 : Int32) 52 52) (grd (cpB (0 : Int32) (0 : Int32) (52 : Int32) 52 52) (grd (cpB (0 : Int32) (0 : Int32) (12 : Int32) 12 12) (grd (cpB (0 : Int32) (0 : Int32) (64 : Int32) 64 64) (grd (cpB (0 : Int32) (0 : Int32) (64 : Int32) 64 64) (some (sI (sD (sL (sI (sI (sIA (sLA (sIA (sIA (sIA (sIA (sDA (sLA (sDA (sLA (sDA (sLA gT 0 (va_cpy (gLA gP0 0) (gLA gT 0) (0 : Int32).toNatClampNeg (0 : Int32).toNatClampNeg (40 : Int32).toNatClampNeg)) 1 (va_cpy (gDA gP0 1) (gDA gT 1) (0 : Int32).toNatClampNeg (0 : Int32).toNatClampNeg (40 : Int32).toNatClampNeg)) 2 (va_cpy (gLA gP0 2) (gLA gT 2) (0 : Int32).toNatClampNeg (0 : Int32).toNatClampNeg (40 : Int32).toNatClampNeg)) 3 (va_cpy (gDA gP0 3) (gDA gT 3) (0 : Int32).toNatClampNeg (0 : Int32).toNatClampNeg (40 : Int32).toNatClampNeg)) 4 (va_cpy (gLA gP0 4) (gLA gT 4) (0 : Int32).toNatClampNeg (0 : Int32).toNatClampNeg (1280 : Int32).toNatClampNeg)) 5 (va_cpy (gDA gP0 5) (gDA gT 5) (0 : Int32).toNatClampNeg (0 : Int32).toNatClampNeg (1280 : Int32).toNatClampNeg)) 6 (va_cpy (gIA gP0 6) (gIA gT 6) (0 : Int32).toNatClampNeg (0 : Int32).toNatClampNeg (52 : Int32).toNatClampNeg)) 7 (va_cpy (gIA gP0 7) (gIA gT 7) (0 : Int32).toNatClampNeg (0 : Int32).toNatClampNeg (52 : Int32).toNatClampNeg)) 8 (va_cpy (gIA gP0 8) (gIA gT 8) (0 : Int32).toNatClampNeg (0 : Int32).toNatClampNeg (52 : Int32).toNatClampNeg)) 9 (va_cpy (gIA gP0 9) (gIA gT 9) (0 : Int32).toNatClampNeg (0 : Int32).toNatClampNeg (12 : Int32).toNatClampNeg)) 10 (va_cpy (gLA gP0 10) (gLA gT 10) (0 : Int32).toNatClampNeg (0 : Int32).toNatClampNeg (64 : Int32).toNatClampNeg)) 11 (va_cpy (gIA gP0 11) (gIA gT 11) (0 : Int32).toNatClampNeg (0 : Int32).toNatClampNeg (64 : Int32).toNatClampNeg)) 12 (gI gP0 12)) 13 (gI gP0 13)) 14 (gL gP0 14)) 15 (gD gP0 15)) 16 (gI gP0 16))))))))))))))
set_option maxHeartbeats 4000000 in
set_option maxRecDepth 100000 in
theorem c_X9_takeOver (l : Launch) (D : Dx) (hT : Nat) (aT : Nat → Nat) (yT : Nat → ClassId) (hP0 : Nat) (aP0 : Nat → Nat) (yP0 : Nat → ClassId) (gT : Gs) (gP0 : Gs) (q : Gs) (hF : f_X9_takeOver gT gP0 = some q) (sz : Nat) : Met l yX9_takeOver (ws_ yX9_takeOver cX9_takeOver 2 none) R_X9_takeOver (PC D (tX9 yT ++ (tX9 yP0)) [.ref hT, .ref hP0] (wX9 hT aT yT gT ++ (wX9 hP0 aP0 yP0 gP0)) sz) (QV D (va_A (wX9 hT aT yT gT ++ (wX9 hP0 aP0 yP0 gP0)) sz) (wX9 hT aT yT q ++ (wX9 hP0 aP0 yP0 gP0))) 0 0 (va_A (wX9 hT aT yT gT ++ (wX9 hP0 aP0 yP0 gP0)) sz) := by
  refine Met.ofW (cc := cX9_takeOver) (maxL := 2) (ret := none) (by decide) rfl ?_
  intro p e s m args below meth c s₁ B hml hv
  obtain ⟨rfl, hsz, hP, hK, hD, hN⟩ := hv
  subst hsz
  have C : Cx p s m _ meth c cX9_takeOver none 2 RX9 lw_all := Cx_of B hml
  have X := Hx_start hP hK hD hN
  obtain ⟨hx, hb, hr, -, hown, hts, hlk⟩ := id C
  generalize va_A (wX9 hT aT yT gT ++ (wX9 hP0 aP0 yP0 gP0)) s.heap.size = A at X ⊢
  have hl := lv_entry ([.ref hT, .ref hP0]) (n := 2) (Nat.le_of_ble_eq_true rfl)
  rw [lg_entry_eq]
  generalize (lg_sl ([.ref hT, .ref hP0]) ++ List.replicate (2 - (lg_sl ([.ref hT, .ref hP0])).length) Slot.unset).toArray = ls at hl ⊢
  have hl : lv_has ls 2 [(0, .ref hT), (1, .ref hP0)] := hl
  unfold f_X9_takeOver at hF
  refine lv_aload_n hx hb dX9_takeOver_0 rfl (lv_at hl 1 rfl) ?_
  refine va_get (D := D.1) (ci := 9) (v := .ref (aP0 0)) (C := RX9) (T := TX9) (N := 17) hx hb hts wi_X9 hown X.1 X.2.1 13 rfl rfl 0 (by decide) (hts _ q1_53) (fun _ h9 => h9) (fl_get (by decide)) dX9_takeOver_1 ?_
  refine lv_iconst (v := (0 : Int32)) hx hb dX9_takeOver_4 (by decide) ?_
  refine lv_aload_n hx hb dX9_takeOver_5 rfl (lv_at hl 0 rfl) ?_
  refine va_get (D := D.1) (ci := 9) (v := .ref (aT 0)) (C := RX9) (T := TX9) (N := 17) hx hb hts wi_X9 hown X.1 X.2.1 0 rfl rfl 0 (by decide) (hts _ q1_53) (fun _ h9 => h9) (fl_get (by decide)) dX9_takeOver_6 ?_
  refine lv_iconst (v := (0 : Int32)) hx hb dX9_takeOver_9 (by decide) ?_
  refine lv_bipush (v := (40 : Int32)) hx hb dX9_takeOver_10 (by decide) ?_
  obtain ⟨h_1, hF⟩ := grd_some hF
  refine va_copyl (D := D.1) (f := gLA gP0 0) (g := gLA gT 0) hx hb (by rw [hml]; exact hl.1.symm) hown (hts _ q6_1) (hts _ q4_77) (hts _ q4_76) (hts _ q1_20) X.1 X.2.1 X.2.2.1 X.2.2.2.1 14 1 12 0 rfl rfl rfl rfl (by decide) (cpB_1 h_1) (cpB_2 h_1) (cpB_3 h_1) (cpB_4 h_1) (cpB_5 h_1) (fun _ _ => rfl) (Nat.le_of_ble_eq_true rfl) (Nat.le_of_ble_eq_true rfl) dX9_takeOver_12 (fun H locs hP hD hS => ?_)
  have X : Hx D (tX9 yT ++ (tX9 yP0)) A s H locs (wX9 hT aT yT (sLA gT 0 (va_cpy (gLA gP0 0) (gLA gT 0) (0 : Int32).toNatClampNeg (0 : Int32).toNatClampNeg (40 : Int32).toNatClampNeg)) ++ (wX9 hP0 aP0 yP0 gP0)) := Hx_set X (set_l (by rw [wG_len (m := 13) rfl]; decide) (wG_sLA (i := 0) (k := 0) ndX9 rfl rfl)) hP hD hS
  refine lv_aload_n hx hb dX9_takeOver_15 rfl (lv_at hl 1 rfl) ?_
  refine va_get (D := D.1) (ci := 9) (v := .ref (aP0 1)) (C := RX9) (T := TX9) (N := 17) hx hb hts wi_X9 hown X.1 X.2.1 13 rfl rfl 1 (by decide) (hts _ q1_56) (fun _ h9 => h9) (fl_get (by decide)) dX9_takeOver_16 ?_
  refine lv_iconst (v := (0 : Int32)) hx hb dX9_takeOver_19 (by decide) ?_
  refine lv_aload_n hx hb dX9_takeOver_20 rfl (lv_at hl 0 rfl) ?_
  refine va_get (D := D.1) (ci := 9) (v := .ref (aT 1)) (C := RX9) (T := TX9) (N := 17) hx hb hts wi_X9 hown X.1 X.2.1 0 rfl rfl 1 (by decide) (hts _ q1_56) (fun _ h9 => h9) (fl_get (by decide)) dX9_takeOver_21 ?_
  refine lv_iconst (v := (0 : Int32)) hx hb dX9_takeOver_24 (by decide) ?_
  refine lv_bipush (v := (40 : Int32)) hx hb dX9_takeOver_25 (by decide) ?_
  obtain ⟨h_2, hF⟩ := grd_some hF
  refine va_copyd (D := D.1) (f := gDA gP0 1) (g := gDA gT 1) hx hb (by rw [hml]; exact hl.1.symm) hown (hts _ q6_1) (hts _ q4_77) (hts _ q4_76) (hts _ q1_20) X.1 X.2.1 X.2.2.1 X.2.2.2.1 15 2 13 1 rfl rfl rfl rfl (by decide) (cpB_1 h_2) (cpB_2 h_2) (cpB_3 h_2) (cpB_4 h_2) (cpB_5 h_2) (fun _ _ => rfl) (Nat.le_of_ble_eq_true rfl) (Nat.le_of_ble_eq_true rfl) dX9_takeOver_27 (fun H locs hP hD hS => ?_)
  have X : Hx D (tX9 yT ++ (tX9 yP0)) A s H locs (wX9 hT aT yT (sDA (sLA gT 0 (va_cpy (gLA gP0 0) (gLA gT 0) (0 : Int32).toNatClampNeg (0 : Int32).toNatClampNeg (40 : Int32).toNatClampNeg)) 1 (va_cpy (gDA gP0 1) (gDA gT 1) (0 : Int32).toNatClampNeg (0 : Int32).toNatClampNeg (40 : Int32).toNatClampNeg)) ++ (wX9 hP0 aP0 yP0 gP0)) := Hx_set X (set_l (by rw [wG_len (m := 13) rfl]; decide) (wG_sDA (i := 1) (k := 1) ndX9 rfl rfl)) hP hD hS
  refine lv_aload_n hx hb dX9_takeOver_30 rfl (lv_at hl 1 rfl) ?_
  refine va_get (D := D.1) (ci := 9) (v := .ref (aP0 2)) (C := RX9) (T := TX9) (N := 17) hx hb hts wi_X9 hown X.1 X.2.1 13 rfl rfl 2 (by decide) (hts _ q1_59) (fun _ h9 => h9) (fl_get (by decide)) dX9_takeOver_31 ?_
  refine lv_iconst (v := (0 : Int32)) hx hb dX9_takeOver_34 (by decide) ?_
  refine lv_aload_n hx hb dX9_takeOver_35 rfl (lv_at hl 0 rfl) ?_
  refine va_get (D := D.1) (ci := 9) (v := .ref (aT 2)) (C := RX9) (T := TX9) (N := 17) hx hb hts wi_X9 hown X.1 X.2.1 0 rfl rfl 2 (by decide) (hts _ q1_59) (fun _ h9 => h9) (fl_get (by decide)) dX9_takeOver_36 ?_
  refine lv_iconst (v := (0 : Int32)) hx hb dX9_takeOver_39 (by decide) ?_
  refine lv_bipush (v := (40 : Int32)) hx hb dX9_takeOver_40 (by decide) ?_
  obtain ⟨h_3, hF⟩ := grd_some hF
  refine va_copyl (D := D.1) (f := gLA gP0 2) (g := gLA gT 2) hx hb (by rw [hml]; exact hl.1.symm) hown (hts _ q6_1) (hts _ q4_77) (hts _ q4_76) (hts _ q1_20) X.1 X.2.1 X.2.2.1 X.2.2.2.1 16 3 14 2 rfl rfl rfl rfl (by decide) (cpB_1 h_3) (cpB_2 h_3) (cpB_3 h_3) (cpB_4 h_3) (cpB_5 h_3) (fun _ _ => rfl) (Nat.le_of_ble_eq_true rfl) (Nat.le_of_ble_eq_true rfl) dX9_takeOver_42 (fun H locs hP hD hS => ?_)
  have X : Hx D (tX9 yT ++ (tX9 yP0)) A s H locs (wX9 hT aT yT (sLA (sDA (sLA gT 0 (va_cpy (gLA gP0 0) (gLA gT 0) (0 : Int32).toNatClampNeg (0 : Int32).toNatClampNeg (40 : Int32).toNatClampNeg)) 1 (va_cpy (gDA gP0 1) (gDA gT 1) (0 : Int32).toNatClampNeg (0 : Int32).toNatClampNeg (40 : Int32).toNatClampNeg)) 2 (va_cpy (gLA gP0 2) (gLA gT 2) (0 : Int32).toNatClampNeg (0 : Int32).toNatClampNeg (40 : Int32).toNatClampNeg)) ++ (wX9 hP0 aP0 yP0 gP0)) := Hx_set X (set_l (by rw [wG_len (m := 13) rfl]; decide) (wG_sLA (i := 2) (k := 2) ndX9 rfl rfl)) hP hD hS
  refine lv_aload_n hx hb dX9_takeOver_45 rfl (lv_at hl 1 rfl) ?_
  refine va_get (D := D.1) (ci := 9) (v := .ref (aP0 3)) (C := RX9) (T := TX9) (N := 17) hx hb hts wi_X9 hown X.1 X.2.1 13 rfl rfl 3 (by decide) (hts _ q1_62) (fun _ h9 => h9) (fl_get (by decide)) dX9_takeOver_46 ?_
  refine lv_iconst (v := (0 : Int32)) hx hb dX9_takeOver_49 (by decide) ?_
  refine lv_aload_n hx hb dX9_takeOver_50 rfl (lv_at hl 0 rfl) ?_
  refine va_get (D := D.1) (ci := 9) (v := .ref (aT 3)) (C := RX9) (T := TX9) (N := 17) hx hb hts wi_X9 hown X.1 X.2.1 0 rfl rfl 3 (by decide) (hts _ q1_62) (fun _ h9 => h9) (fl_get (by decide)) dX9_takeOver_51 ?_
  refine lv_iconst (v := (0 : Int32)) hx hb dX9_takeOver_54 (by decide) ?_
  refine lv_bipush (v := (40 : Int32)) hx hb dX9_takeOver_55 (by decide) ?_
  obtain ⟨h_4, hF⟩ := grd_some hF
  refine va_copyd (D := D.1) (f := gDA gP0 3) (g := gDA gT 3) hx hb (by rw [hml]; exact hl.1.symm) hown (hts _ q6_1) (hts _ q4_77) (hts _ q4_76) (hts _ q1_20) X.1 X.2.1 X.2.2.1 X.2.2.2.1 17 4 15 3 rfl rfl rfl rfl (by decide) (cpB_1 h_4) (cpB_2 h_4) (cpB_3 h_4) (cpB_4 h_4) (cpB_5 h_4) (fun _ _ => rfl) (Nat.le_of_ble_eq_true rfl) (Nat.le_of_ble_eq_true rfl) dX9_takeOver_57 (fun H locs hP hD hS => ?_)
  have X : Hx D (tX9 yT ++ (tX9 yP0)) A s H locs (wX9 hT aT yT (sDA (sLA (sDA (sLA gT 0 (va_cpy (gLA gP0 0) (gLA gT 0) (0 : Int32).toNatClampNeg (0 : Int32).toNatClampNeg (40 : Int32).toNatClampNeg)) 1 (va_cpy (gDA gP0 1) (gDA gT 1) (0 : Int32).toNatClampNeg (0 : Int32).toNatClampNeg (40 : Int32).toNatClampNeg)) 2 (va_cpy (gLA gP0 2) (gLA gT 2) (0 : Int32).toNatClampNeg (0 : Int32).toNatClampNeg (40 : Int32).toNatClampNeg)) 3 (va_cpy (gDA gP0 3) (gDA gT 3) (0 : Int32).toNatClampNeg (0 : Int32).toNatClampNeg (40 : Int32).toNatClampNeg)) ++ (wX9 hP0 aP0 yP0 gP0)) := Hx_set X (set_l (by rw [wG_len (m := 13) rfl]; decide) (wG_sDA (i := 3) (k := 3) ndX9 rfl rfl)) hP hD hS
  refine lv_aload_n hx hb dX9_takeOver_60 rfl (lv_at hl 1 rfl) ?_
  refine va_get (D := D.1) (ci := 9) (v := .ref (aP0 4)) (C := RX9) (T := TX9) (N := 17) hx hb hts wi_X9 hown X.1 X.2.1 13 rfl rfl 4 (by decide) (hts _ q1_65) (fun _ h9 => h9) (fl_get (by decide)) dX9_takeOver_61 ?_
  refine lv_iconst (v := (0 : Int32)) hx hb dX9_takeOver_64 (by decide) ?_
  refine lv_aload_n hx hb dX9_takeOver_65 rfl (lv_at hl 0 rfl) ?_
  refine va_get (D := D.1) (ci := 9) (v := .ref (aT 4)) (C := RX9) (T := TX9) (N := 17) hx hb hts wi_X9 hown X.1 X.2.1 0 rfl rfl 4 (by decide) (hts _ q1_65) (fun _ h9 => h9) (fl_get (by decide)) dX9_takeOver_66 ?_
  refine lv_iconst (v := (0 : Int32)) hx hb dX9_takeOver_69 (by decide) ?_
  refine lv_sipush (v := (1280 : Int32)) hx hb dX9_takeOver_70 (by decide) ?_
  obtain ⟨h_5, hF⟩ := grd_some hF
  refine va_copyl (D := D.1) (f := gLA gP0 4) (g := gLA gT 4) hx hb (by rw [hml]; exact hl.1.symm) hown (hts _ q6_1) (hts _ q4_77) (hts _ q4_76) (hts _ q1_20) X.1 X.2.1 X.2.2.1 X.2.2.2.1 18 5 16 4 rfl rfl rfl rfl (by decide) (cpB_1 h_5) (cpB_2 h_5) (cpB_3 h_5) (cpB_4 h_5) (cpB_5 h_5) (fun _ _ => rfl) (Nat.le_of_ble_eq_true rfl) (Nat.le_of_ble_eq_true rfl) dX9_takeOver_73 (fun H locs hP hD hS => ?_)
  have X : Hx D (tX9 yT ++ (tX9 yP0)) A s H locs (wX9 hT aT yT (sLA (sDA (sLA (sDA (sLA gT 0 (va_cpy (gLA gP0 0) (gLA gT 0) (0 : Int32).toNatClampNeg (0 : Int32).toNatClampNeg (40 : Int32).toNatClampNeg)) 1 (va_cpy (gDA gP0 1) (gDA gT 1) (0 : Int32).toNatClampNeg (0 : Int32).toNatClampNeg (40 : Int32).toNatClampNeg)) 2 (va_cpy (gLA gP0 2) (gLA gT 2) (0 : Int32).toNatClampNeg (0 : Int32).toNatClampNeg (40 : Int32).toNatClampNeg)) 3 (va_cpy (gDA gP0 3) (gDA gT 3) (0 : Int32).toNatClampNeg (0 : Int32).toNatClampNeg (40 : Int32).toNatClampNeg)) 4 (va_cpy (gLA gP0 4) (gLA gT 4) (0 : Int32).toNatClampNeg (0 : Int32).toNatClampNeg (1280 : Int32).toNatClampNeg)) ++ (wX9 hP0 aP0 yP0 gP0)) := Hx_set X (set_l (by rw [wG_len (m := 13) rfl]; decide) (wG_sLA (i := 4) (k := 4) ndX9 rfl rfl)) hP hD hS
  refine lv_aload_n hx hb dX9_takeOver_76 rfl (lv_at hl 1 rfl) ?_
  refine va_get (D := D.1) (ci := 9) (v := .ref (aP0 5)) (C := RX9) (T := TX9) (N := 17) hx hb hts wi_X9 hown X.1 X.2.1 13 rfl rfl 5 (by decide) (hts _ q1_67) (fun _ h9 => h9) (fl_get (by decide)) dX9_takeOver_77 ?_
  refine lv_iconst (v := (0 : Int32)) hx hb dX9_takeOver_80 (by decide) ?_
  refine lv_aload_n hx hb dX9_takeOver_81 rfl (lv_at hl 0 rfl) ?_
  refine va_get (D := D.1) (ci := 9) (v := .ref (aT 5)) (C := RX9) (T := TX9) (N := 17) hx hb hts wi_X9 hown X.1 X.2.1 0 rfl rfl 5 (by decide) (hts _ q1_67) (fun _ h9 => h9) (fl_get (by decide)) dX9_takeOver_82 ?_
  refine lv_iconst (v := (0 : Int32)) hx hb dX9_takeOver_85 (by decide) ?_
  refine lv_sipush (v := (1280 : Int32)) hx hb dX9_takeOver_86 (by decide) ?_
  obtain ⟨h_6, hF⟩ := grd_some hF
  refine va_copyd (D := D.1) (f := gDA gP0 5) (g := gDA gT 5) hx hb (by rw [hml]; exact hl.1.symm) hown (hts _ q6_1) (hts _ q4_77) (hts _ q4_76) (hts _ q1_20) X.1 X.2.1 X.2.2.1 X.2.2.2.1 19 6 17 5 rfl rfl rfl rfl (by decide) (cpB_1 h_6) (cpB_2 h_6) (cpB_3 h_6) (cpB_4 h_6) (cpB_5 h_6) (fun _ _ => rfl) (Nat.le_of_ble_eq_true rfl) (Nat.le_of_ble_eq_true rfl) dX9_takeOver_89 (fun H locs hP hD hS => ?_)
  have X : Hx D (tX9 yT ++ (tX9 yP0)) A s H locs (wX9 hT aT yT (sDA (sLA (sDA (sLA (sDA (sLA gT 0 (va_cpy (gLA gP0 0) (gLA gT 0) (0 : Int32).toNatClampNeg (0 : Int32).toNatClampNeg (40 : Int32).toNatClampNeg)) 1 (va_cpy (gDA gP0 1) (gDA gT 1) (0 : Int32).toNatClampNeg (0 : Int32).toNatClampNeg (40 : Int32).toNatClampNeg)) 2 (va_cpy (gLA gP0 2) (gLA gT 2) (0 : Int32).toNatClampNeg (0 : Int32).toNatClampNeg (40 : Int32).toNatClampNeg)) 3 (va_cpy (gDA gP0 3) (gDA gT 3) (0 : Int32).toNatClampNeg (0 : Int32).toNatClampNeg (40 : Int32).toNatClampNeg)) 4 (va_cpy (gLA gP0 4) (gLA gT 4) (0 : Int32).toNatClampNeg (0 : Int32).toNatClampNeg (1280 : Int32).toNatClampNeg)) 5 (va_cpy (gDA gP0 5) (gDA gT 5) (0 : Int32).toNatClampNeg (0 : Int32).toNatClampNeg (1280 : Int32).toNatClampNeg)) ++ (wX9 hP0 aP0 yP0 gP0)) := Hx_set X (set_l (by rw [wG_len (m := 13) rfl]; decide) (wG_sDA (i := 5) (k := 5) ndX9 rfl rfl)) hP hD hS
  refine lv_aload_n hx hb dX9_takeOver_92 rfl (lv_at hl 1 rfl) ?_
  refine va_get (D := D.1) (ci := 9) (v := .ref (aP0 6)) (C := RX9) (T := TX9) (N := 17) hx hb hts wi_X9 hown X.1 X.2.1 13 rfl rfl 6 (by decide) (hts _ q1_69) (fun _ h9 => h9) (fl_get (by decide)) dX9_takeOver_93 ?_
  refine lv_iconst (v := (0 : Int32)) hx hb dX9_takeOver_96 (by decide) ?_
  refine lv_aload_n hx hb dX9_takeOver_97 rfl (lv_at hl 0 rfl) ?_
  refine va_get (D := D.1) (ci := 9) (v := .ref (aT 6)) (C := RX9) (T := TX9) (N := 17) hx hb hts wi_X9 hown X.1 X.2.1 0 rfl rfl 6 (by decide) (hts _ q1_69) (fun _ h9 => h9) (fl_get (by decide)) dX9_takeOver_98 ?_
  refine lv_iconst (v := (0 : Int32)) hx hb dX9_takeOver_101 (by decide) ?_
  refine lv_bipush (v := (52 : Int32)) hx hb dX9_takeOver_102 (by decide) ?_
  obtain ⟨h_7, hF⟩ := grd_some hF
  refine va_copyi (D := D.1) (f := gIA gP0 6) (g := gIA gT 6) hx hb (by rw [hml]; exact hl.1.symm) hown (hts _ q6_1) (hts _ q4_77) (hts _ q4_76) (hts _ q1_20) X.1 X.2.1 X.2.2.1 X.2.2.2.1 20 7 18 6 rfl rfl rfl rfl (by decide) (cpB_1 h_7) (cpB_2 h_7) (cpB_3 h_7) (cpB_4 h_7) (cpB_5 h_7) (fun _ _ => rfl) (Nat.le_of_ble_eq_true rfl) (Nat.le_of_ble_eq_true rfl) dX9_takeOver_104 (fun H locs hP hD hS => ?_)
  have X : Hx D (tX9 yT ++ (tX9 yP0)) A s H locs (wX9 hT aT yT (sIA (sDA (sLA (sDA (sLA (sDA (sLA gT 0 (va_cpy (gLA gP0 0) (gLA gT 0) (0 : Int32).toNatClampNeg (0 : Int32).toNatClampNeg (40 : Int32).toNatClampNeg)) 1 (va_cpy (gDA gP0 1) (gDA gT 1) (0 : Int32).toNatClampNeg (0 : Int32).toNatClampNeg (40 : Int32).toNatClampNeg)) 2 (va_cpy (gLA gP0 2) (gLA gT 2) (0 : Int32).toNatClampNeg (0 : Int32).toNatClampNeg (40 : Int32).toNatClampNeg)) 3 (va_cpy (gDA gP0 3) (gDA gT 3) (0 : Int32).toNatClampNeg (0 : Int32).toNatClampNeg (40 : Int32).toNatClampNeg)) 4 (va_cpy (gLA gP0 4) (gLA gT 4) (0 : Int32).toNatClampNeg (0 : Int32).toNatClampNeg (1280 : Int32).toNatClampNeg)) 5 (va_cpy (gDA gP0 5) (gDA gT 5) (0 : Int32).toNatClampNeg (0 : Int32).toNatClampNeg (1280 : Int32).toNatClampNeg)) 6 (va_cpy (gIA gP0 6) (gIA gT 6) (0 : Int32).toNatClampNeg (0 : Int32).toNatClampNeg (52 : Int32).toNatClampNeg)) ++ (wX9 hP0 aP0 yP0 gP0)) := Hx_set X (set_l (by rw [wG_len (m := 13) rfl]; decide) (wG_sIA (i := 6) (k := 6) ndX9 rfl rfl)) hP hD hS
  refine lv_aload_n hx hb dX9_takeOver_107 rfl (lv_at hl 1 rfl) ?_
  refine va_get (D := D.1) (ci := 9) (v := .ref (aP0 7)) (C := RX9) (T := TX9) (N := 17) hx hb hts wi_X9 hown X.1 X.2.1 13 rfl rfl 7 (by decide) (hts _ q1_71) (fun _ h9 => h9) (fl_get (by decide)) dX9_takeOver_108 ?_
  refine lv_iconst (v := (0 : Int32)) hx hb dX9_takeOver_111 (by decide) ?_
  refine lv_aload_n hx hb dX9_takeOver_112 rfl (lv_at hl 0 rfl) ?_
  refine va_get (D := D.1) (ci := 9) (v := .ref (aT 7)) (C := RX9) (T := TX9) (N := 17) hx hb hts wi_X9 hown X.1 X.2.1 0 rfl rfl 7 (by decide) (hts _ q1_71) (fun _ h9 => h9) (fl_get (by decide)) dX9_takeOver_113 ?_
  refine lv_iconst (v := (0 : Int32)) hx hb dX9_takeOver_116 (by decide) ?_
  refine lv_bipush (v := (52 : Int32)) hx hb dX9_takeOver_117 (by decide) ?_
  obtain ⟨h_8, hF⟩ := grd_some hF
  refine va_copyi (D := D.1) (f := gIA gP0 7) (g := gIA gT 7) hx hb (by rw [hml]; exact hl.1.symm) hown (hts _ q6_1) (hts _ q4_77) (hts _ q4_76) (hts _ q1_20) X.1 X.2.1 X.2.2.1 X.2.2.2.1 21 8 19 7 rfl rfl rfl rfl (by decide) (cpB_1 h_8) (cpB_2 h_8) (cpB_3 h_8) (cpB_4 h_8) (cpB_5 h_8) (fun _ _ => rfl) (Nat.le_of_ble_eq_true rfl) (Nat.le_of_ble_eq_true rfl) dX9_takeOver_119 (fun H locs hP hD hS => ?_)
  have X : Hx D (tX9 yT ++ (tX9 yP0)) A s H locs (wX9 hT aT yT (sIA (sIA (sDA (sLA (sDA (sLA (sDA (sLA gT 0 (va_cpy (gLA gP0 0) (gLA gT 0) (0 : Int32).toNatClampNeg (0 : Int32).toNatClampNeg (40 : Int32).toNatClampNeg)) 1 (va_cpy (gDA gP0 1) (gDA gT 1) (0 : Int32).toNatClampNeg (0 : Int32).toNatClampNeg (40 : Int32).toNatClampNeg)) 2 (va_cpy (gLA gP0 2) (gLA gT 2) (0 : Int32).toNatClampNeg (0 : Int32).toNatClampNeg (40 : Int32).toNatClampNeg)) 3 (va_cpy (gDA gP0 3) (gDA gT 3) (0 : Int32).toNatClampNeg (0 : Int32).toNatClampNeg (40 : Int32).toNatClampNeg)) 4 (va_cpy (gLA gP0 4) (gLA gT 4) (0 : Int32).toNatClampNeg (0 : Int32).toNatClampNeg (1280 : Int32).toNatClampNeg)) 5 (va_cpy (gDA gP0 5) (gDA gT 5) (0 : Int32).toNatClampNeg (0 : Int32).toNatClampNeg (1280 : Int32).toNatClampNeg)) 6 (va_cpy (gIA gP0 6) (gIA gT 6) (0 : Int32).toNatClampNeg (0 : Int32).toNatClampNeg (52 : Int32).toNatClampNeg)) 7 (va_cpy (gIA gP0 7) (gIA gT 7) (0 : Int32).toNatClampNeg (0 : Int32).toNatClampNeg (52 : Int32).toNatClampNeg)) ++ (wX9 hP0 aP0 yP0 gP0)) := Hx_set X (set_l (by rw [wG_len (m := 13) rfl]; decide) (wG_sIA (i := 7) (k := 7) ndX9 rfl rfl)) hP hD hS
  refine lv_aload_n hx hb dX9_takeOver_122 rfl (lv_at hl 1 rfl) ?_
  refine va_get (D := D.1) (ci := 9) (v := .ref (aP0 8)) (C := RX9) (T := TX9) (N := 17) hx hb hts wi_X9 hown X.1 X.2.1 13 rfl rfl 8 (by decide) (hts _ q1_73) (fun _ h9 => h9) (fl_get (by decide)) dX9_takeOver_123 ?_
  refine lv_iconst (v := (0 : Int32)) hx hb dX9_takeOver_126 (by decide) ?_
  refine lv_aload_n hx hb dX9_takeOver_127 rfl (lv_at hl 0 rfl) ?_
  refine va_get (D := D.1) (ci := 9) (v := .ref (aT 8)) (C := RX9) (T := TX9) (N := 17) hx hb hts wi_X9 hown X.1 X.2.1 0 rfl rfl 8 (by decide) (hts _ q1_73) (fun _ h9 => h9) (fl_get (by decide)) dX9_takeOver_128 ?_
  refine lv_iconst (v := (0 : Int32)) hx hb dX9_takeOver_131 (by decide) ?_
  refine lv_bipush (v := (52 : Int32)) hx hb dX9_takeOver_132 (by decide) ?_
  obtain ⟨h_9, hF⟩ := grd_some hF
  refine va_copyi (D := D.1) (f := gIA gP0 8) (g := gIA gT 8) hx hb (by rw [hml]; exact hl.1.symm) hown (hts _ q6_1) (hts _ q4_77) (hts _ q4_76) (hts _ q1_20) X.1 X.2.1 X.2.2.1 X.2.2.2.1 22 9 20 8 rfl rfl rfl rfl (by decide) (cpB_1 h_9) (cpB_2 h_9) (cpB_3 h_9) (cpB_4 h_9) (cpB_5 h_9) (fun _ _ => rfl) (Nat.le_of_ble_eq_true rfl) (Nat.le_of_ble_eq_true rfl) dX9_takeOver_134 (fun H locs hP hD hS => ?_)
  have X : Hx D (tX9 yT ++ (tX9 yP0)) A s H locs (wX9 hT aT yT (sIA (sIA (sIA (sDA (sLA (sDA (sLA (sDA (sLA gT 0 (va_cpy (gLA gP0 0) (gLA gT 0) (0 : Int32).toNatClampNeg (0 : Int32).toNatClampNeg (40 : Int32).toNatClampNeg)) 1 (va_cpy (gDA gP0 1) (gDA gT 1) (0 : Int32).toNatClampNeg (0 : Int32).toNatClampNeg (40 : Int32).toNatClampNeg)) 2 (va_cpy (gLA gP0 2) (gLA gT 2) (0 : Int32).toNatClampNeg (0 : Int32).toNatClampNeg (40 : Int32).toNatClampNeg)) 3 (va_cpy (gDA gP0 3) (gDA gT 3) (0 : Int32).toNatClampNeg (0 : Int32).toNatClampNeg (40 : Int32).toNatClampNeg)) 4 (va_cpy (gLA gP0 4) (gLA gT 4) (0 : Int32).toNatClampNeg (0 : Int32).toNatClampNeg (1280 : Int32).toNatClampNeg)) 5 (va_cpy (gDA gP0 5) (gDA gT 5) (0 : Int32).toNatClampNeg (0 : Int32).toNatClampNeg (1280 : Int32).toNatClampNeg)) 6 (va_cpy (gIA gP0 6) (gIA gT 6) (0 : Int32).toNatClampNeg (0 : Int32).toNatClampNeg (52 : Int32).toNatClampNeg)) 7 (va_cpy (gIA gP0 7) (gIA gT 7) (0 : Int32).toNatClampNeg (0 : Int32).toNatClampNeg (52 : Int32).toNatClampNeg)) 8 (va_cpy (gIA gP0 8) (gIA gT 8) (0 : Int32).toNatClampNeg (0 : Int32).toNatClampNeg (52 : Int32).toNatClampNeg)) ++ (wX9 hP0 aP0 yP0 gP0)) := Hx_set X (set_l (by rw [wG_len (m := 13) rfl]; decide) (wG_sIA (i := 8) (k := 8) ndX9 rfl rfl)) hP hD hS
  refine lv_aload_n hx hb dX9_takeOver_137 rfl (lv_at hl 1 rfl) ?_
  refine va_get (D := D.1) (ci := 9) (v := .ref (aP0 9)) (C := RX9) (T := TX9) (N := 17) hx hb hts wi_X9 hown X.1 X.2.1 13 rfl rfl 9 (by decide) (hts _ q1_75) (fun _ h9 => h9) (fl_get (by decide)) dX9_takeOver_138 ?_
  refine lv_iconst (v := (0 : Int32)) hx hb dX9_takeOver_141 (by decide) ?_
  refine lv_aload_n hx hb dX9_takeOver_142 rfl (lv_at hl 0 rfl) ?_
  refine va_get (D := D.1) (ci := 9) (v := .ref (aT 9)) (C := RX9) (T := TX9) (N := 17) hx hb hts wi_X9 hown X.1 X.2.1 0 rfl rfl 9 (by decide) (hts _ q1_75) (fun _ h9 => h9) (fl_get (by decide)) dX9_takeOver_143 ?_
  refine lv_iconst (v := (0 : Int32)) hx hb dX9_takeOver_146 (by decide) ?_
  refine lv_bipush (v := (12 : Int32)) hx hb dX9_takeOver_147 (by decide) ?_
  obtain ⟨h_10, hF⟩ := grd_some hF
  refine va_copyi (D := D.1) (f := gIA gP0 9) (g := gIA gT 9) hx hb (by rw [hml]; exact hl.1.symm) hown (hts _ q6_1) (hts _ q4_77) (hts _ q4_76) (hts _ q1_20) X.1 X.2.1 X.2.2.1 X.2.2.2.1 23 10 21 9 rfl rfl rfl rfl (by decide) (cpB_1 h_10) (cpB_2 h_10) (cpB_3 h_10) (cpB_4 h_10) (cpB_5 h_10) (fun _ _ => rfl) (Nat.le_of_ble_eq_true rfl) (Nat.le_of_ble_eq_true rfl) dX9_takeOver_149 (fun H locs hP hD hS => ?_)
  have X : Hx D (tX9 yT ++ (tX9 yP0)) A s H locs (wX9 hT aT yT (sIA (sIA (sIA (sIA (sDA (sLA (sDA (sLA (sDA (sLA gT 0 (va_cpy (gLA gP0 0) (gLA gT 0) (0 : Int32).toNatClampNeg (0 : Int32).toNatClampNeg (40 : Int32).toNatClampNeg)) 1 (va_cpy (gDA gP0 1) (gDA gT 1) (0 : Int32).toNatClampNeg (0 : Int32).toNatClampNeg (40 : Int32).toNatClampNeg)) 2 (va_cpy (gLA gP0 2) (gLA gT 2) (0 : Int32).toNatClampNeg (0 : Int32).toNatClampNeg (40 : Int32).toNatClampNeg)) 3 (va_cpy (gDA gP0 3) (gDA gT 3) (0 : Int32).toNatClampNeg (0 : Int32).toNatClampNeg (40 : Int32).toNatClampNeg)) 4 (va_cpy (gLA gP0 4) (gLA gT 4) (0 : Int32).toNatClampNeg (0 : Int32).toNatClampNeg (1280 : Int32).toNatClampNeg)) 5 (va_cpy (gDA gP0 5) (gDA gT 5) (0 : Int32).toNatClampNeg (0 : Int32).toNatClampNeg (1280 : Int32).toNatClampNeg)) 6 (va_cpy (gIA gP0 6) (gIA gT 6) (0 : Int32).toNatClampNeg (0 : Int32).toNatClampNeg (52 : Int32).toNatClampNeg)) 7 (va_cpy (gIA gP0 7) (gIA gT 7) (0 : Int32).toNatClampNeg (0 : Int32).toNatClampNeg (52 : Int32).toNatClampNeg)) 8 (va_cpy (gIA gP0 8) (gIA gT 8) (0 : Int32).toNatClampNeg (0 : Int32).toNatClampNeg (52 : Int32).toNatClampNeg)) 9 (va_cpy (gIA gP0 9) (gIA gT 9) (0 : Int32).toNatClampNeg (0 : Int32).toNatClampNeg (12 : Int32).toNatClampNeg)) ++ (wX9 hP0 aP0 yP0 gP0)) := Hx_set X (set_l (by rw [wG_len (m := 13) rfl]; decide) (wG_sIA (i := 9) (k := 9) ndX9 rfl rfl)) hP hD hS
  refine lv_aload_n hx hb dX9_takeOver_152 rfl (lv_at hl 1 rfl) ?_
  refine va_get (D := D.1) (ci := 9) (v := .ref (aP0 10)) (C := RX9) (T := TX9) (N := 17) hx hb hts wi_X9 hown X.1 X.2.1 13 rfl rfl 10 (by decide) (hts _ q1_77) (fun _ h9 => h9) (fl_get (by decide)) dX9_takeOver_153 ?_
  refine lv_iconst (v := (0 : Int32)) hx hb dX9_takeOver_156 (by decide) ?_
  refine lv_aload_n hx hb dX9_takeOver_157 rfl (lv_at hl 0 rfl) ?_
  refine va_get (D := D.1) (ci := 9) (v := .ref (aT 10)) (C := RX9) (T := TX9) (N := 17) hx hb hts wi_X9 hown X.1 X.2.1 0 rfl rfl 10 (by decide) (hts _ q1_77) (fun _ h9 => h9) (fl_get (by decide)) dX9_takeOver_158 ?_
  refine lv_iconst (v := (0 : Int32)) hx hb dX9_takeOver_161 (by decide) ?_
  refine lv_bipush (v := (64 : Int32)) hx hb dX9_takeOver_162 (by decide) ?_
  obtain ⟨h_11, hF⟩ := grd_some hF
  refine va_copyl (D := D.1) (f := gLA gP0 10) (g := gLA gT 10) hx hb (by rw [hml]; exact hl.1.symm) hown (hts _ q6_1) (hts _ q4_77) (hts _ q4_76) (hts _ q1_20) X.1 X.2.1 X.2.2.1 X.2.2.2.1 24 11 22 10 rfl rfl rfl rfl (by decide) (cpB_1 h_11) (cpB_2 h_11) (cpB_3 h_11) (cpB_4 h_11) (cpB_5 h_11) (fun _ _ => rfl) (Nat.le_of_ble_eq_true rfl) (Nat.le_of_ble_eq_true rfl) dX9_takeOver_164 (fun H locs hP hD hS => ?_)
  have X : Hx D (tX9 yT ++ (tX9 yP0)) A s H locs (wX9 hT aT yT (sLA (sIA (sIA (sIA (sIA (sDA (sLA (sDA (sLA (sDA (sLA gT 0 (va_cpy (gLA gP0 0) (gLA gT 0) (0 : Int32).toNatClampNeg (0 : Int32).toNatClampNeg (40 : Int32).toNatClampNeg)) 1 (va_cpy (gDA gP0 1) (gDA gT 1) (0 : Int32).toNatClampNeg (0 : Int32).toNatClampNeg (40 : Int32).toNatClampNeg)) 2 (va_cpy (gLA gP0 2) (gLA gT 2) (0 : Int32).toNatClampNeg (0 : Int32).toNatClampNeg (40 : Int32).toNatClampNeg)) 3 (va_cpy (gDA gP0 3) (gDA gT 3) (0 : Int32).toNatClampNeg (0 : Int32).toNatClampNeg (40 : Int32).toNatClampNeg)) 4 (va_cpy (gLA gP0 4) (gLA gT 4) (0 : Int32).toNatClampNeg (0 : Int32).toNatClampNeg (1280 : Int32).toNatClampNeg)) 5 (va_cpy (gDA gP0 5) (gDA gT 5) (0 : Int32).toNatClampNeg (0 : Int32).toNatClampNeg (1280 : Int32).toNatClampNeg)) 6 (va_cpy (gIA gP0 6) (gIA gT 6) (0 : Int32).toNatClampNeg (0 : Int32).toNatClampNeg (52 : Int32).toNatClampNeg)) 7 (va_cpy (gIA gP0 7) (gIA gT 7) (0 : Int32).toNatClampNeg (0 : Int32).toNatClampNeg (52 : Int32).toNatClampNeg)) 8 (va_cpy (gIA gP0 8) (gIA gT 8) (0 : Int32).toNatClampNeg (0 : Int32).toNatClampNeg (52 : Int32).toNatClampNeg)) 9 (va_cpy (gIA gP0 9) (gIA gT 9) (0 : Int32).toNatClampNeg (0 : Int32).toNatClampNeg (12 : Int32).toNatClampNeg)) 10 (va_cpy (gLA gP0 10) (gLA gT 10) (0 : Int32).toNatClampNeg (0 : Int32).toNatClampNeg (64 : Int32).toNatClampNeg)) ++ (wX9 hP0 aP0 yP0 gP0)) := Hx_set X (set_l (by rw [wG_len (m := 13) rfl]; decide) (wG_sLA (i := 10) (k := 10) ndX9 rfl rfl)) hP hD hS
  refine lv_aload_n hx hb dX9_takeOver_167 rfl (lv_at hl 1 rfl) ?_
  refine va_get (D := D.1) (ci := 9) (v := .ref (aP0 11)) (C := RX9) (T := TX9) (N := 17) hx hb hts wi_X9 hown X.1 X.2.1 13 rfl rfl 11 (by decide) (hts _ q1_79) (fun _ h9 => h9) (fl_get (by decide)) dX9_takeOver_168 ?_
  refine lv_iconst (v := (0 : Int32)) hx hb dX9_takeOver_171 (by decide) ?_
  refine lv_aload_n hx hb dX9_takeOver_172 rfl (lv_at hl 0 rfl) ?_
  refine va_get (D := D.1) (ci := 9) (v := .ref (aT 11)) (C := RX9) (T := TX9) (N := 17) hx hb hts wi_X9 hown X.1 X.2.1 0 rfl rfl 11 (by decide) (hts _ q1_79) (fun _ h9 => h9) (fl_get (by decide)) dX9_takeOver_173 ?_
  refine lv_iconst (v := (0 : Int32)) hx hb dX9_takeOver_176 (by decide) ?_
  refine lv_bipush (v := (64 : Int32)) hx hb dX9_takeOver_177 (by decide) ?_
  obtain ⟨h_12, hF⟩ := grd_some hF
  refine va_copyi (D := D.1) (f := gIA gP0 11) (g := gIA gT 11) hx hb (by rw [hml]; exact hl.1.symm) hown (hts _ q6_1) (hts _ q4_77) (hts _ q4_76) (hts _ q1_20) X.1 X.2.1 X.2.2.1 X.2.2.2.1 25 12 23 11 rfl rfl rfl rfl (by decide) (cpB_1 h_12) (cpB_2 h_12) (cpB_3 h_12) (cpB_4 h_12) (cpB_5 h_12) (fun _ _ => rfl) (Nat.le_of_ble_eq_true rfl) (Nat.le_of_ble_eq_true rfl) dX9_takeOver_179 (fun H locs hP hD hS => ?_)
  have X : Hx D (tX9 yT ++ (tX9 yP0)) A s H locs (wX9 hT aT yT (sIA (sLA (sIA (sIA (sIA (sIA (sDA (sLA (sDA (sLA (sDA (sLA gT 0 (va_cpy (gLA gP0 0) (gLA gT 0) (0 : Int32).toNatClampNeg (0 : Int32).toNatClampNeg (40 : Int32).toNatClampNeg)) 1 (va_cpy (gDA gP0 1) (gDA gT 1) (0 : Int32).toNatClampNeg (0 : Int32).toNatClampNeg (40 : Int32).toNatClampNeg)) 2 (va_cpy (gLA gP0 2) (gLA gT 2) (0 : Int32).toNatClampNeg (0 : Int32).toNatClampNeg (40 : Int32).toNatClampNeg)) 3 (va_cpy (gDA gP0 3) (gDA gT 3) (0 : Int32).toNatClampNeg (0 : Int32).toNatClampNeg (40 : Int32).toNatClampNeg)) 4 (va_cpy (gLA gP0 4) (gLA gT 4) (0 : Int32).toNatClampNeg (0 : Int32).toNatClampNeg (1280 : Int32).toNatClampNeg)) 5 (va_cpy (gDA gP0 5) (gDA gT 5) (0 : Int32).toNatClampNeg (0 : Int32).toNatClampNeg (1280 : Int32).toNatClampNeg)) 6 (va_cpy (gIA gP0 6) (gIA gT 6) (0 : Int32).toNatClampNeg (0 : Int32).toNatClampNeg (52 : Int32).toNatClampNeg)) 7 (va_cpy (gIA gP0 7) (gIA gT 7) (0 : Int32).toNatClampNeg (0 : Int32).toNatClampNeg (52 : Int32).toNatClampNeg)) 8 (va_cpy (gIA gP0 8) (gIA gT 8) (0 : Int32).toNatClampNeg (0 : Int32).toNatClampNeg (52 : Int32).toNatClampNeg)) 9 (va_cpy (gIA gP0 9) (gIA gT 9) (0 : Int32).toNatClampNeg (0 : Int32).toNatClampNeg (12 : Int32).toNatClampNeg)) 10 (va_cpy (gLA gP0 10) (gLA gT 10) (0 : Int32).toNatClampNeg (0 : Int32).toNatClampNeg (64 : Int32).toNatClampNeg)) 11 (va_cpy (gIA gP0 11) (gIA gT 11) (0 : Int32).toNatClampNeg (0 : Int32).toNatClampNeg (64 : Int32).toNatClampNeg)) ++ (wX9 hP0 aP0 yP0 gP0)) := Hx_set X (set_l (by rw [wG_len (m := 13) rfl]; decide) (wG_sIA (i := 11) (k := 11) ndX9 rfl rfl)) hP hD hS
  refine lv_aload_n hx hb dX9_takeOver_182 rfl (lv_at hl 0 rfl) ?_
  refine lv_aload_n hx hb dX9_takeOver_183 rfl (lv_at hl 1 rfl) ?_
  refine va_get (D := D.1) (ci := 9) (v := .int (gI gP0 12)) (C := RX9) (T := TX9) (N := 17) hx hb hts wi_X9 hown X.1 X.2.1 13 rfl rfl 12 (by decide) (hts _ q1_81) (fun _ h9 => h9) (fl_get (by decide)) dX9_takeOver_184 ?_
  refine va_put (D := D.1) (ci := 9) (v := .int (gI gP0 12)) (ty := .int) (C := RX9) (T := TX9) (N := 17) hx hb hts wi_X9 tyX9 tyX9_ok nmX9 hown X.1 X.2.1 X.2.2.1 X.2.2.2.1 0 rfl rfl 12 (by decide) (hts _ q1_81) (fun _ h9 => h9) rfl (by decide +kernel) rfl rfl (by rw [List.length_map, List.length_range]; decide) dX9_takeOver_187 (fun H locs hP hD hS => ?_)
  have X : Hx D (tX9 yT ++ (tX9 yP0)) A s H locs (wX9 hT aT yT (sI (sIA (sLA (sIA (sIA (sIA (sIA (sDA (sLA (sDA (sLA (sDA (sLA gT 0 (va_cpy (gLA gP0 0) (gLA gT 0) (0 : Int32).toNatClampNeg (0 : Int32).toNatClampNeg (40 : Int32).toNatClampNeg)) 1 (va_cpy (gDA gP0 1) (gDA gT 1) (0 : Int32).toNatClampNeg (0 : Int32).toNatClampNeg (40 : Int32).toNatClampNeg)) 2 (va_cpy (gLA gP0 2) (gLA gT 2) (0 : Int32).toNatClampNeg (0 : Int32).toNatClampNeg (40 : Int32).toNatClampNeg)) 3 (va_cpy (gDA gP0 3) (gDA gT 3) (0 : Int32).toNatClampNeg (0 : Int32).toNatClampNeg (40 : Int32).toNatClampNeg)) 4 (va_cpy (gLA gP0 4) (gLA gT 4) (0 : Int32).toNatClampNeg (0 : Int32).toNatClampNeg (1280 : Int32).toNatClampNeg)) 5 (va_cpy (gDA gP0 5) (gDA gT 5) (0 : Int32).toNatClampNeg (0 : Int32).toNatClampNeg (1280 : Int32).toNatClampNeg)) 6 (va_cpy (gIA gP0 6) (gIA gT 6) (0 : Int32).toNatClampNeg (0 : Int32).toNatClampNeg (52 : Int32).toNatClampNeg)) 7 (va_cpy (gIA gP0 7) (gIA gT 7) (0 : Int32).toNatClampNeg (0 : Int32).toNatClampNeg (52 : Int32).toNatClampNeg)) 8 (va_cpy (gIA gP0 8) (gIA gT 8) (0 : Int32).toNatClampNeg (0 : Int32).toNatClampNeg (52 : Int32).toNatClampNeg)) 9 (va_cpy (gIA gP0 9) (gIA gT 9) (0 : Int32).toNatClampNeg (0 : Int32).toNatClampNeg (12 : Int32).toNatClampNeg)) 10 (va_cpy (gLA gP0 10) (gLA gT 10) (0 : Int32).toNatClampNeg (0 : Int32).toNatClampNeg (64 : Int32).toNatClampNeg)) 11 (va_cpy (gIA gP0 11) (gIA gT 11) (0 : Int32).toNatClampNeg (0 : Int32).toNatClampNeg (64 : Int32).toNatClampNeg)) 12 (gI gP0 12)) ++ (wX9 hP0 aP0 yP0 gP0)) := Hx_set X (set_l (by rw [wG_len (m := 13) rfl]; decide) (wG_sI (k := 12) rfl)) hP hD hS
  refine lv_aload_n hx hb dX9_takeOver_190 rfl (lv_at hl 0 rfl) ?_
  refine lv_aload_n hx hb dX9_takeOver_191 rfl (lv_at hl 1 rfl) ?_
  refine va_get (D := D.1) (ci := 9) (v := .int (gI gP0 13)) (C := RX9) (T := TX9) (N := 17) hx hb hts wi_X9 hown X.1 X.2.1 13 rfl rfl 13 (by decide) (hts _ q1_83) (fun _ h9 => h9) (fl_get (by decide)) dX9_takeOver_192 ?_
  refine va_put (D := D.1) (ci := 9) (v := .int (gI gP0 13)) (ty := .int) (C := RX9) (T := TX9) (N := 17) hx hb hts wi_X9 tyX9 tyX9_ok nmX9 hown X.1 X.2.1 X.2.2.1 X.2.2.2.1 0 rfl rfl 13 (by decide) (hts _ q1_83) (fun _ h9 => h9) rfl (by decide +kernel) rfl rfl (by rw [List.length_map, List.length_range]; decide) dX9_takeOver_195 (fun H locs hP hD hS => ?_)
  have X : Hx D (tX9 yT ++ (tX9 yP0)) A s H locs (wX9 hT aT yT (sI (sI (sIA (sLA (sIA (sIA (sIA (sIA (sDA (sLA (sDA (sLA (sDA (sLA gT 0 (va_cpy (gLA gP0 0) (gLA gT 0) (0 : Int32).toNatClampNeg (0 : Int32).toNatClampNeg (40 : Int32).toNatClampNeg)) 1 (va_cpy (gDA gP0 1) (gDA gT 1) (0 : Int32).toNatClampNeg (0 : Int32).toNatClampNeg (40 : Int32).toNatClampNeg)) 2 (va_cpy (gLA gP0 2) (gLA gT 2) (0 : Int32).toNatClampNeg (0 : Int32).toNatClampNeg (40 : Int32).toNatClampNeg)) 3 (va_cpy (gDA gP0 3) (gDA gT 3) (0 : Int32).toNatClampNeg (0 : Int32).toNatClampNeg (40 : Int32).toNatClampNeg)) 4 (va_cpy (gLA gP0 4) (gLA gT 4) (0 : Int32).toNatClampNeg (0 : Int32).toNatClampNeg (1280 : Int32).toNatClampNeg)) 5 (va_cpy (gDA gP0 5) (gDA gT 5) (0 : Int32).toNatClampNeg (0 : Int32).toNatClampNeg (1280 : Int32).toNatClampNeg)) 6 (va_cpy (gIA gP0 6) (gIA gT 6) (0 : Int32).toNatClampNeg (0 : Int32).toNatClampNeg (52 : Int32).toNatClampNeg)) 7 (va_cpy (gIA gP0 7) (gIA gT 7) (0 : Int32).toNatClampNeg (0 : Int32).toNatClampNeg (52 : Int32).toNatClampNeg)) 8 (va_cpy (gIA gP0 8) (gIA gT 8) (0 : Int32).toNatClampNeg (0 : Int32).toNatClampNeg (52 : Int32).toNatClampNeg)) 9 (va_cpy (gIA gP0 9) (gIA gT 9) (0 : Int32).toNatClampNeg (0 : Int32).toNatClampNeg (12 : Int32).toNatClampNeg)) 10 (va_cpy (gLA gP0 10) (gLA gT 10) (0 : Int32).toNatClampNeg (0 : Int32).toNatClampNeg (64 : Int32).toNatClampNeg)) 11 (va_cpy (gIA gP0 11) (gIA gT 11) (0 : Int32).toNatClampNeg (0 : Int32).toNatClampNeg (64 : Int32).toNatClampNeg)) 12 (gI gP0 12)) 13 (gI gP0 13)) ++ (wX9 hP0 aP0 yP0 gP0)) := Hx_set X (set_l (by rw [wG_len (m := 13) rfl]; decide) (wG_sI (k := 13) rfl)) hP hD hS
  refine lv_aload_n hx hb dX9_takeOver_198 rfl (lv_at hl 0 rfl) ?_
  refine lv_aload_n hx hb dX9_takeOver_199 rfl (lv_at hl 1 rfl) ?_
  refine va_get (D := D.1) (ci := 9) (v := .long (gL gP0 14)) (C := RX9) (T := TX9) (N := 17) hx hb hts wi_X9 hown X.1 X.2.1 13 rfl rfl 14 (by decide) (hts _ q1_85) (fun _ h9 => h9) (fl_get (by decide)) dX9_takeOver_200 ?_
  refine va_put (D := D.1) (ci := 9) (v := .long (gL gP0 14)) (ty := .long) (C := RX9) (T := TX9) (N := 17) hx hb hts wi_X9 tyX9 tyX9_ok nmX9 hown X.1 X.2.1 X.2.2.1 X.2.2.2.1 0 rfl rfl 14 (by decide) (hts _ q1_85) (fun _ h9 => h9) rfl (by decide +kernel) rfl rfl (by rw [List.length_map, List.length_range]; decide) dX9_takeOver_203 (fun H locs hP hD hS => ?_)
  have X : Hx D (tX9 yT ++ (tX9 yP0)) A s H locs (wX9 hT aT yT (sL (sI (sI (sIA (sLA (sIA (sIA (sIA (sIA (sDA (sLA (sDA (sLA (sDA (sLA gT 0 (va_cpy (gLA gP0 0) (gLA gT 0) (0 : Int32).toNatClampNeg (0 : Int32).toNatClampNeg (40 : Int32).toNatClampNeg)) 1 (va_cpy (gDA gP0 1) (gDA gT 1) (0 : Int32).toNatClampNeg (0 : Int32).toNatClampNeg (40 : Int32).toNatClampNeg)) 2 (va_cpy (gLA gP0 2) (gLA gT 2) (0 : Int32).toNatClampNeg (0 : Int32).toNatClampNeg (40 : Int32).toNatClampNeg)) 3 (va_cpy (gDA gP0 3) (gDA gT 3) (0 : Int32).toNatClampNeg (0 : Int32).toNatClampNeg (40 : Int32).toNatClampNeg)) 4 (va_cpy (gLA gP0 4) (gLA gT 4) (0 : Int32).toNatClampNeg (0 : Int32).toNatClampNeg (1280 : Int32).toNatClampNeg)) 5 (va_cpy (gDA gP0 5) (gDA gT 5) (0 : Int32).toNatClampNeg (0 : Int32).toNatClampNeg (1280 : Int32).toNatClampNeg)) 6 (va_cpy (gIA gP0 6) (gIA gT 6) (0 : Int32).toNatClampNeg (0 : Int32).toNatClampNeg (52 : Int32).toNatClampNeg)) 7 (va_cpy (gIA gP0 7) (gIA gT 7) (0 : Int32).toNatClampNeg (0 : Int32).toNatClampNeg (52 : Int32).toNatClampNeg)) 8 (va_cpy (gIA gP0 8) (gIA gT 8) (0 : Int32).toNatClampNeg (0 : Int32).toNatClampNeg (52 : Int32).toNatClampNeg)) 9 (va_cpy (gIA gP0 9) (gIA gT 9) (0 : Int32).toNatClampNeg (0 : Int32).toNatClampNeg (12 : Int32).toNatClampNeg)) 10 (va_cpy (gLA gP0 10) (gLA gT 10) (0 : Int32).toNatClampNeg (0 : Int32).toNatClampNeg (64 : Int32).toNatClampNeg)) 11 (va_cpy (gIA gP0 11) (gIA gT 11) (0 : Int32).toNatClampNeg (0 : Int32).toNatClampNeg (64 : Int32).toNatClampNeg)) 12 (gI gP0 12)) 13 (gI gP0 13)) 14 (gL gP0 14)) ++ (wX9 hP0 aP0 yP0 gP0)) := Hx_set X (set_l (by rw [wG_len (m := 13) rfl]; decide) (wG_sL (k := 14) rfl)) hP hD hS
  refine lv_aload_n hx hb dX9_takeOver_206 rfl (lv_at hl 0 rfl) ?_
  refine lv_aload_n hx hb dX9_takeOver_207 rfl (lv_at hl 1 rfl) ?_
  refine va_get (D := D.1) (ci := 9) (v := .double (gD gP0 15)) (C := RX9) (T := TX9) (N := 17) hx hb hts wi_X9 hown X.1 X.2.1 13 rfl rfl 15 (by decide) (hts _ q1_88) (fun _ h9 => h9) (fl_get (by decide)) dX9_takeOver_208 ?_
  refine va_put (D := D.1) (ci := 9) (v := .double (gD gP0 15)) (ty := .double) (C := RX9) (T := TX9) (N := 17) hx hb hts wi_X9 tyX9 tyX9_ok nmX9 hown X.1 X.2.1 X.2.2.1 X.2.2.2.1 0 rfl rfl 15 (by decide) (hts _ q1_88) (fun _ h9 => h9) rfl (by decide +kernel) rfl rfl (by rw [List.length_map, List.length_range]; decide) dX9_takeOver_211 (fun H locs hP hD hS => ?_)
  have X : Hx D (tX9 yT ++ (tX9 yP0)) A s H locs (wX9 hT aT yT (sD (sL (sI (sI (sIA (sLA (sIA (sIA (sIA (sIA (sDA (sLA (sDA (sLA (sDA (sLA gT 0 (va_cpy (gLA gP0 0) (gLA gT 0) (0 : Int32).toNatClampNeg (0 : Int32).toNatClampNeg (40 : Int32).toNatClampNeg)) 1 (va_cpy (gDA gP0 1) (gDA gT 1) (0 : Int32).toNatClampNeg (0 : Int32).toNatClampNeg (40 : Int32).toNatClampNeg)) 2 (va_cpy (gLA gP0 2) (gLA gT 2) (0 : Int32).toNatClampNeg (0 : Int32).toNatClampNeg (40 : Int32).toNatClampNeg)) 3 (va_cpy (gDA gP0 3) (gDA gT 3) (0 : Int32).toNatClampNeg (0 : Int32).toNatClampNeg (40 : Int32).toNatClampNeg)) 4 (va_cpy (gLA gP0 4) (gLA gT 4) (0 : Int32).toNatClampNeg (0 : Int32).toNatClampNeg (1280 : Int32).toNatClampNeg)) 5 (va_cpy (gDA gP0 5) (gDA gT 5) (0 : Int32).toNatClampNeg (0 : Int32).toNatClampNeg (1280 : Int32).toNatClampNeg)) 6 (va_cpy (gIA gP0 6) (gIA gT 6) (0 : Int32).toNatClampNeg (0 : Int32).toNatClampNeg (52 : Int32).toNatClampNeg)) 7 (va_cpy (gIA gP0 7) (gIA gT 7) (0 : Int32).toNatClampNeg (0 : Int32).toNatClampNeg (52 : Int32).toNatClampNeg)) 8 (va_cpy (gIA gP0 8) (gIA gT 8) (0 : Int32).toNatClampNeg (0 : Int32).toNatClampNeg (52 : Int32).toNatClampNeg)) 9 (va_cpy (gIA gP0 9) (gIA gT 9) (0 : Int32).toNatClampNeg (0 : Int32).toNatClampNeg (12 : Int32).toNatClampNeg)) 10 (va_cpy (gLA gP0 10) (gLA gT 10) (0 : Int32).toNatClampNeg (0 : Int32).toNatClampNeg (64 : Int32).toNatClampNeg)) 11 (va_cpy (gIA gP0 11) (gIA gT 11) (0 : Int32).toNatClampNeg (0 : Int32).toNatClampNeg (64 : Int32).toNatClampNeg)) 12 (gI gP0 12)) 13 (gI gP0 13)) 14 (gL gP0 14)) 15 (gD gP0 15)) ++ (wX9 hP0 aP0 yP0 gP0)) := Hx_set X (set_l (by rw [wG_len (m := 13) rfl]; decide) (wG_sD (k := 15) rfl)) hP hD hS
  refine lv_aload_n hx hb dX9_takeOver_214 rfl (lv_at hl 0 rfl) ?_
  refine lv_aload_n hx hb dX9_takeOver_215 rfl (lv_at hl 1 rfl) ?_
  refine va_get (D := D.1) (ci := 9) (v := .int (gI gP0 16)) (C := RX9) (T := TX9) (N := 17) hx hb hts wi_X9 hown X.1 X.2.1 13 rfl rfl 16 (by decide) (hts _ q1_91) (fun _ h9 => h9) (fl_get (by decide)) dX9_takeOver_216 ?_
  refine va_put (D := D.1) (ci := 9) (v := .int (gI gP0 16)) (ty := .int) (C := RX9) (T := TX9) (N := 17) hx hb hts wi_X9 tyX9 tyX9_ok nmX9 hown X.1 X.2.1 X.2.2.1 X.2.2.2.1 0 rfl rfl 16 (by decide) (hts _ q1_91) (fun _ h9 => h9) rfl (by decide +kernel) rfl rfl (by rw [List.length_map, List.length_range]; decide) dX9_takeOver_219 (fun H locs hP hD hS => ?_)
  have X : Hx D (tX9 yT ++ (tX9 yP0)) A s H locs (wX9 hT aT yT (sI (sD (sL (sI (sI (sIA (sLA (sIA (sIA (sIA (sIA (sDA (sLA (sDA (sLA (sDA (sLA gT 0 (va_cpy (gLA gP0 0) (gLA gT 0) (0 : Int32).toNatClampNeg (0 : Int32).toNatClampNeg (40 : Int32).toNatClampNeg)) 1 (va_cpy (gDA gP0 1) (gDA gT 1) (0 : Int32).toNatClampNeg (0 : Int32).toNatClampNeg (40 : Int32).toNatClampNeg)) 2 (va_cpy (gLA gP0 2) (gLA gT 2) (0 : Int32).toNatClampNeg (0 : Int32).toNatClampNeg (40 : Int32).toNatClampNeg)) 3 (va_cpy (gDA gP0 3) (gDA gT 3) (0 : Int32).toNatClampNeg (0 : Int32).toNatClampNeg (40 : Int32).toNatClampNeg)) 4 (va_cpy (gLA gP0 4) (gLA gT 4) (0 : Int32).toNatClampNeg (0 : Int32).toNatClampNeg (1280 : Int32).toNatClampNeg)) 5 (va_cpy (gDA gP0 5) (gDA gT 5) (0 : Int32).toNatClampNeg (0 : Int32).toNatClampNeg (1280 : Int32).toNatClampNeg)) 6 (va_cpy (gIA gP0 6) (gIA gT 6) (0 : Int32).toNatClampNeg (0 : Int32).toNatClampNeg (52 : Int32).toNatClampNeg)) 7 (va_cpy (gIA gP0 7) (gIA gT 7) (0 : Int32).toNatClampNeg (0 : Int32).toNatClampNeg (52 : Int32).toNatClampNeg)) 8 (va_cpy (gIA gP0 8) (gIA gT 8) (0 : Int32).toNatClampNeg (0 : Int32).toNatClampNeg (52 : Int32).toNatClampNeg)) 9 (va_cpy (gIA gP0 9) (gIA gT 9) (0 : Int32).toNatClampNeg (0 : Int32).toNatClampNeg (12 : Int32).toNatClampNeg)) 10 (va_cpy (gLA gP0 10) (gLA gT 10) (0 : Int32).toNatClampNeg (0 : Int32).toNatClampNeg (64 : Int32).toNatClampNeg)) 11 (va_cpy (gIA gP0 11) (gIA gT 11) (0 : Int32).toNatClampNeg (0 : Int32).toNatClampNeg (64 : Int32).toNatClampNeg)) 12 (gI gP0 12)) 13 (gI gP0 13)) 14 (gL gP0 14)) 15 (gD gP0 15)) 16 (gI gP0 16)) ++ (wX9 hP0 aP0 yP0 gP0)) := Hx_set X (set_l (by rw [wG_len (m := 13) rfl]; decide) (wG_sI (k := 16) rfl)) hP hD hS
  have hq := Option.some.inj hF
  subst hq
  exact rt_v C X dX9_takeOver_222

/-! ### X9_pastRow -/
theorem dX9_pastRow_0 : decode cX9_pastRow 0 = .ok (.aload_n 0, 1) := by decide +kernel
theorem dX9_pastRow_1 : decode cX9_pastRow 1 = .ok (.getfield 57, 3) := by decide +kernel
theorem dX9_pastRow_4 : decode cX9_pastRow 4 = .ok (.iload_n 1, 1) := by decide +kernel
theorem dX9_pastRow_5 : decode cX9_pastRow 5 = .ok (.i2l, 1) := by decide +kernel
theorem dX9_pastRow_6 : decode cX9_pastRow 6 = .ok (.lsub, 1) := by decide +kernel
theorem dX9_pastRow_7 : decode cX9_pastRow 7 = .ok (.ldc2_w 86, 3) := by decide +kernel
theorem dX9_pastRow_10 : decode cX9_pastRow 10 = .ok (.land, 1) := by decide +kernel
theorem dX9_pastRow_11 : decode cX9_pastRow 11 = .ok (.l2i, 1) := by decide +kernel
theorem dX9_pastRow_12 : decode cX9_pastRow 12 = .ok (.bipush 40, 2) := by decide +kernel
theorem dX9_pastRow_14 : decode cX9_pastRow 14 = .ok (.imul, 1) := by decide +kernel
theorem dX9_pastRow_15 : decode cX9_pastRow 15 = .ok (.ireturn, 1) := by decide +kernel
abbrev R_X9_pastRow : Room := ({ frames := 0, cells := 0, slots := 0, locals := 0 } : Room)
def f_X9_pastRow (gT : Gs) (x0 : Int32) : Option (Int32) :=
  some (((((gL gT 14) - x0.toInt64) &&& (31 : Int64)).toInt32) * (40 : Int32))
set_option maxHeartbeats 4000000 in
set_option maxRecDepth 100000 in
theorem c_X9_pastRow (l : Launch) (D : Dx) (hT : Nat) (aT : Nat → Nat) (yT : Nat → ClassId) (gT : Gs) (x0 : Int32) (q : Int32) (hF : f_X9_pastRow gT x0 = some q) (sz : Nat) : Met l yX9_pastRow (ws_ yX9_pastRow cX9_pastRow 2 (some .int)) R_X9_pastRow (PC D (tX9 yT) [.ref hT, .int x0] (wX9 hT aT yT gT) sz) (QI D (va_A (wX9 hT aT yT gT) sz) (wX9 hT aT yT gT) q) 0 0 (va_A (wX9 hT aT yT gT) sz) := by
  refine Met.ofW (cc := cX9_pastRow) (maxL := 2) (ret := (some .int)) (by decide) rfl ?_
  intro p e s m args below meth c s₁ B hml hv
  obtain ⟨rfl, hsz, hP, hK, hD, hN⟩ := hv
  subst hsz
  have C : Cx p s m _ meth c cX9_pastRow (some .int) 2 RX9 lw_all := Cx_of B hml
  have X := Hx_start hP hK hD hN
  obtain ⟨hx, hb, hr, -, hown, hts, hlk⟩ := id C
  generalize va_A (wX9 hT aT yT gT) s.heap.size = A at X ⊢
  have hl := lv_entry ([.ref hT, .int x0]) (n := 2) (Nat.le_of_ble_eq_true rfl)
  rw [lg_entry_eq]
  generalize (lg_sl ([.ref hT, .int x0]) ++ List.replicate (2 - (lg_sl ([.ref hT, .int x0])).length) Slot.unset).toArray = ls at hl ⊢
  have hl : lv_has ls 2 [(0, .ref hT), (1, .int x0)] := hl
  unfold f_X9_pastRow at hF
  refine lv_aload_n hx hb dX9_pastRow_0 rfl (lv_at hl 0 rfl) ?_
  refine va_get (D := D.1) (ci := 9) (v := .long (gL gT 14)) (C := RX9) (T := TX9) (N := 17) hx hb hts wi_X9 hown X.1 X.2.1 0 rfl rfl 14 (by decide) (hts _ q1_85) (fun _ h9 => h9) (fl_get (by decide)) dX9_pastRow_1 ?_
  refine lv_iload_n hx hb dX9_pastRow_4 rfl (lv_at hl 1 rfl) ?_
  refine lv_i2l hx hb dX9_pastRow_5 rfl ?_
  refine lv_lsub hx hb dX9_pastRow_6 ?_
  refine lv_ldc2 hx hb hown (hts _ q5_199) dX9_pastRow_7 ?_
  refine lv_land hx hb dX9_pastRow_10 ?_
  refine lv_l2i hx hb dX9_pastRow_11 rfl ?_
  refine lv_bipush (v := (40 : Int32)) hx hb dX9_pastRow_12 (by decide) ?_
  refine lv_imul hx hb dX9_pastRow_14 ?_
  have hq := Option.some.inj hF
  subst hq
  exact rt_i C X dX9_pastRow_15

/-! ### X9_beginTick -/
theorem dX9_beginTick_0 : decode cX9_beginTick 0 = .ok (.aload_n 0, 1) := by decide +kernel
theorem dX9_beginTick_1 : decode cX9_beginTick 1 = .ok (.dup, 1) := by decide +kernel
theorem dX9_beginTick_2 : decode cX9_beginTick 2 = .ok (.getfield 57, 3) := by decide +kernel
theorem dX9_beginTick_5 : decode cX9_beginTick 5 = .ok (.lconst 1, 1) := by decide +kernel
theorem dX9_beginTick_6 : decode cX9_beginTick 6 = .ok (.ladd, 1) := by decide +kernel
theorem dX9_beginTick_7 : decode cX9_beginTick 7 = .ok (.putfield 57, 3) := by decide +kernel
theorem dX9_beginTick_10 : decode cX9_beginTick 10 = .ok (.aload_n 0, 1) := by decide +kernel
theorem dX9_beginTick_11 : decode cX9_beginTick 11 = .ok (.iconst 1, 1) := by decide +kernel
theorem dX9_beginTick_12 : decode cX9_beginTick 12 = .ok (.invokevirtual 88, 3) := by decide +kernel
theorem dX9_beginTick_15 : decode cX9_beginTick 15 = .ok (.istore_n 1, 1) := by decide +kernel
theorem dX9_beginTick_16 : decode cX9_beginTick 16 = .ok (.aload_n 0, 1) := by decide +kernel
theorem dX9_beginTick_17 : decode cX9_beginTick 17 = .ok (.getfield 9, 3) := by decide +kernel
theorem dX9_beginTick_20 : decode cX9_beginTick 20 = .ok (.iconst 0, 1) := by decide +kernel
theorem dX9_beginTick_21 : decode cX9_beginTick 21 = .ok (.aload_n 0, 1) := by decide +kernel
theorem dX9_beginTick_22 : decode cX9_beginTick 22 = .ok (.getfield 25, 3) := by decide +kernel
theorem dX9_beginTick_25 : decode cX9_beginTick 25 = .ok (.iload_n 1, 1) := by decide +kernel
theorem dX9_beginTick_26 : decode cX9_beginTick 26 = .ok (.bipush 40, 2) := by decide +kernel
theorem dX9_beginTick_28 : decode cX9_beginTick 28 = .ok (.invokestatic 80, 3) := by decide +kernel
theorem dX9_beginTick_31 : decode cX9_beginTick 31 = .ok (.aload_n 0, 1) := by decide +kernel
theorem dX9_beginTick_32 : decode cX9_beginTick 32 = .ok (.getfield 15, 3) := by decide +kernel
theorem dX9_beginTick_35 : decode cX9_beginTick 35 = .ok (.iconst 0, 1) := by decide +kernel
theorem dX9_beginTick_36 : decode cX9_beginTick 36 = .ok (.aload_n 0, 1) := by decide +kernel
theorem dX9_beginTick_37 : decode cX9_beginTick 37 = .ok (.getfield 28, 3) := by decide +kernel
theorem dX9_beginTick_40 : decode cX9_beginTick 40 = .ok (.iload_n 1, 1) := by decide +kernel
theorem dX9_beginTick_41 : decode cX9_beginTick 41 = .ok (.bipush 40, 2) := by decide +kernel
theorem dX9_beginTick_43 : decode cX9_beginTick 43 = .ok (.invokestatic 80, 3) := by decide +kernel
theorem dX9_beginTick_46 : decode cX9_beginTick 46 = .ok (.aload_n 0, 1) := by decide +kernel
theorem dX9_beginTick_47 : decode cX9_beginTick 47 = .ok (.getfield 9, 3) := by decide +kernel
theorem dX9_beginTick_50 : decode cX9_beginTick 50 = .ok (.iconst 0, 1) := by decide +kernel
theorem dX9_beginTick_51 : decode cX9_beginTick 51 = .ok (.aload_n 0, 1) := by decide +kernel
theorem dX9_beginTick_52 : decode cX9_beginTick 52 = .ok (.getfield 19, 3) := by decide +kernel
theorem dX9_beginTick_55 : decode cX9_beginTick 55 = .ok (.iconst 0, 1) := by decide +kernel
theorem dX9_beginTick_56 : decode cX9_beginTick 56 = .ok (.bipush 40, 2) := by decide +kernel
theorem dX9_beginTick_58 : decode cX9_beginTick 58 = .ok (.invokestatic 80, 3) := by decide +kernel
theorem dX9_beginTick_61 : decode cX9_beginTick 61 = .ok (.aload_n 0, 1) := by decide +kernel
theorem dX9_beginTick_62 : decode cX9_beginTick 62 = .ok (.getfield 15, 3) := by decide +kernel
theorem dX9_beginTick_65 : decode cX9_beginTick 65 = .ok (.iconst 0, 1) := by decide +kernel
theorem dX9_beginTick_66 : decode cX9_beginTick 66 = .ok (.aload_n 0, 1) := by decide +kernel
theorem dX9_beginTick_67 : decode cX9_beginTick 67 = .ok (.getfield 22, 3) := by decide +kernel
theorem dX9_beginTick_70 : decode cX9_beginTick 70 = .ok (.iconst 0, 1) := by decide +kernel
theorem dX9_beginTick_71 : decode cX9_beginTick 71 = .ok (.bipush 40, 2) := by decide +kernel
theorem dX9_beginTick_73 : decode cX9_beginTick 73 = .ok (.invokestatic 80, 3) := by decide +kernel
theorem dX9_beginTick_76 : decode cX9_beginTick 76 = .ok (.return_, 1) := by decide +kernel
abbrev R_X9_beginTick : Room := ({ frames := 1, cells := 0, slots := 0, locals := 64 } : Room)
def f_X9_beginTick (gT : Gs) : Option (Gs) :=
  bnd (f_X9_pastRow (sL gT 14 ((gL gT 14) + (1 : Int64))) (1 : Int32)) (fun q_1 => grd (cpB (0 : Int32) q_1 (40 : Int32) 40 1280) (grd (cpB (0 : Int32) q_1 (40 : Int32) 40 1280) (grd (cpB (0 : Int32) (0 : Int32) (40 : Int32) 40 40) (grd (cpB (0 : Int32) (0 : Int32) (40 : Int32) 40 40) (some (sDA (sLA (sDA (sLA (sL gT 14 ((gL gT 14) + (1 : Int64))) 4 (va_cpy (gLA gT 0) (gLA gT 4) (0 : Int32).toNatClampNeg q_1.toNatClampNeg (40 : Int32).toNatClampNeg)) 5 (va_cpy (gDA gT 1) (gDA gT 5) (0 : Int32).toNatClampNeg q_1.toNatClampNeg (40 : Int32).toNatClampNeg)) 2 (va_cpy (gLA gT 0) (gLA gT 2) (0 : Int32).toNatClampNeg (0 : Int32).toNatClampNeg (40 : Int32).toNatClampNeg)) 3 (va_cpy (gDA gT 1) (gDA gT 3) (0 : Int32).toNatClampNeg (0 : Int32).toNatClampNeg (40 : Int32).toNatClampNeg)))))))
set_option maxHeartbeats 4000000 in
set_option maxRecDepth 100000 in
theorem c_X9_beginTick (l : Launch) (D : Dx) (hT : Nat) (aT : Nat → Nat) (yT : Nat → ClassId) (gT : Gs) (q : Gs) (hF : f_X9_beginTick gT = some q) (sz : Nat) : Met l yX9_beginTick (ws_ yX9_beginTick cX9_beginTick 2 none) R_X9_beginTick (PC D (tX9 yT) [.ref hT] (wX9 hT aT yT gT) sz) (QV D (va_A (wX9 hT aT yT gT) sz) (wX9 hT aT yT q)) 0 0 (va_A (wX9 hT aT yT gT) sz) := by
  refine Met.ofW (cc := cX9_beginTick) (maxL := 2) (ret := none) (by decide) rfl ?_
  intro p e s m args below meth c s₁ B hml hv
  obtain ⟨rfl, hsz, hP, hK, hD, hN⟩ := hv
  subst hsz
  have C : Cx p s m _ meth c cX9_beginTick none 2 RX9 lw_all := Cx_of B hml
  have X := Hx_start hP hK hD hN
  obtain ⟨hx, hb, hr, -, hown, hts, hlk⟩ := id C
  generalize va_A (wX9 hT aT yT gT) s.heap.size = A at X ⊢
  have hl := lv_entry ([.ref hT]) (n := 2) (Nat.le_of_ble_eq_true rfl)
  rw [lg_entry_eq]
  generalize (lg_sl ([.ref hT]) ++ List.replicate (2 - (lg_sl ([.ref hT])).length) Slot.unset).toArray = ls at hl ⊢
  have hl : lv_has ls 2 [(0, .ref hT)] := hl
  unfold f_X9_beginTick at hF
  refine lv_aload_n hx hb dX9_beginTick_0 rfl (lv_at hl 0 rfl) ?_
  refine lv_dup hx hb dX9_beginTick_1 rfl ?_
  refine va_get (D := D.1) (ci := 9) (v := .long (gL gT 14)) (C := RX9) (T := TX9) (N := 17) hx hb hts wi_X9 hown X.1 X.2.1 0 rfl rfl 14 (by decide) (hts _ q1_85) (fun _ h9 => h9) (fl_get (by decide)) dX9_beginTick_2 ?_
  refine lv_lconst (v := (1 : Int64)) hx hb dX9_beginTick_5 (by decide) ?_
  refine lv_ladd hx hb dX9_beginTick_6 ?_
  refine va_put (D := D.1) (ci := 9) (v := .long ((gL gT 14) + (1 : Int64))) (ty := .long) (C := RX9) (T := TX9) (N := 17) hx hb hts wi_X9 tyX9 tyX9_ok nmX9 hown X.1 X.2.1 X.2.2.1 X.2.2.2.1 0 rfl rfl 14 (by decide) (hts _ q1_85) (fun _ h9 => h9) rfl (by decide +kernel) rfl rfl (by rw [List.length_map, List.length_range]; decide) dX9_beginTick_7 (fun H locs hP hD hS => ?_)
  have X : Hx D (tX9 yT) A s H locs (wX9 hT aT yT (sL gT 14 ((gL gT 14) + (1 : Int64)))) := Hx_set X (wG_sL (k := 14) rfl) hP hD hS
  refine lv_aload_n hx hb dX9_beginTick_10 rfl (lv_at hl 0 rfl) ?_
  refine lv_iconst (v := (1 : Int32)) hx hb dX9_beginTick_11 (by decide) ?_
  obtain ⟨q_1, hc_2, hF⟩ := bnd_some hF
  refine cV_i (As := [.int (1 : Int32)]) (rest := []) C X (c_X9_pastRow l D hT aT yT (sL gT 14 ((gL gT 14) + (1 : Int64))) (1 : Int32) q_1 hc_2 _) (cwV 1 hts (good_V q6_0 q5_196 q5_197 q1_3 q5_198) rfl rfl rfl (by decide +kernel) ⟨Nat.le_of_ble_eq_true rfl, Nat.le_of_ble_eq_true rfl⟩) (va_recv X.1 X.2.1 (ci := 9) (q0 := 0) rfl rfl) X.1 X.2.1 X.2.2.1 (free_all X) hl.1 rfl rfl (Nat.le_of_ble_eq_true rfl) dX9_beginTick_12 ⟨Nat.le_of_ble_eq_true rfl, Nat.le_of_ble_eq_true rfl⟩ (fun t H1 locs1 ht hB hk hS => ?_)
  have X : Hx D (tX9 yT) A s H1 locs1 (wX9 hT aT yT (sL gT 14 ((gL gT 14) + (1 : Int64)))) := Hx_after_all X ht hB hS
  clear hk hS ht hB
  generalize H1 = H at X ⊢
  generalize locs1 = locs at X ⊢
  refine lv_istore_n (lv' := [(1, .int q_1), (0, .ref hT)]) hx hb dX9_beginTick_15 rfl hl (by decide) rfl (fun ls hl => ?_)
  refine lv_aload_n hx hb dX9_beginTick_16 rfl (lv_at hl 1 rfl) ?_
  refine va_get (D := D.1) (ci := 9) (v := .ref (aT 0)) (C := RX9) (T := TX9) (N := 17) hx hb hts wi_X9 hown X.1 X.2.1 0 rfl rfl 0 (by decide) (hts _ q1_53) (fun _ h9 => h9) (fl_get (by decide)) dX9_beginTick_17 ?_
  refine lv_iconst (v := (0 : Int32)) hx hb dX9_beginTick_20 (by decide) ?_
  refine lv_aload_n hx hb dX9_beginTick_21 rfl (lv_at hl 1 rfl) ?_
  refine va_get (D := D.1) (ci := 9) (v := .ref (aT 4)) (C := RX9) (T := TX9) (N := 17) hx hb hts wi_X9 hown X.1 X.2.1 0 rfl rfl 4 (by decide) (hts _ q1_65) (fun _ h9 => h9) (fl_get (by decide)) dX9_beginTick_22 ?_
  refine lv_iload_n hx hb dX9_beginTick_25 rfl (lv_at hl 0 rfl) ?_
  refine lv_bipush (v := (40 : Int32)) hx hb dX9_beginTick_26 (by decide) ?_
  obtain ⟨h_3, hF⟩ := grd_some hF
  refine va_copyl (D := D.1) (f := gLA gT 0) (g := gLA gT 4) hx hb (by rw [hml]; exact hl.1.symm) hown (hts _ q6_1) (hts _ q4_77) (hts _ q4_76) (hts _ q1_20) X.1 X.2.1 X.2.2.1 X.2.2.2.1 1 5 0 4 rfl rfl rfl rfl (by decide) (cpB_1 h_3) (cpB_2 h_3) (cpB_3 h_3) (cpB_4 h_3) (cpB_5 h_3) (fun _ _ => rfl) (Nat.le_of_ble_eq_true rfl) (Nat.le_of_ble_eq_true rfl) dX9_beginTick_28 (fun H locs hP hD hS => ?_)
  have X : Hx D (tX9 yT) A s H locs (wX9 hT aT yT (sLA (sL gT 14 ((gL gT 14) + (1 : Int64))) 4 (va_cpy (gLA gT 0) (gLA gT 4) (0 : Int32).toNatClampNeg q_1.toNatClampNeg (40 : Int32).toNatClampNeg))) := Hx_set X (wG_sLA (i := 4) (k := 4) ndX9 rfl rfl) hP hD hS
  refine lv_aload_n hx hb dX9_beginTick_31 rfl (lv_at hl 1 rfl) ?_
  refine va_get (D := D.1) (ci := 9) (v := .ref (aT 1)) (C := RX9) (T := TX9) (N := 17) hx hb hts wi_X9 hown X.1 X.2.1 0 rfl rfl 1 (by decide) (hts _ q1_56) (fun _ h9 => h9) (fl_get (by decide)) dX9_beginTick_32 ?_
  refine lv_iconst (v := (0 : Int32)) hx hb dX9_beginTick_35 (by decide) ?_
  refine lv_aload_n hx hb dX9_beginTick_36 rfl (lv_at hl 1 rfl) ?_
  refine va_get (D := D.1) (ci := 9) (v := .ref (aT 5)) (C := RX9) (T := TX9) (N := 17) hx hb hts wi_X9 hown X.1 X.2.1 0 rfl rfl 5 (by decide) (hts _ q1_67) (fun _ h9 => h9) (fl_get (by decide)) dX9_beginTick_37 ?_
  refine lv_iload_n hx hb dX9_beginTick_40 rfl (lv_at hl 0 rfl) ?_
  refine lv_bipush (v := (40 : Int32)) hx hb dX9_beginTick_41 (by decide) ?_
  obtain ⟨h_4, hF⟩ := grd_some hF
  refine va_copyd (D := D.1) (f := gDA gT 1) (g := gDA gT 5) hx hb (by rw [hml]; exact hl.1.symm) hown (hts _ q6_1) (hts _ q4_77) (hts _ q4_76) (hts _ q1_20) X.1 X.2.1 X.2.2.1 X.2.2.2.1 2 6 1 5 rfl rfl rfl rfl (by decide) (cpB_1 h_4) (cpB_2 h_4) (cpB_3 h_4) (cpB_4 h_4) (cpB_5 h_4) (fun _ _ => rfl) (Nat.le_of_ble_eq_true rfl) (Nat.le_of_ble_eq_true rfl) dX9_beginTick_43 (fun H locs hP hD hS => ?_)
  have X : Hx D (tX9 yT) A s H locs (wX9 hT aT yT (sDA (sLA (sL gT 14 ((gL gT 14) + (1 : Int64))) 4 (va_cpy (gLA gT 0) (gLA gT 4) (0 : Int32).toNatClampNeg q_1.toNatClampNeg (40 : Int32).toNatClampNeg)) 5 (va_cpy (gDA gT 1) (gDA gT 5) (0 : Int32).toNatClampNeg q_1.toNatClampNeg (40 : Int32).toNatClampNeg))) := Hx_set X (wG_sDA (i := 5) (k := 5) ndX9 rfl rfl) hP hD hS
  refine lv_aload_n hx hb dX9_beginTick_46 rfl (lv_at hl 1 rfl) ?_
  refine va_get (D := D.1) (ci := 9) (v := .ref (aT 0)) (C := RX9) (T := TX9) (N := 17) hx hb hts wi_X9 hown X.1 X.2.1 0 rfl rfl 0 (by decide) (hts _ q1_53) (fun _ h9 => h9) (fl_get (by decide)) dX9_beginTick_47 ?_
  refine lv_iconst (v := (0 : Int32)) hx hb dX9_beginTick_50 (by decide) ?_
  refine lv_aload_n hx hb dX9_beginTick_51 rfl (lv_at hl 1 rfl) ?_
  refine va_get (D := D.1) (ci := 9) (v := .ref (aT 2)) (C := RX9) (T := TX9) (N := 17) hx hb hts wi_X9 hown X.1 X.2.1 0 rfl rfl 2 (by decide) (hts _ q1_59) (fun _ h9 => h9) (fl_get (by decide)) dX9_beginTick_52 ?_
  refine lv_iconst (v := (0 : Int32)) hx hb dX9_beginTick_55 (by decide) ?_
  refine lv_bipush (v := (40 : Int32)) hx hb dX9_beginTick_56 (by decide) ?_
  obtain ⟨h_5, hF⟩ := grd_some hF
  refine va_copyl (D := D.1) (f := gLA gT 0) (g := gLA gT 2) hx hb (by rw [hml]; exact hl.1.symm) hown (hts _ q6_1) (hts _ q4_77) (hts _ q4_76) (hts _ q1_20) X.1 X.2.1 X.2.2.1 X.2.2.2.1 1 3 0 2 rfl rfl rfl rfl (by decide) (cpB_1 h_5) (cpB_2 h_5) (cpB_3 h_5) (cpB_4 h_5) (cpB_5 h_5) (fun _ _ => rfl) (Nat.le_of_ble_eq_true rfl) (Nat.le_of_ble_eq_true rfl) dX9_beginTick_58 (fun H locs hP hD hS => ?_)
  have X : Hx D (tX9 yT) A s H locs (wX9 hT aT yT (sLA (sDA (sLA (sL gT 14 ((gL gT 14) + (1 : Int64))) 4 (va_cpy (gLA gT 0) (gLA gT 4) (0 : Int32).toNatClampNeg q_1.toNatClampNeg (40 : Int32).toNatClampNeg)) 5 (va_cpy (gDA gT 1) (gDA gT 5) (0 : Int32).toNatClampNeg q_1.toNatClampNeg (40 : Int32).toNatClampNeg)) 2 (va_cpy (gLA gT 0) (gLA gT 2) (0 : Int32).toNatClampNeg (0 : Int32).toNatClampNeg (40 : Int32).toNatClampNeg))) := Hx_set X (wG_sLA (i := 2) (k := 2) ndX9 rfl rfl) hP hD hS
  refine lv_aload_n hx hb dX9_beginTick_61 rfl (lv_at hl 1 rfl) ?_
  refine va_get (D := D.1) (ci := 9) (v := .ref (aT 1)) (C := RX9) (T := TX9) (N := 17) hx hb hts wi_X9 hown X.1 X.2.1 0 rfl rfl 1 (by decide) (hts _ q1_56) (fun _ h9 => h9) (fl_get (by decide)) dX9_beginTick_62 ?_
  refine lv_iconst (v := (0 : Int32)) hx hb dX9_beginTick_65 (by decide) ?_
  refine lv_aload_n hx hb dX9_beginTick_66 rfl (lv_at hl 1 rfl) ?_
  refine va_get (D := D.1) (ci := 9) (v := .ref (aT 3)) (C := RX9) (T := TX9) (N := 17) hx hb hts wi_X9 hown X.1 X.2.1 0 rfl rfl 3 (by decide) (hts _ q1_62) (fun _ h9 => h9) (fl_get (by decide)) dX9_beginTick_67 ?_
  refine lv_iconst (v := (0 : Int32)) hx hb dX9_beginTick_70 (by decide) ?_
  refine lv_bipush (v := (40 : Int32)) hx hb dX9_beginTick_71 (by decide) ?_
  obtain ⟨h_6, hF⟩ := grd_some hF
  refine va_copyd (D := D.1) (f := gDA gT 1) (g := gDA gT 3) hx hb (by rw [hml]; exact hl.1.symm) hown (hts _ q6_1) (hts _ q4_77) (hts _ q4_76) (hts _ q1_20) X.1 X.2.1 X.2.2.1 X.2.2.2.1 2 4 1 3 rfl rfl rfl rfl (by decide) (cpB_1 h_6) (cpB_2 h_6) (cpB_3 h_6) (cpB_4 h_6) (cpB_5 h_6) (fun _ _ => rfl) (Nat.le_of_ble_eq_true rfl) (Nat.le_of_ble_eq_true rfl) dX9_beginTick_73 (fun H locs hP hD hS => ?_)
  have X : Hx D (tX9 yT) A s H locs (wX9 hT aT yT (sDA (sLA (sDA (sLA (sL gT 14 ((gL gT 14) + (1 : Int64))) 4 (va_cpy (gLA gT 0) (gLA gT 4) (0 : Int32).toNatClampNeg q_1.toNatClampNeg (40 : Int32).toNatClampNeg)) 5 (va_cpy (gDA gT 1) (gDA gT 5) (0 : Int32).toNatClampNeg q_1.toNatClampNeg (40 : Int32).toNatClampNeg)) 2 (va_cpy (gLA gT 0) (gLA gT 2) (0 : Int32).toNatClampNeg (0 : Int32).toNatClampNeg (40 : Int32).toNatClampNeg)) 3 (va_cpy (gDA gT 1) (gDA gT 3) (0 : Int32).toNatClampNeg (0 : Int32).toNatClampNeg (40 : Int32).toNatClampNeg))) := Hx_set X (wG_sDA (i := 3) (k := 3) ndX9 rfl rfl) hP hD hS
  have hq := Option.some.inj hF
  subst hq
  exact rt_v C X dX9_beginTick_76

/-! ### X9_noteJam -/
theorem dX9_noteJam_0 : decode cX9_noteJam 0 = .ok (.aload_n 0, 1) := by decide +kernel
theorem dX9_noteJam_1 : decode cX9_noteJam 1 = .ok (.getfield 31, 3) := by decide +kernel
theorem dX9_noteJam_4 : decode cX9_noteJam 4 = .ok (.iload_n 1, 1) := by decide +kernel
theorem dX9_noteJam_5 : decode cX9_noteJam 5 = .ok (.aload_n 0, 1) := by decide +kernel
theorem dX9_noteJam_6 : decode cX9_noteJam 6 = .ok (.getfield 31, 3) := by decide +kernel
theorem dX9_noteJam_9 : decode cX9_noteJam 9 = .ok (.iload_n 1, 1) := by decide +kernel
theorem dX9_noteJam_10 : decode cX9_noteJam 10 = .ok (.iaload, 1) := by decide +kernel
theorem dX9_noteJam_11 : decode cX9_noteJam 11 = .ok (.ldc 92, 2) := by decide +kernel
theorem dX9_noteJam_13 : decode cX9_noteJam 13 = .ok (.if_icmp .ge 14, 3) := by decide +kernel
theorem dX9_noteJam_16 : decode cX9_noteJam 16 = .ok (.aload_n 0, 1) := by decide +kernel
theorem dX9_noteJam_17 : decode cX9_noteJam 17 = .ok (.getfield 31, 3) := by decide +kernel
theorem dX9_noteJam_20 : decode cX9_noteJam 20 = .ok (.iload_n 1, 1) := by decide +kernel
theorem dX9_noteJam_21 : decode cX9_noteJam 21 = .ok (.iaload, 1) := by decide +kernel
theorem dX9_noteJam_22 : decode cX9_noteJam 22 = .ok (.iconst 1, 1) := by decide +kernel
theorem dX9_noteJam_23 : decode cX9_noteJam 23 = .ok (.iadd, 1) := by decide +kernel
theorem dX9_noteJam_24 : decode cX9_noteJam 24 = .ok (.goto 5, 3) := by decide +kernel
theorem dX9_noteJam_27 : decode cX9_noteJam 27 = .ok (.ldc 92, 2) := by decide +kernel
theorem dX9_noteJam_29 : decode cX9_noteJam 29 = .ok (.iastore, 1) := by decide +kernel
theorem dX9_noteJam_30 : decode cX9_noteJam 30 = .ok (.aload_n 0, 1) := by decide +kernel
theorem dX9_noteJam_31 : decode cX9_noteJam 31 = .ok (.getfield 35, 3) := by decide +kernel
theorem dX9_noteJam_34 : decode cX9_noteJam 34 = .ok (.iload_n 1, 1) := by decide +kernel
theorem dX9_noteJam_35 : decode cX9_noteJam 35 = .ok (.iload_n 2, 1) := by decide +kernel
theorem dX9_noteJam_36 : decode cX9_noteJam 36 = .ok (.iastore, 1) := by decide +kernel
theorem dX9_noteJam_37 : decode cX9_noteJam 37 = .ok (.aload_n 0, 1) := by decide +kernel
theorem dX9_noteJam_38 : decode cX9_noteJam 38 = .ok (.getfield 38, 3) := by decide +kernel
theorem dX9_noteJam_41 : decode cX9_noteJam 41 = .ok (.iload_n 1, 1) := by decide +kernel
theorem dX9_noteJam_42 : decode cX9_noteJam 42 = .ok (.iload_n 3, 1) := by decide +kernel
theorem dX9_noteJam_43 : decode cX9_noteJam 43 = .ok (.iastore, 1) := by decide +kernel
theorem dX9_noteJam_44 : decode cX9_noteJam 44 = .ok (.return_, 1) := by decide +kernel
abbrev R_X9_noteJam : Room := ({ frames := 0, cells := 0, slots := 0, locals := 0 } : Room)
def b_X9_noteJam_29 (gT : Gs) (v1 : Int32) (v2 : Int32) (v3 : Int32) (s0 : Int32) (s1 : Int32) : Option (Gs) :=
  grd (inB s1 52) (grd (inB v1 52) (grd (inB v1 52) (some (sIA (sIA (sIA gT 6 (upd (gIA gT 6) s1.toNatClampNeg s0)) 7 (upd (gIA gT 7) v1.toNatClampNeg v2)) 8 (upd (gIA gT 8) v1.toNatClampNeg v3)))))
def f_X9_noteJam (gT : Gs) (x0 : Int32) (x1 : Int32) (x2 : Int32) : Option (Gs) :=
  grd (inB x0 52) (if (2147483647 : Int32) ≤ (gIA gT 6 x0.toNatClampNeg) then (b_X9_noteJam_29 gT x0 x1 x2 (2147483647 : Int32) x0) else (grd (inB x0 52) (b_X9_noteJam_29 gT x0 x1 x2 ((gIA gT 6 x0.toNatClampNeg) + (1 : Int32)) x0)))
def S_X9_noteJam_29 (l : Launch) (D : Dx) (hT : Nat) (aT : Nat → Nat) (yT : Nat → ClassId) (fn : Gs → Int32 → Int32 → Int32 → Int32 → Int32 → Option (Gs)) : Prop :=
  ∀ {p : Program} {e : Env} {s : State} {m : MethodId} {args : Array Value} {below : List Frame} {meth : Method} {c : Code} {H : Heap} {locs : List Loc} {A : Nat → Prop} {ls : Array Slot} {gT : Gs} {v1 : Int32} {v2 : Int32} {v3 : Int32} {s0 : Int32} {s1 : Int32} {q : Gs}, Cx p s m args meth c cX9_noteJam none 4 RX9 lw_all → Hx D (tX9 yT) A s H locs (wX9 hT aT yT gT) → lv_has ls 4 [(0, .ref hT), (1, .int v1), (2, .int v2), (3, .int v3)] → fn gT v1 v2 v3 s0 s1 = some q → W p l e R_X9_noteJam s m args below meth c H locs 0 0 (MQ below (QV D A (wX9 hT aT yT q)) args s 0 0 A) (F0 m 29 ls [.int s0, .int s1, .ref (aT 6)])
set_option maxHeartbeats 4000000 in
set_option maxRecDepth 100000 in
theorem k_X9_noteJam_29 (l : Launch) (D : Dx) (hT : Nat) (aT : Nat → Nat) (yT : Nat → ClassId) : S_X9_noteJam_29 l D hT aT yT (b_X9_noteJam_29) := by
  intro p e s m args below meth c H locs A ls gT v1 v2 v3 s0 s1 q C X hl hF
  obtain ⟨hx, hb, hr, hml, hown, hts, hlk⟩ := id C
  unfold b_X9_noteJam_29 at hF
  obtain ⟨h_2, hF⟩ := grd_some hF
  refine va_iast (D := D.1) (f := gIA gT 6) hx hb X.1 X.2.1 X.2.2.1 X.2.2.2.1 7 6 rfl rfl (inB_ok h_2) dX9_noteJam_29 (fun H locs hP hD hS => ?_)
  have X : Hx D (tX9 yT) A s H locs (wX9 hT aT yT (sIA gT 6 (upd (gIA gT 6) s1.toNatClampNeg s0))) := Hx_set X (wG_sIA (i := 6) (k := 6) ndX9 rfl rfl) hP hD hS
  refine lv_aload_n hx hb dX9_noteJam_30 rfl (lv_at hl 0 rfl) ?_
  refine va_get (D := D.1) (ci := 9) (v := .ref (aT 7)) (C := RX9) (T := TX9) (N := 17) hx hb hts wi_X9 hown X.1 X.2.1 0 rfl rfl 7 (by decide) (hts _ q1_71) (fun _ h9 => h9) (fl_get (by decide)) dX9_noteJam_31 ?_
  refine lv_iload_n hx hb dX9_noteJam_34 rfl (lv_at hl 1 rfl) ?_
  refine lv_iload_n hx hb dX9_noteJam_35 rfl (lv_at hl 2 rfl) ?_
  obtain ⟨h_3, hF⟩ := grd_some hF
  refine va_iast (D := D.1) (f := gIA gT 7) hx hb X.1 X.2.1 X.2.2.1 X.2.2.2.1 8 7 rfl rfl (inB_ok h_3) dX9_noteJam_36 (fun H locs hP hD hS => ?_)
  have X : Hx D (tX9 yT) A s H locs (wX9 hT aT yT (sIA (sIA gT 6 (upd (gIA gT 6) s1.toNatClampNeg s0)) 7 (upd (gIA gT 7) v1.toNatClampNeg v2))) := Hx_set X (wG_sIA (i := 7) (k := 7) ndX9 rfl rfl) hP hD hS
  refine lv_aload_n hx hb dX9_noteJam_37 rfl (lv_at hl 0 rfl) ?_
  refine va_get (D := D.1) (ci := 9) (v := .ref (aT 8)) (C := RX9) (T := TX9) (N := 17) hx hb hts wi_X9 hown X.1 X.2.1 0 rfl rfl 8 (by decide) (hts _ q1_73) (fun _ h9 => h9) (fl_get (by decide)) dX9_noteJam_38 ?_
  refine lv_iload_n hx hb dX9_noteJam_41 rfl (lv_at hl 1 rfl) ?_
  refine lv_iload_n hx hb dX9_noteJam_42 rfl (lv_at hl 3 rfl) ?_
  obtain ⟨h_4, hF⟩ := grd_some hF
  refine va_iast (D := D.1) (f := gIA gT 8) hx hb X.1 X.2.1 X.2.2.1 X.2.2.2.1 9 8 rfl rfl (inB_ok h_4) dX9_noteJam_43 (fun H locs hP hD hS => ?_)
  have X : Hx D (tX9 yT) A s H locs (wX9 hT aT yT (sIA (sIA (sIA gT 6 (upd (gIA gT 6) s1.toNatClampNeg s0)) 7 (upd (gIA gT 7) v1.toNatClampNeg v2)) 8 (upd (gIA gT 8) v1.toNatClampNeg v3))) := Hx_set X (wG_sIA (i := 8) (k := 8) ndX9 rfl rfl) hP hD hS
  have hq := Option.some.inj hF
  subst hq
  exact rt_v C X dX9_noteJam_44
set_option maxHeartbeats 4000000 in
set_option maxRecDepth 100000 in
theorem c_X9_noteJam (l : Launch) (D : Dx) (hT : Nat) (aT : Nat → Nat) (yT : Nat → ClassId) (gT : Gs) (x0 : Int32) (x1 : Int32) (x2 : Int32) (q : Gs) (hF : f_X9_noteJam gT x0 x1 x2 = some q) (sz : Nat) : Met l yX9_noteJam (ws_ yX9_noteJam cX9_noteJam 4 none) R_X9_noteJam (PC D (tX9 yT) [.ref hT, .int x0, .int x1, .int x2] (wX9 hT aT yT gT) sz) (QV D (va_A (wX9 hT aT yT gT) sz) (wX9 hT aT yT q)) 0 0 (va_A (wX9 hT aT yT gT) sz) := by
  refine Met.ofW (cc := cX9_noteJam) (maxL := 4) (ret := none) (by decide) rfl ?_
  intro p e s m args below meth c s₁ B hml hv
  obtain ⟨rfl, hsz, hP, hK, hD, hN⟩ := hv
  subst hsz
  have C : Cx p s m _ meth c cX9_noteJam none 4 RX9 lw_all := Cx_of B hml
  have X := Hx_start hP hK hD hN
  obtain ⟨hx, hb, hr, -, hown, hts, hlk⟩ := id C
  generalize va_A (wX9 hT aT yT gT) s.heap.size = A at X ⊢
  have hl := lv_entry ([.ref hT, .int x0, .int x1, .int x2]) (n := 4) (Nat.le_of_ble_eq_true rfl)
  rw [lg_entry_eq]
  generalize (lg_sl ([.ref hT, .int x0, .int x1, .int x2]) ++ List.replicate (4 - (lg_sl ([.ref hT, .int x0, .int x1, .int x2])).length) Slot.unset).toArray = ls at hl ⊢
  have hl : lv_has ls 4 [(0, .ref hT), (1, .int x0), (2, .int x1), (3, .int x2)] := hl
  unfold f_X9_noteJam at hF
  refine lv_aload_n hx hb dX9_noteJam_0 rfl (lv_at hl 0 rfl) ?_
  refine va_get (D := D.1) (ci := 9) (v := .ref (aT 6)) (C := RX9) (T := TX9) (N := 17) hx hb hts wi_X9 hown X.1 X.2.1 0 rfl rfl 6 (by decide) (hts _ q1_69) (fun _ h9 => h9) (fl_get (by decide)) dX9_noteJam_1 ?_
  refine lv_iload_n hx hb dX9_noteJam_4 rfl (lv_at hl 1 rfl) ?_
  refine lv_aload_n hx hb dX9_noteJam_5 rfl (lv_at hl 0 rfl) ?_
  refine va_get (D := D.1) (ci := 9) (v := .ref (aT 6)) (C := RX9) (T := TX9) (N := 17) hx hb hts wi_X9 hown X.1 X.2.1 0 rfl rfl 6 (by decide) (hts _ q1_69) (fun _ h9 => h9) (fl_get (by decide)) dX9_noteJam_6 ?_
  refine lv_iload_n hx hb dX9_noteJam_9 rfl (lv_at hl 1 rfl) ?_
  obtain ⟨h_1, hF⟩ := grd_some hF
  refine va_iald (D := D.1) (f := gIA gT 6) hx hb X.1 X.2.1 7 6 rfl rfl (inB_ok h_1) dX9_noteJam_10 ?_
  refine lv_ldc hx hb hown (hts _ q5_148) dX9_noteJam_11 ?_
  refine lv_icmp_ge (tgt := 27) hx hb dX9_noteJam_13 (by decide) (fun c => ?_) (fun c => ?_)
  · replace hF := iT c hF
    refine lv_ldc hx hb hown (hts _ q5_148) dX9_noteJam_27 ?_
    exact (k_X9_noteJam_29 l D hT aT yT) C X (lv_sub hl [0, 1, 2, 3] rfl) hF
  · replace hF := iF c hF
    refine lv_aload_n hx hb dX9_noteJam_16 rfl (lv_at hl 0 rfl) ?_
    refine va_get (D := D.1) (ci := 9) (v := .ref (aT 6)) (C := RX9) (T := TX9) (N := 17) hx hb hts wi_X9 hown X.1 X.2.1 0 rfl rfl 6 (by decide) (hts _ q1_69) (fun _ h9 => h9) (fl_get (by decide)) dX9_noteJam_17 ?_
    refine lv_iload_n hx hb dX9_noteJam_20 rfl (lv_at hl 1 rfl) ?_
    obtain ⟨h_5, hF⟩ := grd_some hF
    refine va_iald (D := D.1) (f := gIA gT 6) hx hb X.1 X.2.1 7 6 rfl rfl (inB_ok h_5) dX9_noteJam_21 ?_
    refine lv_iconst (v := (1 : Int32)) hx hb dX9_noteJam_22 (by decide) ?_
    refine lv_iadd hx hb dX9_noteJam_23 ?_
    refine lv_goto (tgt := 29) hx hb dX9_noteJam_24 (by decide) ?_
    exact (k_X9_noteJam_29 l D hT aT yT) C X (lv_sub hl [0, 1, 2, 3] rfl) hF

/-! ### X9_noteStrike -/
theorem dX9_noteStrike_0 : decode cX9_noteStrike 0 = .ok (.aload_n 0, 1) := by decide +kernel
theorem dX9_noteStrike_1 : decode cX9_noteStrike 1 = .ok (.getfield 41, 3) := by decide +kernel
theorem dX9_noteStrike_4 : decode cX9_noteStrike 4 = .ok (.iload_n 1, 1) := by decide +kernel
theorem dX9_noteStrike_5 : decode cX9_noteStrike 5 = .ok (.aload_n 0, 1) := by decide +kernel
theorem dX9_noteStrike_6 : decode cX9_noteStrike 6 = .ok (.getfield 41, 3) := by decide +kernel
theorem dX9_noteStrike_9 : decode cX9_noteStrike 9 = .ok (.iload_n 1, 1) := by decide +kernel
theorem dX9_noteStrike_10 : decode cX9_noteStrike 10 = .ok (.iaload, 1) := by decide +kernel
theorem dX9_noteStrike_11 : decode cX9_noteStrike 11 = .ok (.ldc 92, 2) := by decide +kernel
theorem dX9_noteStrike_13 : decode cX9_noteStrike 13 = .ok (.if_icmp .ge 14, 3) := by decide +kernel
theorem dX9_noteStrike_16 : decode cX9_noteStrike 16 = .ok (.aload_n 0, 1) := by decide +kernel
theorem dX9_noteStrike_17 : decode cX9_noteStrike 17 = .ok (.getfield 41, 3) := by decide +kernel
theorem dX9_noteStrike_20 : decode cX9_noteStrike 20 = .ok (.iload_n 1, 1) := by decide +kernel
theorem dX9_noteStrike_21 : decode cX9_noteStrike 21 = .ok (.iaload, 1) := by decide +kernel
theorem dX9_noteStrike_22 : decode cX9_noteStrike 22 = .ok (.iconst 1, 1) := by decide +kernel
theorem dX9_noteStrike_23 : decode cX9_noteStrike 23 = .ok (.iadd, 1) := by decide +kernel
theorem dX9_noteStrike_24 : decode cX9_noteStrike 24 = .ok (.goto 5, 3) := by decide +kernel
theorem dX9_noteStrike_27 : decode cX9_noteStrike 27 = .ok (.ldc 92, 2) := by decide +kernel
theorem dX9_noteStrike_29 : decode cX9_noteStrike 29 = .ok (.iastore, 1) := by decide +kernel
theorem dX9_noteStrike_30 : decode cX9_noteStrike 30 = .ok (.aload_n 0, 1) := by decide +kernel
theorem dX9_noteStrike_31 : decode cX9_noteStrike 31 = .ok (.getfield 44, 3) := by decide +kernel
theorem dX9_noteStrike_34 : decode cX9_noteStrike 34 = .ok (.aload_n 0, 1) := by decide +kernel
theorem dX9_noteStrike_35 : decode cX9_noteStrike 35 = .ok (.getfield 54, 3) := by decide +kernel
theorem dX9_noteStrike_38 : decode cX9_noteStrike 38 = .ok (.aload_n 0, 1) := by decide +kernel
theorem dX9_noteStrike_39 : decode cX9_noteStrike 39 = .ok (.getfield 57, 3) := by decide +kernel
theorem dX9_noteStrike_42 : decode cX9_noteStrike 42 = .ok (.lastore, 1) := by decide +kernel
theorem dX9_noteStrike_43 : decode cX9_noteStrike 43 = .ok (.aload_n 0, 1) := by decide +kernel
theorem dX9_noteStrike_44 : decode cX9_noteStrike 44 = .ok (.getfield 47, 3) := by decide +kernel
theorem dX9_noteStrike_47 : decode cX9_noteStrike 47 = .ok (.aload_n 0, 1) := by decide +kernel
theorem dX9_noteStrike_48 : decode cX9_noteStrike 48 = .ok (.getfield 54, 3) := by decide +kernel
theorem dX9_noteStrike_51 : decode cX9_noteStrike 51 = .ok (.iload_n 1, 1) := by decide +kernel
theorem dX9_noteStrike_52 : decode cX9_noteStrike 52 = .ok (.iastore, 1) := by decide +kernel
theorem dX9_noteStrike_53 : decode cX9_noteStrike 53 = .ok (.aload_n 0, 1) := by decide +kernel
theorem dX9_noteStrike_54 : decode cX9_noteStrike 54 = .ok (.aload_n 0, 1) := by decide +kernel
theorem dX9_noteStrike_55 : decode cX9_noteStrike 55 = .ok (.getfield 54, 3) := by decide +kernel
theorem dX9_noteStrike_58 : decode cX9_noteStrike 58 = .ok (.iconst 1, 1) := by decide +kernel
theorem dX9_noteStrike_59 : decode cX9_noteStrike 59 = .ok (.iadd, 1) := by decide +kernel
theorem dX9_noteStrike_60 : decode cX9_noteStrike 60 = .ok (.bipush 64, 2) := by decide +kernel
theorem dX9_noteStrike_62 : decode cX9_noteStrike 62 = .ok (.irem, 1) := by decide +kernel
theorem dX9_noteStrike_63 : decode cX9_noteStrike 63 = .ok (.putfield 54, 3) := by decide +kernel
theorem dX9_noteStrike_66 : decode cX9_noteStrike 66 = .ok (.aload_n 0, 1) := by decide +kernel
theorem dX9_noteStrike_67 : decode cX9_noteStrike 67 = .ok (.aload_n 0, 1) := by decide +kernel
theorem dX9_noteStrike_68 : decode cX9_noteStrike 68 = .ok (.getfield 50, 3) := by decide +kernel
theorem dX9_noteStrike_71 : decode cX9_noteStrike 71 = .ok (.iconst 1, 1) := by decide +kernel
theorem dX9_noteStrike_72 : decode cX9_noteStrike 72 = .ok (.iadd, 1) := by decide +kernel
theorem dX9_noteStrike_73 : decode cX9_noteStrike 73 = .ok (.bipush 64, 2) := by decide +kernel
theorem dX9_noteStrike_75 : decode cX9_noteStrike 75 = .ok (.invokestatic 93, 3) := by decide +kernel
theorem dX9_noteStrike_78 : decode cX9_noteStrike 78 = .ok (.putfield 50, 3) := by decide +kernel
theorem dX9_noteStrike_81 : decode cX9_noteStrike 81 = .ok (.return_, 1) := by decide +kernel
abbrev R_X9_noteStrike : Room := ({ frames := 1, cells := 0, slots := 0, locals := 64 } : Room)
def b_X9_noteStrike_29 (gT : Gs) (v1 : Int32) (s0 : Int32) (s1 : Int32) : Option (Gs) :=
  grd (inB s1 12) (grd (inB (gI gT 13) 64) (grd (inB (gI gT 13) 64) (some (sI (sI (sIA (sLA (sIA gT 9 (upd (gIA gT 9) s1.toNatClampNeg s0)) 10 (vp_updL (gLA gT 10) (gI gT 13).toNatClampNeg (gL gT 14))) 11 (upd (gIA gT 11) (gI gT 13).toNatClampNeg v1)) 13 (((gI gT 13) + (1 : Int32)) - ((gI gT 13) + (1 : Int32)) / (64 : Int32) * (64 : Int32))) 12 (if (64 : Int32) < ((gI gT 12) + (1 : Int32)) then (64 : Int32) else ((gI gT 12) + (1 : Int32)))))))
def f_X9_noteStrike (gT : Gs) (x0 : Int32) : Option (Gs) :=
  grd (inB x0 12) (if (2147483647 : Int32) ≤ (gIA gT 9 x0.toNatClampNeg) then (b_X9_noteStrike_29 gT x0 (2147483647 : Int32) x0) else (grd (inB x0 12) (b_X9_noteStrike_29 gT x0 ((gIA gT 9 x0.toNatClampNeg) + (1 : Int32)) x0)))
def S_X9_noteStrike_29 (l : Launch) (D : Dx) (hT : Nat) (aT : Nat → Nat) (yT : Nat → ClassId) (fn : Gs → Int32 → Int32 → Int32 → Option (Gs)) : Prop :=
  ∀ {p : Program} {e : Env} {s : State} {m : MethodId} {args : Array Value} {below : List Frame} {meth : Method} {c : Code} {H : Heap} {locs : List Loc} {A : Nat → Prop} {ls : Array Slot} {gT : Gs} {v1 : Int32} {s0 : Int32} {s1 : Int32} {q : Gs}, Cx p s m args meth c cX9_noteStrike none 2 RX9 lw_all → Hx D (tX9 yT) A s H locs (wX9 hT aT yT gT) → lv_has ls 2 [(0, .ref hT), (1, .int v1)] → fn gT v1 s0 s1 = some q → W p l e R_X9_noteStrike s m args below meth c H locs 0 0 (MQ below (QV D A (wX9 hT aT yT q)) args s 0 0 A) (F0 m 29 ls [.int s0, .int s1, .ref (aT 9)])
set_option maxHeartbeats 4000000 in
set_option maxRecDepth 100000 in
theorem k_X9_noteStrike_29 (l : Launch) (D : Dx) (hT : Nat) (aT : Nat → Nat) (yT : Nat → ClassId) : S_X9_noteStrike_29 l D hT aT yT (b_X9_noteStrike_29) := by
  intro p e s m args below meth c H locs A ls gT v1 s0 s1 q C X hl hF
  obtain ⟨hx, hb, hr, hml, hown, hts, hlk⟩ := id C
  unfold b_X9_noteStrike_29 at hF
  obtain ⟨h_2, hF⟩ := grd_some hF
  refine va_iast (D := D.1) (f := gIA gT 9) hx hb X.1 X.2.1 X.2.2.1 X.2.2.2.1 10 9 rfl rfl (inB_ok h_2) dX9_noteStrike_29 (fun H locs hP hD hS => ?_)
  have X : Hx D (tX9 yT) A s H locs (wX9 hT aT yT (sIA gT 9 (upd (gIA gT 9) s1.toNatClampNeg s0))) := Hx_set X (wG_sIA (i := 9) (k := 9) ndX9 rfl rfl) hP hD hS
  refine lv_aload_n hx hb dX9_noteStrike_30 rfl (lv_at hl 0 rfl) ?_
  refine va_get (D := D.1) (ci := 9) (v := .ref (aT 10)) (C := RX9) (T := TX9) (N := 17) hx hb hts wi_X9 hown X.1 X.2.1 0 rfl rfl 10 (by decide) (hts _ q1_77) (fun _ h9 => h9) (fl_get (by decide)) dX9_noteStrike_31 ?_
  refine lv_aload_n hx hb dX9_noteStrike_34 rfl (lv_at hl 0 rfl) ?_
  refine va_get (D := D.1) (ci := 9) (v := .int (gI gT 13)) (C := RX9) (T := TX9) (N := 17) hx hb hts wi_X9 hown X.1 X.2.1 0 rfl rfl 13 (by decide) (hts _ q1_83) (fun _ h9 => h9) (fl_get (by decide)) dX9_noteStrike_35 ?_
  refine lv_aload_n hx hb dX9_noteStrike_38 rfl (lv_at hl 0 rfl) ?_
  refine va_get (D := D.1) (ci := 9) (v := .long (gL gT 14)) (C := RX9) (T := TX9) (N := 17) hx hb hts wi_X9 hown X.1 X.2.1 0 rfl rfl 14 (by decide) (hts _ q1_85) (fun _ h9 => h9) (fl_get (by decide)) dX9_noteStrike_39 ?_
  obtain ⟨h_3, hF⟩ := grd_some hF
  refine va_last (D := D.1) (f := gLA gT 10) hx hb X.1 X.2.1 X.2.2.1 X.2.2.2.1 11 10 rfl rfl (inB_ok h_3) dX9_noteStrike_42 (fun H locs hP hD hS => ?_)
  have X : Hx D (tX9 yT) A s H locs (wX9 hT aT yT (sLA (sIA gT 9 (upd (gIA gT 9) s1.toNatClampNeg s0)) 10 (vp_updL (gLA gT 10) (gI gT 13).toNatClampNeg (gL gT 14)))) := Hx_set X (wG_sLA (i := 10) (k := 10) ndX9 rfl rfl) hP hD hS
  refine lv_aload_n hx hb dX9_noteStrike_43 rfl (lv_at hl 0 rfl) ?_
  refine va_get (D := D.1) (ci := 9) (v := .ref (aT 11)) (C := RX9) (T := TX9) (N := 17) hx hb hts wi_X9 hown X.1 X.2.1 0 rfl rfl 11 (by decide) (hts _ q1_79) (fun _ h9 => h9) (fl_get (by decide)) dX9_noteStrike_44 ?_
  refine lv_aload_n hx hb dX9_noteStrike_47 rfl (lv_at hl 0 rfl) ?_
  refine va_get (D := D.1) (ci := 9) (v := .int (gI gT 13)) (C := RX9) (T := TX9) (N := 17) hx hb hts wi_X9 hown X.1 X.2.1 0 rfl rfl 13 (by decide) (hts _ q1_83) (fun _ h9 => h9) (fl_get (by decide)) dX9_noteStrike_48 ?_
  refine lv_iload_n hx hb dX9_noteStrike_51 rfl (lv_at hl 1 rfl) ?_
  obtain ⟨h_4, hF⟩ := grd_some hF
  refine va_iast (D := D.1) (f := gIA gT 11) hx hb X.1 X.2.1 X.2.2.1 X.2.2.2.1 12 11 rfl rfl (inB_ok h_4) dX9_noteStrike_52 (fun H locs hP hD hS => ?_)
  have X : Hx D (tX9 yT) A s H locs (wX9 hT aT yT (sIA (sLA (sIA gT 9 (upd (gIA gT 9) s1.toNatClampNeg s0)) 10 (vp_updL (gLA gT 10) (gI gT 13).toNatClampNeg (gL gT 14))) 11 (upd (gIA gT 11) (gI gT 13).toNatClampNeg v1))) := Hx_set X (wG_sIA (i := 11) (k := 11) ndX9 rfl rfl) hP hD hS
  refine lv_aload_n hx hb dX9_noteStrike_53 rfl (lv_at hl 0 rfl) ?_
  refine lv_aload_n hx hb dX9_noteStrike_54 rfl (lv_at hl 0 rfl) ?_
  refine va_get (D := D.1) (ci := 9) (v := .int (gI gT 13)) (C := RX9) (T := TX9) (N := 17) hx hb hts wi_X9 hown X.1 X.2.1 0 rfl rfl 13 (by decide) (hts _ q1_83) (fun _ h9 => h9) (fl_get (by decide)) dX9_noteStrike_55 ?_
  refine lv_iconst (v := (1 : Int32)) hx hb dX9_noteStrike_58 (by decide) ?_
  refine lv_iadd hx hb dX9_noteStrike_59 ?_
  refine lv_bipush (v := (64 : Int32)) hx hb dX9_noteStrike_60 (by decide) ?_
  refine lv_irem hx hb dX9_noteStrike_62 (by decide) ?_
  refine va_put (D := D.1) (ci := 9) (v := .int (((gI gT 13) + (1 : Int32)) - ((gI gT 13) + (1 : Int32)) / (64 : Int32) * (64 : Int32))) (ty := .int) (C := RX9) (T := TX9) (N := 17) hx hb hts wi_X9 tyX9 tyX9_ok nmX9 hown X.1 X.2.1 X.2.2.1 X.2.2.2.1 0 rfl rfl 13 (by decide) (hts _ q1_83) (fun _ h9 => h9) rfl (by decide +kernel) rfl rfl (by rw [List.length_map, List.length_range]; decide) dX9_noteStrike_63 (fun H locs hP hD hS => ?_)
  have X : Hx D (tX9 yT) A s H locs (wX9 hT aT yT (sI (sIA (sLA (sIA gT 9 (upd (gIA gT 9) s1.toNatClampNeg s0)) 10 (vp_updL (gLA gT 10) (gI gT 13).toNatClampNeg (gL gT 14))) 11 (upd (gIA gT 11) (gI gT 13).toNatClampNeg v1)) 13 (((gI gT 13) + (1 : Int32)) - ((gI gT 13) + (1 : Int32)) / (64 : Int32) * (64 : Int32)))) := Hx_set X (wG_sI (k := 13) rfl) hP hD hS
  refine lv_aload_n hx hb dX9_noteStrike_66 rfl (lv_at hl 0 rfl) ?_
  refine lv_aload_n hx hb dX9_noteStrike_67 rfl (lv_at hl 0 rfl) ?_
  refine va_get (D := D.1) (ci := 9) (v := .int (gI gT 12)) (C := RX9) (T := TX9) (N := 17) hx hb hts wi_X9 hown X.1 X.2.1 0 rfl rfl 12 (by decide) (hts _ q1_81) (fun _ h9 => h9) (fl_get (by decide)) dX9_noteStrike_68 ?_
  refine lv_iconst (v := (1 : Int32)) hx hb dX9_noteStrike_71 (by decide) ?_
  refine lv_iadd hx hb dX9_noteStrike_72 ?_
  refine lv_bipush (v := (64 : Int32)) hx hb dX9_noteStrike_73 (by decide) ?_
  refine va_mmin hx hb (by rw [hml]; exact hl.1.symm) hown (hts _ q6_6) (hts _ q3_128) (hts _ q1_14) (hts _ q3_129) (Nat.le_of_ble_eq_true rfl) (Nat.le_of_ble_eq_true rfl) (Nat.le_of_ble_eq_true rfl) (Nat.le_of_ble_eq_true rfl) dX9_noteStrike_75 ?_
  refine va_put (D := D.1) (ci := 9) (v := .int (if (64 : Int32) < ((gI gT 12) + (1 : Int32)) then (64 : Int32) else ((gI gT 12) + (1 : Int32)))) (ty := .int) (C := RX9) (T := TX9) (N := 17) hx hb hts wi_X9 tyX9 tyX9_ok nmX9 hown X.1 X.2.1 X.2.2.1 X.2.2.2.1 0 rfl rfl 12 (by decide) (hts _ q1_81) (fun _ h9 => h9) rfl (by decide +kernel) rfl rfl (by rw [List.length_map, List.length_range]; decide) dX9_noteStrike_78 (fun H locs hP hD hS => ?_)
  have X : Hx D (tX9 yT) A s H locs (wX9 hT aT yT (sI (sI (sIA (sLA (sIA gT 9 (upd (gIA gT 9) s1.toNatClampNeg s0)) 10 (vp_updL (gLA gT 10) (gI gT 13).toNatClampNeg (gL gT 14))) 11 (upd (gIA gT 11) (gI gT 13).toNatClampNeg v1)) 13 (((gI gT 13) + (1 : Int32)) - ((gI gT 13) + (1 : Int32)) / (64 : Int32) * (64 : Int32))) 12 (if (64 : Int32) < ((gI gT 12) + (1 : Int32)) then (64 : Int32) else ((gI gT 12) + (1 : Int32))))) := Hx_set X (wG_sI (k := 12) rfl) hP hD hS
  have hq := Option.some.inj hF
  subst hq
  exact rt_v C X dX9_noteStrike_81
set_option maxHeartbeats 4000000 in
set_option maxRecDepth 100000 in
theorem c_X9_noteStrike (l : Launch) (D : Dx) (hT : Nat) (aT : Nat → Nat) (yT : Nat → ClassId) (gT : Gs) (x0 : Int32) (q : Gs) (hF : f_X9_noteStrike gT x0 = some q) (sz : Nat) : Met l yX9_noteStrike (ws_ yX9_noteStrike cX9_noteStrike 2 none) R_X9_noteStrike (PC D (tX9 yT) [.ref hT, .int x0] (wX9 hT aT yT gT) sz) (QV D (va_A (wX9 hT aT yT gT) sz) (wX9 hT aT yT q)) 0 0 (va_A (wX9 hT aT yT gT) sz) := by
  refine Met.ofW (cc := cX9_noteStrike) (maxL := 2) (ret := none) (by decide) rfl ?_
  intro p e s m args below meth c s₁ B hml hv
  obtain ⟨rfl, hsz, hP, hK, hD, hN⟩ := hv
  subst hsz
  have C : Cx p s m _ meth c cX9_noteStrike none 2 RX9 lw_all := Cx_of B hml
  have X := Hx_start hP hK hD hN
  obtain ⟨hx, hb, hr, -, hown, hts, hlk⟩ := id C
  generalize va_A (wX9 hT aT yT gT) s.heap.size = A at X ⊢
  have hl := lv_entry ([.ref hT, .int x0]) (n := 2) (Nat.le_of_ble_eq_true rfl)
  rw [lg_entry_eq]
  generalize (lg_sl ([.ref hT, .int x0]) ++ List.replicate (2 - (lg_sl ([.ref hT, .int x0])).length) Slot.unset).toArray = ls at hl ⊢
  have hl : lv_has ls 2 [(0, .ref hT), (1, .int x0)] := hl
  unfold f_X9_noteStrike at hF
  refine lv_aload_n hx hb dX9_noteStrike_0 rfl (lv_at hl 0 rfl) ?_
  refine va_get (D := D.1) (ci := 9) (v := .ref (aT 9)) (C := RX9) (T := TX9) (N := 17) hx hb hts wi_X9 hown X.1 X.2.1 0 rfl rfl 9 (by decide) (hts _ q1_75) (fun _ h9 => h9) (fl_get (by decide)) dX9_noteStrike_1 ?_
  refine lv_iload_n hx hb dX9_noteStrike_4 rfl (lv_at hl 1 rfl) ?_
  refine lv_aload_n hx hb dX9_noteStrike_5 rfl (lv_at hl 0 rfl) ?_
  refine va_get (D := D.1) (ci := 9) (v := .ref (aT 9)) (C := RX9) (T := TX9) (N := 17) hx hb hts wi_X9 hown X.1 X.2.1 0 rfl rfl 9 (by decide) (hts _ q1_75) (fun _ h9 => h9) (fl_get (by decide)) dX9_noteStrike_6 ?_
  refine lv_iload_n hx hb dX9_noteStrike_9 rfl (lv_at hl 1 rfl) ?_
  obtain ⟨h_1, hF⟩ := grd_some hF
  refine va_iald (D := D.1) (f := gIA gT 9) hx hb X.1 X.2.1 10 9 rfl rfl (inB_ok h_1) dX9_noteStrike_10 ?_
  refine lv_ldc hx hb hown (hts _ q5_148) dX9_noteStrike_11 ?_
  refine lv_icmp_ge (tgt := 27) hx hb dX9_noteStrike_13 (by decide) (fun c => ?_) (fun c => ?_)
  · replace hF := iT c hF
    refine lv_ldc hx hb hown (hts _ q5_148) dX9_noteStrike_27 ?_
    exact (k_X9_noteStrike_29 l D hT aT yT) C X (lv_sub hl [0, 1] rfl) hF
  · replace hF := iF c hF
    refine lv_aload_n hx hb dX9_noteStrike_16 rfl (lv_at hl 0 rfl) ?_
    refine va_get (D := D.1) (ci := 9) (v := .ref (aT 9)) (C := RX9) (T := TX9) (N := 17) hx hb hts wi_X9 hown X.1 X.2.1 0 rfl rfl 9 (by decide) (hts _ q1_75) (fun _ h9 => h9) (fl_get (by decide)) dX9_noteStrike_17 ?_
    refine lv_iload_n hx hb dX9_noteStrike_20 rfl (lv_at hl 1 rfl) ?_
    obtain ⟨h_5, hF⟩ := grd_some hF
    refine va_iald (D := D.1) (f := gIA gT 9) hx hb X.1 X.2.1 10 9 rfl rfl (inB_ok h_5) dX9_noteStrike_21 ?_
    refine lv_iconst (v := (1 : Int32)) hx hb dX9_noteStrike_22 (by decide) ?_
    refine lv_iadd hx hb dX9_noteStrike_23 ?_
    refine lv_goto (tgt := 29) hx hb dX9_noteStrike_24 (by decide) ?_
    exact (k_X9_noteStrike_29 l D hT aT yT) C X (lv_sub hl [0, 1] rfl) hF
