/-! constructors -/
def dfl (kd : Nat → Nat) (k : Nat) : Value := match kd k with
  | 0 => .int 0
  | 1 => .long 0
  | 2 => .double 0
  | _ => .null
def g00 : Gs := (fun _ => 0, fun _ => 0, fun _ => 0, fun _ _ => 0, fun _ _ => 0, fun _ _ => 0, fun _ => none)
def QN (D : Dx) {S : Type} (post : S → Prop) (A : Nat → Prop) (w : S → va_W) (t : S → List (ClassId × FieldType)) : Array Value → State → Outcome → State → Prop :=
  va_Qv post (fun u st => va_P D.1 vwCl (w u) st.heap ∧ va_K D.1 vwCl (t u) st ∧ va_D A (w u)) A
abbrev AY : Type := (Nat → Nat) × (Nat → ClassId)
theorem obj_set {h ci n k : Nat} {F : Nat → Value} {v : Value} {r : va_W} : List.set ((h, .inr (ci, (List.range n).map F)) :: r) 0 (h, .inr (ci, ((List.range n).map F).set k v)) = (h, .inr (ci, (List.range n).map (va_up F k v))) :: r := by
  rw [fl_set]; rfl
theorem obj_eq {ci n : Nat} {kd : Nat → Nat} {ks : List Nat} {ak ln : Nat → Nat} {h : Nat} {a : Nat → Nat} {y : Nat → ClassId} {g : Gs} {F : Nat → Value} {r : va_W} (h1 : (List.range n).map F = (List.range n).map (fld kd a g)) (h2 : r = ks.map (arF ak ln a y g)) : (h, .inr (ci, (List.range n).map F)) :: r = wG ci n kd ks ak ln h a y g := by
  subst h2; unfold wG; rw [h1]
theorem obj_P {D : va_G} {cl : List vw_C} {H : Heap} {ci n : Nat} {kd : Nat → Nat} {ks : List Nat} {ak ln : Nat → Nat} {h : Nat} {a : Nat → Nat} {y : Nat → ClassId} {g : Gs} {F : Nat → Value} {r : va_W} (h1 : (List.range n).map F = (List.range n).map (fld kd a g)) (h2 : r = ks.map (arF ak ln a y g)) (hP : va_P D cl ((h, .inr (ci, (List.range n).map F)) :: r) H) : va_P D cl (wG ci n kd ks ak ln h a y g) H := by
  rw [← obj_eq h1 h2]; exact hP
theorem obj_D {A : Nat → Prop} {ci n : Nat} {kd : Nat → Nat} {ks : List Nat} {ak ln : Nat → Nat} {h : Nat} {a : Nat → Nat} {y : Nat → ClassId} {g : Gs} {F : Nat → Value} {r : va_W} (h1 : (List.range n).map F = (List.range n).map (fld kd a g)) (h2 : r = ks.map (arF ak ln a y g)) (hD : va_D A ((h, .inr (ci, (List.range n).map F)) :: r)) : va_D A (wG ci n kd ks ak ln h a y g) := by
  rw [← obj_eq h1 h2]; exact hD
theorem rn_v {p : Program} {l : Launch} {e : Env} {R : Room} {s : State} {m : MethodId} {args : Array Value} {below : List Frame} {meth : Method} {c : Code} {H : Heap} {locs : List Loc} {cc : ByteArray} {nL : Nat} {own : String} {D : Dx} {A : Nat → Prop} {cells slots pc : Nat} {ls : Array Slot} {S : Type} {post : S → Prop} {w : S → va_W} {t : S → List (ClassId × FieldType)} (u : S) (hp : post u) (C : Cx p s m args meth c cc none nL own lw_all) (X : Hx D (t u) A s H locs (w u)) (hdg : decode cc pc = .ok (.return_, 1)) : W p l e R s m args below meth c H locs cells slots (MQ below (QN D post A w t) args s cells slots A) (F0 m pc ls []) :=
  W.vret C.1 C.2.1 C.2.2.1 (fun t ht hW => ⟨⟨u, rfl, hp, by rw [ht]; exact X.2.1, va_K.moved hW.alike X.1, X.2.2.1⟩, X.2.2.2.1.F ht⟩) X.2.2.2.1.2.2 hdg C.2.2.2.2.2.2
theorem q1_39 : Cond.constantDouble RX6 15 (4611686018427387904) ∈ lw_all := lw_in (tc_1 (List.mem_of_getElem? (i := 39) rfl)) rfl
theorem q1_38 : Cond.methodLink RX6 3 objectInit ∈ lw_all := lw_in (tc_1 (List.mem_of_getElem? (i := 38) rfl)) rfl
theorem q1_31 : Cond.instanceMethod objectInit ∈ lw_all := lw_in (tc_1 (List.mem_of_getElem? (i := 31) rfl)) rfl
theorem q1_32 : Cond.code objectInit ⟨#[0xb1]⟩ 1 none ∈ lw_all := lw_in (tc_1 (List.mem_of_getElem? (i := 32) rfl)) rfl
theorem q1_46 : Cond.arrayClass .double ∈ lw_all := lw_in (tc_1 (List.mem_of_getElem? (i := 46) rfl)) rfl
theorem q1_206 : Cond.methodLink RX0 3 objectInit ∈ lw_all := lw_in (tc_1 (List.mem_of_getElem? (i := 206) rfl)) rfl
theorem q1_129 : Cond.arrayClass .int ∈ lw_all := lw_in (tc_1 (List.mem_of_getElem? (i := 129) rfl)) rfl
theorem q1_128 : Cond.arrayClass .long ∈ lw_all := lw_in (tc_1 (List.mem_of_getElem? (i := 128) rfl)) rfl
theorem q2_8 : Cond.fieldLink RX0 55 "TurningHall$Code" "owner" "[I" ∈ lw_all := lw_in (tc_2 (List.mem_of_getElem? (i := 8) rfl)) rfl
theorem q2_11 : Cond.fieldLink RX0 58 "TurningHall$Code" "sign" "[I" ∈ lw_all := lw_in (tc_2 (List.mem_of_getElem? (i := 11) rfl)) rfl
theorem q2_14 : Cond.fieldLink RX0 61 "TurningHall$Code" "thingsAhead" "[I" ∈ lw_all := lw_in (tc_2 (List.mem_of_getElem? (i := 14) rfl)) rfl
theorem q2_17 : Cond.fieldLink RX0 64 "TurningHall$Code" "camsAhead" "[I" ∈ lw_all := lw_in (tc_2 (List.mem_of_getElem? (i := 17) rfl)) rfl
theorem q2_20 : Cond.fieldLink RX0 67 "TurningHall$Code" "result" "[I" ∈ lw_all := lw_in (tc_2 (List.mem_of_getElem? (i := 20) rfl)) rfl
theorem q1_52 : Cond.methodLink RX9 3 objectInit ∈ lw_all := lw_in (tc_1 (List.mem_of_getElem? (i := 52) rfl)) rfl
theorem q1_185 : Cond.methodLink RX10 1 objectInit ∈ lw_all := lw_in (tc_1 (List.mem_of_getElem? (i := 185) rfl)) rfl
theorem q1_136 : Cond.methodLink RX1 3 objectInit ∈ lw_all := lw_in (tc_1 (List.mem_of_getElem? (i := 136) rfl)) rfl
theorem q1_167 : Cond.methodLink RX3 3 objectInit ∈ lw_all := lw_in (tc_1 (List.mem_of_getElem? (i := 167) rfl)) rfl
theorem q1_45 : Cond.arrayClass .byte ∈ lw_all := lw_in (tc_1 (List.mem_of_getElem? (i := 45) rfl)) rfl
theorem q2_221 : Cond.methodLink RX8 3 objectInit ∈ lw_all := lw_in (tc_2 (List.mem_of_getElem? (i := 221) rfl)) rfl
theorem q2_234 : Cond.methodLink RX7 3 objectInit ∈ lw_all := lw_in (tc_2 (List.mem_of_getElem? (i := 234) rfl)) rfl
theorem q3_43 : Cond.methodLink RX2 3 objectInit ∈ lw_all := lw_in (tc_3 (List.mem_of_getElem? (i := 43) rfl)) rfl
abbrev R_X6_init : Room := { frames := 1, cells := 1, slots := 2098, locals := 40 }
theorem dX6_init_0 : decode cX6_init 0 = .ok (.aload_n 0, 1) := by decide +kernel
theorem dX6_init_1 : decode cX6_init 1 = .ok (.invokespecial 3, 3) := by decide +kernel
theorem dX6_init_4 : decode cX6_init 4 = .ok (.aload_n 0, 1) := by decide +kernel
theorem dX6_init_5 : decode cX6_init 5 = .ok (.sipush 2098, 3) := by decide +kernel
theorem dX6_init_8 : decode cX6_init 8 = .ok (.newarray .double, 2) := by decide +kernel
theorem dX6_init_10 : decode cX6_init 10 = .ok (.putfield 11, 3) := by decide +kernel
theorem dX6_init_13 : decode cX6_init 13 = .ok (.dconst 1, 1) := by decide +kernel
theorem dX6_init_14 : decode cX6_init 14 = .ok (.dstore_n 1, 1) := by decide +kernel
theorem dX6_init_15 : decode cX6_init 15 = .ok (.sipush 1074, 3) := by decide +kernel
theorem dX6_init_18 : decode cX6_init 18 = .ok (.istore_n 3, 1) := by decide +kernel
theorem dX6_init_19 : decode cX6_init 19 = .ok (.iload_n 3, 1) := by decide +kernel
theorem dX6_init_20 : decode cX6_init 20 = .ok (.sipush 2098, 3) := by decide +kernel
theorem dX6_init_23 : decode cX6_init 23 = .ok (.if_icmp .ge 22, 3) := by decide +kernel
theorem dX6_init_26 : decode cX6_init 26 = .ok (.aload_n 0, 1) := by decide +kernel
theorem dX6_init_27 : decode cX6_init 27 = .ok (.getfield 11, 3) := by decide +kernel
theorem dX6_init_30 : decode cX6_init 30 = .ok (.iload_n 3, 1) := by decide +kernel
theorem dX6_init_31 : decode cX6_init 31 = .ok (.dload_n 1, 1) := by decide +kernel
theorem dX6_init_32 : decode cX6_init 32 = .ok (.dastore, 1) := by decide +kernel
theorem dX6_init_33 : decode cX6_init 33 = .ok (.dload_n 1, 1) := by decide +kernel
theorem dX6_init_34 : decode cX6_init 34 = .ok (.ldc2_w 15, 3) := by decide +kernel
theorem dX6_init_37 : decode cX6_init 37 = .ok (.dmul, 1) := by decide +kernel
theorem dX6_init_38 : decode cX6_init 38 = .ok (.dstore_n 1, 1) := by decide +kernel
theorem dX6_init_39 : decode cX6_init 39 = .ok (.iinc 3 1, 3) := by decide +kernel
theorem dX6_init_42 : decode cX6_init 42 = .ok (.goto (-23), 3) := by decide +kernel
theorem dX6_init_45 : decode cX6_init 45 = .ok (.dconst 1, 1) := by decide +kernel
theorem dX6_init_46 : decode cX6_init 46 = .ok (.dstore_n 1, 1) := by decide +kernel
theorem dX6_init_47 : decode cX6_init 47 = .ok (.sipush 1074, 3) := by decide +kernel
theorem dX6_init_50 : decode cX6_init 50 = .ok (.istore_n 3, 1) := by decide +kernel
theorem dX6_init_51 : decode cX6_init 51 = .ok (.iload_n 3, 1) := by decide +kernel
theorem dX6_init_52 : decode cX6_init 52 = .ok (.ifCond .lt 22, 3) := by decide +kernel
theorem dX6_init_55 : decode cX6_init 55 = .ok (.aload_n 0, 1) := by decide +kernel
theorem dX6_init_56 : decode cX6_init 56 = .ok (.getfield 11, 3) := by decide +kernel
theorem dX6_init_59 : decode cX6_init 59 = .ok (.iload_n 3, 1) := by decide +kernel
theorem dX6_init_60 : decode cX6_init 60 = .ok (.dload_n 1, 1) := by decide +kernel
theorem dX6_init_61 : decode cX6_init 61 = .ok (.dastore, 1) := by decide +kernel
theorem dX6_init_62 : decode cX6_init 62 = .ok (.dload_n 1, 1) := by decide +kernel
theorem dX6_init_63 : decode cX6_init 63 = .ok (.ldc2_w 17, 3) := by decide +kernel
theorem dX6_init_66 : decode cX6_init 66 = .ok (.dmul, 1) := by decide +kernel
theorem dX6_init_67 : decode cX6_init 67 = .ok (.dstore_n 1, 1) := by decide +kernel
theorem dX6_init_68 : decode cX6_init 68 = .ok (.iinc 3 (-1), 3) := by decide +kernel
theorem dX6_init_71 : decode cX6_init 71 = .ok (.goto (-20), 3) := by decide +kernel
theorem dX6_init_74 : decode cX6_init 74 = .ok (.return_, 1) := by decide +kernel
def h_X6_init_51 (n : Nat) (rec : (Gs → UInt64 → Int32 → Option (Gs)) × (Gs → UInt64 → Int32 → Option (Gs))) (gT : Gs) (v1 : UInt64) (v3 : Int32) : Option (Gs) :=
  if v3 < 0 then (some gT) else (grd (inB v3 2098) (grd (n64 (FP.dmul v1 (4602678819172646912 : UInt64))) (rec.2 (sDA gT 0 (vf_upd (gDA gT 0) v3.toNatClampNeg v1)) (FP.dmul v1 (4602678819172646912 : UInt64)) (v3 + (-1 : Int32)))))
def h_X6_init_19 (n : Nat) (rec : (Gs → UInt64 → Int32 → Option (Gs)) × (Gs → UInt64 → Int32 → Option (Gs))) (gT : Gs) (v1 : UInt64) (v3 : Int32) : Option (Gs) :=
  if (2098 : Int32) ≤ v3 then (rec.2 gT FP.dconst1 (1074 : Int32)) else (grd (inB v3 2098) (grd (n64 (FP.dmul v1 (4611686018427387904 : UInt64))) (rec.1 (sDA gT 0 (vf_upd (gDA gT 0) v3.toNatClampNeg v1)) (FP.dmul v1 (4611686018427387904 : UInt64)) (v3 + (1 : Int32)))))
def L_X6_init (n : Nat) : Nat → ((Gs → UInt64 → Int32 → Option (Gs)) × (Gs → UInt64 → Int32 → Option (Gs)))
  | 0 => ((fun _ _ _ => none), (fun _ _ _ => none))
  | k + 1 => (h_X6_init_19 n (L_X6_init n k), h_X6_init_51 n (L_X6_init n k))
def f_X6_init (n : Nat) (gT : Gs) : Option (Gs) :=
  (L_X6_init n n).1 gT FP.dconst1 (1074 : Int32)
def S_X6_init_51 (l : Launch) (D : Dx) (hT : Nat) (aT : Nat → Nat) (yT : Nat → ClassId) (fn : Gs → UInt64 → Int32 → Option (Gs)) : Prop :=
  ∀ {p : Program} {e : Env} {s : State} {m : MethodId} {args : Array Value} {below : List Frame} {meth : Method} {c : Code} {H : Heap} {locs : List Loc} {A : Nat → Prop} {ls : Array Slot} {gT : Gs} {v1 : UInt64} {v3 : Int32} {q : Gs}, Cx p s m args meth c cX6_init none 4 RX6 lw_all → Hx D (tX6 yT) A s H locs (wX6 hT aT yT gT) → lv_has ls 4 [(0, .ref hT), (1, .double v1), (3, .int v3)] → fn gT v1 v3 = some q → W p l e R_X6_init s m args below meth c H locs 1 2098 (MQ below (QN D (fun _ : AY => True) A (fun u => wX6 hT u.1 u.2 q) (fun u => tX6 u.2)) args s 1 2098 A) (F0 m 51 ls [])
def S_X6_init_19 (l : Launch) (D : Dx) (hT : Nat) (aT : Nat → Nat) (yT : Nat → ClassId) (fn : Gs → UInt64 → Int32 → Option (Gs)) : Prop :=
  ∀ {p : Program} {e : Env} {s : State} {m : MethodId} {args : Array Value} {below : List Frame} {meth : Method} {c : Code} {H : Heap} {locs : List Loc} {A : Nat → Prop} {ls : Array Slot} {gT : Gs} {v1 : UInt64} {v3 : Int32} {q : Gs}, Cx p s m args meth c cX6_init none 4 RX6 lw_all → Hx D (tX6 yT) A s H locs (wX6 hT aT yT gT) → lv_has ls 4 [(0, .ref hT), (1, .double v1), (3, .int v3)] → fn gT v1 v3 = some q → W p l e R_X6_init s m args below meth c H locs 1 2098 (MQ below (QN D (fun _ : AY => True) A (fun u => wX6 hT u.1 u.2 q) (fun u => tX6 u.2)) args s 1 2098 A) (F0 m 19 ls [])
def SH_X6_init (l : Launch) (D : Dx) (hT : Nat) (aT : Nat → Nat) (yT : Nat → ClassId) (rec : (Gs → UInt64 → Int32 → Option (Gs)) × (Gs → UInt64 → Int32 → Option (Gs))) : Prop := S_X6_init_19 l D hT aT yT rec.1 ∧ S_X6_init_51 l D hT aT yT rec.2
set_option maxHeartbeats 4000000 in
set_option maxRecDepth 100000 in
theorem k_X6_init_51 (l : Launch) (D : Dx) (hT : Nat) (aT : Nat → Nat) (yT : Nat → ClassId) (n : Nat) (rec : (Gs → UInt64 → Int32 → Option (Gs)) × (Gs → UInt64 → Int32 → Option (Gs))) (IH : SH_X6_init l D hT aT yT rec) : S_X6_init_51 l D hT aT yT (h_X6_init_51 n rec) := by
  intro p e s m args below meth c H locs A ls gT v1 v3 q C X hl hF
  obtain ⟨hx, hb, hr, hml, hown, hts, hlk⟩ := id C
  unfold h_X6_init_51 at hF
  refine lv_iload_n hx hb dX6_init_51 rfl (lv_at hl 2 rfl) ?_
  refine lv_if_lt (tgt := 74) hx hb dX6_init_52 (by decide) (fun c => ?_) (fun c => ?_)
  · replace hF := iT c hF
    have hq := Option.some.inj hF
    subst hq
    exact rn_v (S := AY) (post := fun _ => True) (w := fun u => wX6 hT u.1 u.2 gT) (t := fun u => tX6 u.2) (aT, yT) trivial C X dX6_init_74
  · replace hF := iF c hF
    refine lv_aload_n hx hb dX6_init_55 rfl (lv_at hl 0 rfl) ?_
    refine va_get (D := D.1) (ci := 6) (v := .ref (aT 0)) (C := RX6) (T := TX6) (N := 1) hx hb hts wi_X6 hown X.1 X.2.1 0 rfl rfl 0 (by decide) (hts _ q1_41) (fun _ h9 => h9) (fl_get (by decide)) dX6_init_56 ?_
    refine lv_iload_n hx hb dX6_init_59 rfl (lv_at hl 2 rfl) ?_
    refine lv_dload_n hx hb dX6_init_60 rfl (lv_at hl 1 rfl) ?_
    obtain ⟨h_1, hF⟩ := grd_some hF
    refine va_dast (D := D.1) (f := gDA gT 0) hx hb X.1 X.2.1 X.2.2.1 X.2.2.2.1 1 0 rfl rfl (inB_ok h_1) dX6_init_61 (fun H locs hP hD hS => ?_)
    have X : Hx D (tX6 yT) A s H locs (wX6 hT aT yT (sDA gT 0 (vf_upd (gDA gT 0) v3.toNatClampNeg v1))) := Hx_set X (wG_sDA (i := 0) (k := 0) ndX6 rfl rfl) hP hD hS
    refine lv_dload_n hx hb dX6_init_62 rfl (lv_at hl 1 rfl) ?_
    refine lv_ldc2d hx hb hown (hts _ q1_40) dX6_init_63 ?_
    obtain ⟨h_2, hF⟩ := grd_some hF
    refine lv_dmul hx hb dX6_init_66 (n64_ok h_2) ?_
    refine lv_dstore_n (lv' := [(1, .double (FP.dmul v1 (4602678819172646912 : UInt64))), (0, .ref hT), (3, .int v3)]) hx hb dX6_init_67 rfl hl (by decide) rfl (fun ls hl => ?_)
    refine lv_iinc (v := v3 + (-1 : Int32)) (lv' := [(3, .int (v3 + (-1 : Int32))), (1, .double (FP.dmul v1 (4602678819172646912 : UInt64))), (0, .ref hT)]) hx hb dX6_init_68 hl (k := 2) rfl rfl (by decide) rfl (fun ls hl => ?_)
    refine lv_goto (tgt := 51) hx hb dX6_init_71 (by decide) ?_
    exact IH.2 C X (lv_sub hl [2, 1, 0] rfl) hF
set_option maxHeartbeats 4000000 in
set_option maxRecDepth 100000 in
theorem k_X6_init_19 (l : Launch) (D : Dx) (hT : Nat) (aT : Nat → Nat) (yT : Nat → ClassId) (n : Nat) (rec : (Gs → UInt64 → Int32 → Option (Gs)) × (Gs → UInt64 → Int32 → Option (Gs))) (IH : SH_X6_init l D hT aT yT rec) : S_X6_init_19 l D hT aT yT (h_X6_init_19 n rec) := by
  intro p e s m args below meth c H locs A ls gT v1 v3 q C X hl hF
  obtain ⟨hx, hb, hr, hml, hown, hts, hlk⟩ := id C
  unfold h_X6_init_19 at hF
  refine lv_iload_n hx hb dX6_init_19 rfl (lv_at hl 2 rfl) ?_
  refine lv_sipush (v := (2098 : Int32)) hx hb dX6_init_20 (by decide) ?_
  refine lv_icmp_ge (tgt := 45) hx hb dX6_init_23 (by decide) (fun c => ?_) (fun c => ?_)
  · replace hF := iT c hF
    refine lv_dconst1 hx hb dX6_init_45 ?_
    refine lv_dstore_n (lv' := [(1, .double FP.dconst1), (0, .ref hT), (3, .int v3)]) hx hb dX6_init_46 rfl hl (by decide) rfl (fun ls hl => ?_)
    refine lv_sipush (v := (1074 : Int32)) hx hb dX6_init_47 (by decide) ?_
    refine lv_istore_n (lv' := [(3, .int (1074 : Int32)), (1, .double FP.dconst1), (0, .ref hT)]) hx hb dX6_init_50 rfl hl (by decide) rfl (fun ls hl => ?_)
    exact IH.2 C X (lv_sub hl [2, 1, 0] rfl) hF
  · replace hF := iF c hF
    refine lv_aload_n hx hb dX6_init_26 rfl (lv_at hl 0 rfl) ?_
    refine va_get (D := D.1) (ci := 6) (v := .ref (aT 0)) (C := RX6) (T := TX6) (N := 1) hx hb hts wi_X6 hown X.1 X.2.1 0 rfl rfl 0 (by decide) (hts _ q1_41) (fun _ h9 => h9) (fl_get (by decide)) dX6_init_27 ?_
    refine lv_iload_n hx hb dX6_init_30 rfl (lv_at hl 2 rfl) ?_
    refine lv_dload_n hx hb dX6_init_31 rfl (lv_at hl 1 rfl) ?_
    obtain ⟨h_3, hF⟩ := grd_some hF
    refine va_dast (D := D.1) (f := gDA gT 0) hx hb X.1 X.2.1 X.2.2.1 X.2.2.2.1 1 0 rfl rfl (inB_ok h_3) dX6_init_32 (fun H locs hP hD hS => ?_)
    have X : Hx D (tX6 yT) A s H locs (wX6 hT aT yT (sDA gT 0 (vf_upd (gDA gT 0) v3.toNatClampNeg v1))) := Hx_set X (wG_sDA (i := 0) (k := 0) ndX6 rfl rfl) hP hD hS
    refine lv_dload_n hx hb dX6_init_33 rfl (lv_at hl 1 rfl) ?_
    refine lv_ldc2d hx hb hown (hts _ q1_39) dX6_init_34 ?_
    obtain ⟨h_4, hF⟩ := grd_some hF
    refine lv_dmul hx hb dX6_init_37 (n64_ok h_4) ?_
    refine lv_dstore_n (lv' := [(1, .double (FP.dmul v1 (4611686018427387904 : UInt64))), (0, .ref hT), (3, .int v3)]) hx hb dX6_init_38 rfl hl (by decide) rfl (fun ls hl => ?_)
    refine lv_iinc (v := v3 + (1 : Int32)) (lv' := [(3, .int (v3 + (1 : Int32))), (1, .double (FP.dmul v1 (4611686018427387904 : UInt64))), (0, .ref hT)]) hx hb dX6_init_39 hl (k := 2) rfl rfl (by decide) rfl (fun ls hl => ?_)
    refine lv_goto (tgt := 19) hx hb dX6_init_42 (by decide) ?_
    exact IH.1 C X (lv_sub hl [2, 1, 0] rfl) hF
theorem kL_X6_init (l : Launch) (D : Dx) (hT : Nat) (aT : Nat → Nat) (yT : Nat → ClassId) (n : Nat) : ∀ k, SH_X6_init l D hT aT yT (L_X6_init n k)
  | 0 => ⟨(fun _ _ _ h => by cases h), (fun _ _ _ h => by cases h)⟩
  | k + 1 => ⟨k_X6_init_19 l D hT aT yT n _ (kL_X6_init l D hT aT yT n k), k_X6_init_51 l D hT aT yT n _ (kL_X6_init l D hT aT yT n k)⟩
theorem dfX6 : ∀ j, j < 1 → defaultValue (tyX6 j) = vp_V ((List.range 1).map (dfl kdX6)) j := by decide +kernel
set_option maxHeartbeats 4000000 in
set_option maxRecDepth 100000 in
theorem n_X6_init (l : Launch) (D : Dx) (n : Nat) (h : Nat) (q : Gs) (hF : f_X6_init n g00 = some q) (sz : Nat) : Met l yX6_init (ws_ yX6_init cX6_init 4 none) R_X6_init (PC D [] [.ref h] [(h, .inr (6, (List.range 1).map (dfl kdX6)))] sz) (QN D (fun _ : AY => True) (va_A [(h, .inr (6, (List.range 1).map (dfl kdX6)))] sz) (fun u => wX6 h u.1 u.2 q) (fun u => tX6 u.2)) 1 2098 (va_A [(h, .inr (6, (List.range 1).map (dfl kdX6)))] sz) := by
  refine Met.ofW (cc := cX6_init) (maxL := 4) (ret := none) (by decide) rfl ?_
  intro p e s m args below meth c s₁ B hml hv
  obtain ⟨rfl, hsz, hP, hK, hD, hN⟩ := hv
  subst hsz
  have C : Cx p s m _ meth c cX6_init none 4 RX6 lw_all := Cx_of B hml
  have X := Hx_start hP hK hD hN
  have hin : meth.name = "<init>" := (name_of_methodNamed B.named B.method).1
  obtain ⟨hx, hb, hr, -, hown, hts, hlk⟩ := id C
  generalize va_A [(h, .inr (6, (List.range 1).map (dfl kdX6)))] s.heap.size = A at X ⊢
  have hl := lv_entry ([.ref h]) (n := 4) (Nat.le_of_ble_eq_true rfl)
  rw [lg_entry_eq]
  generalize (lg_sl ([.ref h]) ++ List.replicate (4 - (lg_sl ([.ref h])).length) Slot.unset).toArray = ls at hl ⊢
  have hl : lv_has ls 4 [(0, .ref h)] := hl
  refine lv_aload_n hx hb dX6_init_0 rfl (lv_at hl 0 rfl) ?_
  refine W.objInit hx hb hown (hts _ q1_38) (hts _ q1_31) (hts _ q1_32) rfl (by rw [hml]; exact hl.1) rfl dX6_init_1 (Nat.le_of_ble_eq_true rfl) (Nat.le_of_ble_eq_true rfl) ?_
  refine W.eq (g2 := F0 m 4 ls []) rfl ?_
  refine lv_aload_n hx hb dX6_init_4 rfl (lv_at hl 0 rfl) ?_
  refine lv_sipush (v := (2098 : Int32)) hx hb dX6_init_5 (by decide) ?_
  refine va_newa (atype := .double) (a0 := (2098, .inr (.inr (.inr (.inl (fun _ => 0)))))) (N' := 2098) hx hb (hts (.arrayClass .double) q1_46) rfl X.1 X.2.1 X.2.2.1 X.2.2.2.1 X.2.2.2.2.1 (fun _ => rfl) (by decide) (by decide) (by decide) (Nat.le_of_ble_eq_true rfl) (Nat.le_of_ble_eq_true rfl) dX6_init_8 (fun q1 y1 H hK hP hD hS => ?_)
  have X : Hx D [(y1, .double)] A s H [] [(h, .inr (6, (List.range 1).map (dfl kdX6))), (q1, .inl (y1, 2098, .inr (.inr (.inr (.inl (fun _ => 0))))))] := ⟨hK, hP, hD, hS, X.2.2.2.2⟩
  refine W.widen (k := 1) (n := 2098) (Nat.le_of_ble_eq_true rfl) (Nat.le_of_ble_eq_true rfl) ?_
  refine va_putF (D := D.1) (ci := 6) (v := .ref q1) (ty := tyX6 0) (C := RX6) (T := TX6) (N := 1) hx hb hts wi_X6 tyX6 tyX6_ok nmX6 hown X.1 X.2.1 X.2.2.1 X.2.2.2.1 0 rfl rfl 0 (by decide) (hts _ q1_41) (fun _ h9 => h9) rfl hin rfl (by decide +kernel) rfl rfl (by rw [List.length_map, List.length_range]; decide) dX6_init_10 (fun H locs hP hD hS => ?_)
  have X : Hx D [(y1, .double)] A s H locs [(h, .inr (6, (List.range 1).map (va_up (dfl kdX6) 0 (.ref q1)))), (q1, .inl (y1, 2098, .inr (.inr (.inr (.inl (fun _ => 0))))))] := Hx_set X obj_set hP hD hS
  have e1 : (List.range 1).map (va_up (dfl kdX6) 0 (.ref q1)) = (List.range 1).map (fld kdX6 (fun _ => q1) g00) := by rfl
  have e2 : ([(q1, .inl (y1, 2098, .inr (.inr (.inr (.inl (fun _ => 0))))))] : va_W) = ksX6.map (arF akX6 lnX6 (fun _ => q1) (fun _ => y1) g00) := by rfl
  have X : Hx D (tX6 (fun _ => y1)) A s H locs (wX6 h (fun _ => q1) (fun _ => y1) g00) := ⟨X.1, obj_P e1 e2 X.2.1, obj_D e1 e2 X.2.2.1, X.2.2.2⟩
  unfold f_X6_init at hF
  refine lv_dconst1 hx hb dX6_init_13 ?_
  refine lv_dstore_n (lv' := [(1, .double FP.dconst1), (0, .ref h)]) hx hb dX6_init_14 rfl hl (by decide) rfl (fun ls hl => ?_)
  refine lv_sipush (v := (1074 : Int32)) hx hb dX6_init_15 (by decide) ?_
  refine lv_istore_n (lv' := [(3, .int (1074 : Int32)), (1, .double FP.dconst1), (0, .ref h)]) hx hb dX6_init_18 rfl hl (by decide) rfl (fun ls hl => ?_)
  exact (kL_X6_init l D h (fun _ => q1) (fun _ => y1) n n).1 C X (lv_sub hl [2, 1, 0] rfl) hF

/-! ### X0_init -/
theorem dX0_init_0 : decode cX0_init 0 = .ok (.aload_n 0, 1) := by decide +kernel
theorem dX0_init_1 : decode cX0_init 1 = .ok (.invokespecial 3, 3) := by decide +kernel
theorem dX0_init_4 : decode cX0_init 4 = .ok (.aload_n 0, 1) := by decide +kernel
theorem dX0_init_5 : decode cX0_init 5 = .ok (.sipush 840, 3) := by decide +kernel
theorem dX0_init_8 : decode cX0_init 8 = .ok (.newarray .int, 2) := by decide +kernel
theorem dX0_init_10 : decode cX0_init 10 = .ok (.putfield 9, 3) := by decide +kernel
theorem dX0_init_13 : decode cX0_init 13 = .ok (.aload_n 0, 1) := by decide +kernel
theorem dX0_init_14 : decode cX0_init 14 = .ok (.sipush 840, 3) := by decide +kernel
theorem dX0_init_17 : decode cX0_init 17 = .ok (.newarray .int, 2) := by decide +kernel
theorem dX0_init_19 : decode cX0_init 19 = .ok (.putfield 15, 3) := by decide +kernel
theorem dX0_init_22 : decode cX0_init 22 = .ok (.aload_n 0, 1) := by decide +kernel
theorem dX0_init_23 : decode cX0_init 23 = .ok (.sipush 840, 3) := by decide +kernel
theorem dX0_init_26 : decode cX0_init 26 = .ok (.newarray .int, 2) := by decide +kernel
theorem dX0_init_28 : decode cX0_init 28 = .ok (.putfield 18, 3) := by decide +kernel
theorem dX0_init_31 : decode cX0_init 31 = .ok (.aload_n 0, 1) := by decide +kernel
theorem dX0_init_32 : decode cX0_init 32 = .ok (.sipush 840, 3) := by decide +kernel
theorem dX0_init_35 : decode cX0_init 35 = .ok (.newarray .int, 2) := by decide +kernel
theorem dX0_init_37 : decode cX0_init 37 = .ok (.putfield 21, 3) := by decide +kernel
theorem dX0_init_40 : decode cX0_init 40 = .ok (.aload_n 0, 1) := by decide +kernel
theorem dX0_init_41 : decode cX0_init 41 = .ok (.sipush 840, 3) := by decide +kernel
theorem dX0_init_44 : decode cX0_init 44 = .ok (.newarray .int, 2) := by decide +kernel
theorem dX0_init_46 : decode cX0_init 46 = .ok (.putfield 24, 3) := by decide +kernel
theorem dX0_init_49 : decode cX0_init 49 = .ok (.aload_n 0, 1) := by decide +kernel
theorem dX0_init_50 : decode cX0_init 50 = .ok (.sipush 840, 3) := by decide +kernel
theorem dX0_init_53 : decode cX0_init 53 = .ok (.newarray .int, 2) := by decide +kernel
theorem dX0_init_55 : decode cX0_init 55 = .ok (.putfield 27, 3) := by decide +kernel
theorem dX0_init_58 : decode cX0_init 58 = .ok (.aload_n 0, 1) := by decide +kernel
theorem dX0_init_59 : decode cX0_init 59 = .ok (.sipush 840, 3) := by decide +kernel
theorem dX0_init_62 : decode cX0_init 62 = .ok (.newarray .long, 2) := by decide +kernel
theorem dX0_init_64 : decode cX0_init 64 = .ok (.putfield 30, 3) := by decide +kernel
theorem dX0_init_67 : decode cX0_init 67 = .ok (.aload_n 0, 1) := by decide +kernel
theorem dX0_init_68 : decode cX0_init 68 = .ok (.sipush 840, 3) := by decide +kernel
theorem dX0_init_71 : decode cX0_init 71 = .ok (.newarray .double, 2) := by decide +kernel
theorem dX0_init_73 : decode cX0_init 73 = .ok (.putfield 34, 3) := by decide +kernel
theorem dX0_init_76 : decode cX0_init 76 = .ok (.aload_n 0, 1) := by decide +kernel
theorem dX0_init_77 : decode cX0_init 77 = .ok (.iconst 0, 1) := by decide +kernel
theorem dX0_init_78 : decode cX0_init 78 = .ok (.putfield 38, 3) := by decide +kernel
theorem dX0_init_81 : decode cX0_init 81 = .ok (.aload_n 0, 1) := by decide +kernel
theorem dX0_init_82 : decode cX0_init 82 = .ok (.iconst 0, 1) := by decide +kernel
theorem dX0_init_83 : decode cX0_init 83 = .ok (.putfield 42, 3) := by decide +kernel
theorem dX0_init_86 : decode cX0_init 86 = .ok (.aload_n 0, 1) := by decide +kernel
theorem dX0_init_87 : decode cX0_init 87 = .ok (.iconst 0, 1) := by decide +kernel
theorem dX0_init_88 : decode cX0_init 88 = .ok (.putfield 45, 3) := by decide +kernel
theorem dX0_init_91 : decode cX0_init 91 = .ok (.aload_n 0, 1) := by decide +kernel
theorem dX0_init_92 : decode cX0_init 92 = .ok (.bipush 92, 2) := by decide +kernel
theorem dX0_init_94 : decode cX0_init 94 = .ok (.newarray .int, 2) := by decide +kernel
theorem dX0_init_96 : decode cX0_init 96 = .ok (.putfield 49, 3) := by decide +kernel
theorem dX0_init_99 : decode cX0_init 99 = .ok (.aload_n 0, 1) := by decide +kernel
theorem dX0_init_100 : decode cX0_init 100 = .ok (.bipush 92, 2) := by decide +kernel
theorem dX0_init_102 : decode cX0_init 102 = .ok (.newarray .int, 2) := by decide +kernel
theorem dX0_init_104 : decode cX0_init 104 = .ok (.putfield 52, 3) := by decide +kernel
theorem dX0_init_107 : decode cX0_init 107 = .ok (.aload_n 0, 1) := by decide +kernel
theorem dX0_init_108 : decode cX0_init 108 = .ok (.bipush 92, 2) := by decide +kernel
theorem dX0_init_110 : decode cX0_init 110 = .ok (.newarray .int, 2) := by decide +kernel
theorem dX0_init_112 : decode cX0_init 112 = .ok (.putfield 55, 3) := by decide +kernel
theorem dX0_init_115 : decode cX0_init 115 = .ok (.aload_n 0, 1) := by decide +kernel
theorem dX0_init_116 : decode cX0_init 116 = .ok (.bipush 92, 2) := by decide +kernel
theorem dX0_init_118 : decode cX0_init 118 = .ok (.newarray .int, 2) := by decide +kernel
theorem dX0_init_120 : decode cX0_init 120 = .ok (.putfield 58, 3) := by decide +kernel
theorem dX0_init_123 : decode cX0_init 123 = .ok (.aload_n 0, 1) := by decide +kernel
theorem dX0_init_124 : decode cX0_init 124 = .ok (.bipush 92, 2) := by decide +kernel
theorem dX0_init_126 : decode cX0_init 126 = .ok (.newarray .int, 2) := by decide +kernel
theorem dX0_init_128 : decode cX0_init 128 = .ok (.putfield 61, 3) := by decide +kernel
theorem dX0_init_131 : decode cX0_init 131 = .ok (.aload_n 0, 1) := by decide +kernel
theorem dX0_init_132 : decode cX0_init 132 = .ok (.bipush 92, 2) := by decide +kernel
theorem dX0_init_134 : decode cX0_init 134 = .ok (.newarray .int, 2) := by decide +kernel
theorem dX0_init_136 : decode cX0_init 136 = .ok (.putfield 64, 3) := by decide +kernel
theorem dX0_init_139 : decode cX0_init 139 = .ok (.aload_n 0, 1) := by decide +kernel
theorem dX0_init_140 : decode cX0_init 140 = .ok (.bipush 92, 2) := by decide +kernel
theorem dX0_init_142 : decode cX0_init 142 = .ok (.newarray .int, 2) := by decide +kernel
theorem dX0_init_144 : decode cX0_init 144 = .ok (.putfield 67, 3) := by decide +kernel
theorem dX0_init_147 : decode cX0_init 147 = .ok (.aload_n 0, 1) := by decide +kernel
theorem dX0_init_148 : decode cX0_init 148 = .ok (.iconst 0, 1) := by decide +kernel
theorem dX0_init_149 : decode cX0_init 149 = .ok (.putfield 70, 3) := by decide +kernel
theorem dX0_init_152 : decode cX0_init 152 = .ok (.return_, 1) := by decide +kernel
def g0X0 : Gs := g00
theorem dfX0 : ∀ j, j < 19 → defaultValue (tyX0 j) = vp_V ((List.range 19).map (dfl kdX0)) j := by decide +kernel
set_option maxHeartbeats 4000000 in
set_option maxRecDepth 100000 in
theorem n_X0_init (l : Launch) (D : Dx) (h : Nat) (sz : Nat) : Met l yX0_init (ws_ yX0_init cX0_init 1 none) { frames := 1, cells := 15, slots := 7364, locals := 40 } (PC D [] [.ref h] [(h, .inr (0, (List.range 19).map (dfl kdX0)))] sz) (QN D (fun u : AY => True) (va_A [(h, .inr (0, (List.range 19).map (dfl kdX0)))] sz) (fun u => wX0 h u.1 u.2 g0X0) (fun u => tX0 u.2)) 15 7364 (va_A [(h, .inr (0, (List.range 19).map (dfl kdX0)))] sz) := by
  refine Met.ofW (cc := cX0_init) (maxL := 1) (ret := none) (by decide) rfl ?_
  intro p e s m args below meth c s₁ B hml hv
  obtain ⟨rfl, hsz, hP, hK, hD, hN⟩ := hv
  subst hsz
  have C : Cx p s m _ meth c cX0_init none 1 RX0 lw_all := Cx_of B hml
  have X := Hx_start hP hK hD hN
  have hin : meth.name = "<init>" := (name_of_methodNamed B.named B.method).1
  obtain ⟨hx, hb, hr, -, hown, hts, hlk⟩ := id C
  generalize va_A [(h, .inr (0, (List.range 19).map (dfl kdX0)))] s.heap.size = A at X ⊢
  have hl := lv_entry ([.ref h]) (n := 1) (Nat.le_of_ble_eq_true rfl)
  rw [lg_entry_eq]
  generalize (lg_sl ([.ref h]) ++ List.replicate (1 - (lg_sl ([.ref h])).length) Slot.unset).toArray = ls at hl ⊢
  have hl : lv_has ls 1 [(0, .ref h)] := hl
  refine lv_aload_n hx hb dX0_init_0 rfl (lv_at hl 0 rfl) ?_
  refine W.objInit hx hb hown (hts _ q1_206) (hts _ q1_31) (hts _ q1_32) rfl (by rw [hml]; exact hl.1) rfl dX0_init_1 (Nat.le_of_ble_eq_true rfl) (Nat.le_of_ble_eq_true rfl) ?_
  refine W.eq (g2 := F0 m 4 ls []) rfl ?_
  refine lv_aload_n hx hb dX0_init_4 rfl (lv_at hl 0 rfl) ?_
  refine lv_sipush (v := (840 : Int32)) hx hb dX0_init_5 (by decide) ?_
  refine va_newa (atype := .int) (a0 := (840, .inl (fun _ => 0))) (N' := 840) hx hb (hts (.arrayClass .int) q1_129) rfl X.1 X.2.1 X.2.2.1 X.2.2.2.1 X.2.2.2.2.1 (fun _ => rfl) (by decide) (by decide) (by decide) (Nat.le_of_ble_eq_true rfl) (Nat.le_of_ble_eq_true rfl) dX0_init_8 (fun q1 y1 H hK hP hD hS => ?_)
  have X : Hx D [(y1, .int)] A s H [] [(h, .inr (0, (List.range 19).map (dfl kdX0))), (q1, .inl (y1, 840, .inl (fun _ => 0)))] := ⟨hK, hP, hD, hS, X.2.2.2.2⟩
  refine W.widen (k := 1) (n := 840) (Nat.le_of_ble_eq_true rfl) (Nat.le_of_ble_eq_true rfl) ?_
  refine va_putF (D := D.1) (ci := 0) (v := .ref q1) (ty := tyX0 0) (C := RX0) (T := TX0) (N := 19) hx hb hts wi_X0 tyX0 tyX0_ok nmX0 hown X.1 X.2.1 X.2.2.1 X.2.2.2.1 0 rfl rfl 0 (by decide) (hts _ q1_207) (fun _ h9 => h9) rfl hin rfl (by decide +kernel) rfl rfl (by rw [List.length_map, List.length_range]; decide) dX0_init_10 (fun H locs hP hD hS => ?_)
  have X : Hx D [(y1, .int)] A s H locs [(h, .inr (0, (List.range 19).map (va_up (dfl kdX0) 0 (.ref q1)))), (q1, .inl (y1, 840, .inl (fun _ => 0)))] := Hx_set X obj_set hP hD hS
  refine lv_aload_n hx hb dX0_init_13 rfl (lv_at hl 0 rfl) ?_
  refine lv_sipush (v := (840 : Int32)) hx hb dX0_init_14 (by decide) ?_
  refine va_newa (atype := .int) (a0 := (840, .inl (fun _ => 0))) (N' := 840) hx hb (hts (.arrayClass .int) q1_129) rfl X.1 X.2.1 X.2.2.1 X.2.2.2.1 X.2.2.2.2.1 (fun _ => rfl) (by decide) (by decide) (by decide) (Nat.le_of_ble_eq_true rfl) (Nat.le_of_ble_eq_true rfl) dX0_init_17 (fun q2 y2 H hK hP hD hS => ?_)
  have X : Hx D [(y1, .int), (y2, .int)] A s H locs [(h, .inr (0, (List.range 19).map (va_up (dfl kdX0) 0 (.ref q1)))), (q1, .inl (y1, 840, .inl (fun _ => 0))), (q2, .inl (y2, 840, .inl (fun _ => 0)))] := ⟨hK, hP, hD, hS, X.2.2.2.2⟩
  refine W.widen (k := 2) (n := 1680) (Nat.le_of_ble_eq_true rfl) (Nat.le_of_ble_eq_true rfl) ?_
  refine va_putF (D := D.1) (ci := 0) (v := .ref q2) (ty := tyX0 1) (C := RX0) (T := TX0) (N := 19) hx hb hts wi_X0 tyX0 tyX0_ok nmX0 hown X.1 X.2.1 X.2.2.1 X.2.2.2.1 0 rfl rfl 1 (by decide) (hts _ q1_211) (fun _ h9 => h9) rfl hin rfl (by decide +kernel) rfl rfl (by rw [List.length_map, List.length_range]; decide) dX0_init_19 (fun H locs hP hD hS => ?_)
  have X : Hx D [(y1, .int), (y2, .int)] A s H locs [(h, .inr (0, (List.range 19).map (va_up (va_up (dfl kdX0) 0 (.ref q1)) 1 (.ref q2)))), (q1, .inl (y1, 840, .inl (fun _ => 0))), (q2, .inl (y2, 840, .inl (fun _ => 0)))] := Hx_set X obj_set hP hD hS
  refine lv_aload_n hx hb dX0_init_22 rfl (lv_at hl 0 rfl) ?_
  refine lv_sipush (v := (840 : Int32)) hx hb dX0_init_23 (by decide) ?_
  refine va_newa (atype := .int) (a0 := (840, .inl (fun _ => 0))) (N' := 840) hx hb (hts (.arrayClass .int) q1_129) rfl X.1 X.2.1 X.2.2.1 X.2.2.2.1 X.2.2.2.2.1 (fun _ => rfl) (by decide) (by decide) (by decide) (Nat.le_of_ble_eq_true rfl) (Nat.le_of_ble_eq_true rfl) dX0_init_26 (fun q3 y3 H hK hP hD hS => ?_)
  have X : Hx D [(y1, .int), (y2, .int), (y3, .int)] A s H locs [(h, .inr (0, (List.range 19).map (va_up (va_up (dfl kdX0) 0 (.ref q1)) 1 (.ref q2)))), (q1, .inl (y1, 840, .inl (fun _ => 0))), (q2, .inl (y2, 840, .inl (fun _ => 0))), (q3, .inl (y3, 840, .inl (fun _ => 0)))] := ⟨hK, hP, hD, hS, X.2.2.2.2⟩
  refine W.widen (k := 3) (n := 2520) (Nat.le_of_ble_eq_true rfl) (Nat.le_of_ble_eq_true rfl) ?_
  refine va_putF (D := D.1) (ci := 0) (v := .ref q3) (ty := tyX0 2) (C := RX0) (T := TX0) (N := 19) hx hb hts wi_X0 tyX0 tyX0_ok nmX0 hown X.1 X.2.1 X.2.2.1 X.2.2.2.1 0 rfl rfl 2 (by decide) (hts _ q1_214) (fun _ h9 => h9) rfl hin rfl (by decide +kernel) rfl rfl (by rw [List.length_map, List.length_range]; decide) dX0_init_28 (fun H locs hP hD hS => ?_)
  have X : Hx D [(y1, .int), (y2, .int), (y3, .int)] A s H locs [(h, .inr (0, (List.range 19).map (va_up (va_up (va_up (dfl kdX0) 0 (.ref q1)) 1 (.ref q2)) 2 (.ref q3)))), (q1, .inl (y1, 840, .inl (fun _ => 0))), (q2, .inl (y2, 840, .inl (fun _ => 0))), (q3, .inl (y3, 840, .inl (fun _ => 0)))] := Hx_set X obj_set hP hD hS
  refine lv_aload_n hx hb dX0_init_31 rfl (lv_at hl 0 rfl) ?_
  refine lv_sipush (v := (840 : Int32)) hx hb dX0_init_32 (by decide) ?_
  refine va_newa (atype := .int) (a0 := (840, .inl (fun _ => 0))) (N' := 840) hx hb (hts (.arrayClass .int) q1_129) rfl X.1 X.2.1 X.2.2.1 X.2.2.2.1 X.2.2.2.2.1 (fun _ => rfl) (by decide) (by decide) (by decide) (Nat.le_of_ble_eq_true rfl) (Nat.le_of_ble_eq_true rfl) dX0_init_35 (fun q4 y4 H hK hP hD hS => ?_)
  have X : Hx D [(y1, .int), (y2, .int), (y3, .int), (y4, .int)] A s H locs [(h, .inr (0, (List.range 19).map (va_up (va_up (va_up (dfl kdX0) 0 (.ref q1)) 1 (.ref q2)) 2 (.ref q3)))), (q1, .inl (y1, 840, .inl (fun _ => 0))), (q2, .inl (y2, 840, .inl (fun _ => 0))), (q3, .inl (y3, 840, .inl (fun _ => 0))), (q4, .inl (y4, 840, .inl (fun _ => 0)))] := ⟨hK, hP, hD, hS, X.2.2.2.2⟩
  refine W.widen (k := 4) (n := 3360) (Nat.le_of_ble_eq_true rfl) (Nat.le_of_ble_eq_true rfl) ?_
  refine va_putF (D := D.1) (ci := 0) (v := .ref q4) (ty := tyX0 3) (C := RX0) (T := TX0) (N := 19) hx hb hts wi_X0 tyX0 tyX0_ok nmX0 hown X.1 X.2.1 X.2.2.1 X.2.2.2.1 0 rfl rfl 3 (by decide) (hts _ q1_218) (fun _ h9 => h9) rfl hin rfl (by decide +kernel) rfl rfl (by rw [List.length_map, List.length_range]; decide) dX0_init_37 (fun H locs hP hD hS => ?_)
  have X : Hx D [(y1, .int), (y2, .int), (y3, .int), (y4, .int)] A s H locs [(h, .inr (0, (List.range 19).map (va_up (va_up (va_up (va_up (dfl kdX0) 0 (.ref q1)) 1 (.ref q2)) 2 (.ref q3)) 3 (.ref q4)))), (q1, .inl (y1, 840, .inl (fun _ => 0))), (q2, .inl (y2, 840, .inl (fun _ => 0))), (q3, .inl (y3, 840, .inl (fun _ => 0))), (q4, .inl (y4, 840, .inl (fun _ => 0)))] := Hx_set X obj_set hP hD hS
  refine lv_aload_n hx hb dX0_init_40 rfl (lv_at hl 0 rfl) ?_
  refine lv_sipush (v := (840 : Int32)) hx hb dX0_init_41 (by decide) ?_
  refine va_newa (atype := .int) (a0 := (840, .inl (fun _ => 0))) (N' := 840) hx hb (hts (.arrayClass .int) q1_129) rfl X.1 X.2.1 X.2.2.1 X.2.2.2.1 X.2.2.2.2.1 (fun _ => rfl) (by decide) (by decide) (by decide) (Nat.le_of_ble_eq_true rfl) (Nat.le_of_ble_eq_true rfl) dX0_init_44 (fun q5 y5 H hK hP hD hS => ?_)
  have X : Hx D [(y1, .int), (y2, .int), (y3, .int), (y4, .int), (y5, .int)] A s H locs [(h, .inr (0, (List.range 19).map (va_up (va_up (va_up (va_up (dfl kdX0) 0 (.ref q1)) 1 (.ref q2)) 2 (.ref q3)) 3 (.ref q4)))), (q1, .inl (y1, 840, .inl (fun _ => 0))), (q2, .inl (y2, 840, .inl (fun _ => 0))), (q3, .inl (y3, 840, .inl (fun _ => 0))), (q4, .inl (y4, 840, .inl (fun _ => 0))), (q5, .inl (y5, 840, .inl (fun _ => 0)))] := ⟨hK, hP, hD, hS, X.2.2.2.2⟩
  refine W.widen (k := 5) (n := 4200) (Nat.le_of_ble_eq_true rfl) (Nat.le_of_ble_eq_true rfl) ?_
  refine va_putF (D := D.1) (ci := 0) (v := .ref q5) (ty := tyX0 4) (C := RX0) (T := TX0) (N := 19) hx hb hts wi_X0 tyX0 tyX0_ok nmX0 hown X.1 X.2.1 X.2.2.1 X.2.2.2.1 0 rfl rfl 4 (by decide) (hts _ q1_223) (fun _ h9 => h9) rfl hin rfl (by decide +kernel) rfl rfl (by rw [List.length_map, List.length_range]; decide) dX0_init_46 (fun H locs hP hD hS => ?_)
  have X : Hx D [(y1, .int), (y2, .int), (y3, .int), (y4, .int), (y5, .int)] A s H locs [(h, .inr (0, (List.range 19).map (va_up (va_up (va_up (va_up (va_up (dfl kdX0) 0 (.ref q1)) 1 (.ref q2)) 2 (.ref q3)) 3 (.ref q4)) 4 (.ref q5)))), (q1, .inl (y1, 840, .inl (fun _ => 0))), (q2, .inl (y2, 840, .inl (fun _ => 0))), (q3, .inl (y3, 840, .inl (fun _ => 0))), (q4, .inl (y4, 840, .inl (fun _ => 0))), (q5, .inl (y5, 840, .inl (fun _ => 0)))] := Hx_set X obj_set hP hD hS
  refine lv_aload_n hx hb dX0_init_49 rfl (lv_at hl 0 rfl) ?_
  refine lv_sipush (v := (840 : Int32)) hx hb dX0_init_50 (by decide) ?_
  refine va_newa (atype := .int) (a0 := (840, .inl (fun _ => 0))) (N' := 840) hx hb (hts (.arrayClass .int) q1_129) rfl X.1 X.2.1 X.2.2.1 X.2.2.2.1 X.2.2.2.2.1 (fun _ => rfl) (by decide) (by decide) (by decide) (Nat.le_of_ble_eq_true rfl) (Nat.le_of_ble_eq_true rfl) dX0_init_53 (fun q6 y6 H hK hP hD hS => ?_)
  have X : Hx D [(y1, .int), (y2, .int), (y3, .int), (y4, .int), (y5, .int), (y6, .int)] A s H locs [(h, .inr (0, (List.range 19).map (va_up (va_up (va_up (va_up (va_up (dfl kdX0) 0 (.ref q1)) 1 (.ref q2)) 2 (.ref q3)) 3 (.ref q4)) 4 (.ref q5)))), (q1, .inl (y1, 840, .inl (fun _ => 0))), (q2, .inl (y2, 840, .inl (fun _ => 0))), (q3, .inl (y3, 840, .inl (fun _ => 0))), (q4, .inl (y4, 840, .inl (fun _ => 0))), (q5, .inl (y5, 840, .inl (fun _ => 0))), (q6, .inl (y6, 840, .inl (fun _ => 0)))] := ⟨hK, hP, hD, hS, X.2.2.2.2⟩
  refine W.widen (k := 6) (n := 5040) (Nat.le_of_ble_eq_true rfl) (Nat.le_of_ble_eq_true rfl) ?_
  refine va_putF (D := D.1) (ci := 0) (v := .ref q6) (ty := tyX0 5) (C := RX0) (T := TX0) (N := 19) hx hb hts wi_X0 tyX0 tyX0_ok nmX0 hown X.1 X.2.1 X.2.2.1 X.2.2.2.1 0 rfl rfl 5 (by decide) (hts _ q1_226) (fun _ h9 => h9) rfl hin rfl (by decide +kernel) rfl rfl (by rw [List.length_map, List.length_range]; decide) dX0_init_55 (fun H locs hP hD hS => ?_)
  have X : Hx D [(y1, .int), (y2, .int), (y3, .int), (y4, .int), (y5, .int), (y6, .int)] A s H locs [(h, .inr (0, (List.range 19).map (va_up (va_up (va_up (va_up (va_up (va_up (dfl kdX0) 0 (.ref q1)) 1 (.ref q2)) 2 (.ref q3)) 3 (.ref q4)) 4 (.ref q5)) 5 (.ref q6)))), (q1, .inl (y1, 840, .inl (fun _ => 0))), (q2, .inl (y2, 840, .inl (fun _ => 0))), (q3, .inl (y3, 840, .inl (fun _ => 0))), (q4, .inl (y4, 840, .inl (fun _ => 0))), (q5, .inl (y5, 840, .inl (fun _ => 0))), (q6, .inl (y6, 840, .inl (fun _ => 0)))] := Hx_set X obj_set hP hD hS
  refine lv_aload_n hx hb dX0_init_58 rfl (lv_at hl 0 rfl) ?_
  refine lv_sipush (v := (840 : Int32)) hx hb dX0_init_59 (by decide) ?_
  refine va_newa (atype := .long) (a0 := (840, .inr (.inl (fun _ => 0)))) (N' := 840) hx hb (hts (.arrayClass .long) q1_128) rfl X.1 X.2.1 X.2.2.1 X.2.2.2.1 X.2.2.2.2.1 (fun _ => rfl) (by decide) (by decide) (by decide) (Nat.le_of_ble_eq_true rfl) (Nat.le_of_ble_eq_true rfl) dX0_init_62 (fun q7 y7 H hK hP hD hS => ?_)
  have X : Hx D [(y1, .int), (y2, .int), (y3, .int), (y4, .int), (y5, .int), (y6, .int), (y7, .long)] A s H locs [(h, .inr (0, (List.range 19).map (va_up (va_up (va_up (va_up (va_up (va_up (dfl kdX0) 0 (.ref q1)) 1 (.ref q2)) 2 (.ref q3)) 3 (.ref q4)) 4 (.ref q5)) 5 (.ref q6)))), (q1, .inl (y1, 840, .inl (fun _ => 0))), (q2, .inl (y2, 840, .inl (fun _ => 0))), (q3, .inl (y3, 840, .inl (fun _ => 0))), (q4, .inl (y4, 840, .inl (fun _ => 0))), (q5, .inl (y5, 840, .inl (fun _ => 0))), (q6, .inl (y6, 840, .inl (fun _ => 0))), (q7, .inl (y7, 840, .inr (.inl (fun _ => 0))))] := ⟨hK, hP, hD, hS, X.2.2.2.2⟩
  refine W.widen (k := 7) (n := 5880) (Nat.le_of_ble_eq_true rfl) (Nat.le_of_ble_eq_true rfl) ?_
  refine va_putF (D := D.1) (ci := 0) (v := .ref q7) (ty := tyX0 6) (C := RX0) (T := TX0) (N := 19) hx hb hts wi_X0 tyX0 tyX0_ok nmX0 hown X.1 X.2.1 X.2.2.1 X.2.2.2.1 0 rfl rfl 6 (by decide) (hts _ q1_231) (fun _ h9 => h9) rfl hin rfl (by decide +kernel) rfl rfl (by rw [List.length_map, List.length_range]; decide) dX0_init_64 (fun H locs hP hD hS => ?_)
  have X : Hx D [(y1, .int), (y2, .int), (y3, .int), (y4, .int), (y5, .int), (y6, .int), (y7, .long)] A s H locs [(h, .inr (0, (List.range 19).map (va_up (va_up (va_up (va_up (va_up (va_up (va_up (dfl kdX0) 0 (.ref q1)) 1 (.ref q2)) 2 (.ref q3)) 3 (.ref q4)) 4 (.ref q5)) 5 (.ref q6)) 6 (.ref q7)))), (q1, .inl (y1, 840, .inl (fun _ => 0))), (q2, .inl (y2, 840, .inl (fun _ => 0))), (q3, .inl (y3, 840, .inl (fun _ => 0))), (q4, .inl (y4, 840, .inl (fun _ => 0))), (q5, .inl (y5, 840, .inl (fun _ => 0))), (q6, .inl (y6, 840, .inl (fun _ => 0))), (q7, .inl (y7, 840, .inr (.inl (fun _ => 0))))] := Hx_set X obj_set hP hD hS
  refine lv_aload_n hx hb dX0_init_67 rfl (lv_at hl 0 rfl) ?_
  refine lv_sipush (v := (840 : Int32)) hx hb dX0_init_68 (by decide) ?_
  refine va_newa (atype := .double) (a0 := (840, .inr (.inr (.inr (.inl (fun _ => 0)))))) (N' := 840) hx hb (hts (.arrayClass .double) q1_46) rfl X.1 X.2.1 X.2.2.1 X.2.2.2.1 X.2.2.2.2.1 (fun _ => rfl) (by decide) (by decide) (by decide) (Nat.le_of_ble_eq_true rfl) (Nat.le_of_ble_eq_true rfl) dX0_init_71 (fun q8 y8 H hK hP hD hS => ?_)
  have X : Hx D [(y1, .int), (y2, .int), (y3, .int), (y4, .int), (y5, .int), (y6, .int), (y7, .long), (y8, .double)] A s H locs [(h, .inr (0, (List.range 19).map (va_up (va_up (va_up (va_up (va_up (va_up (va_up (dfl kdX0) 0 (.ref q1)) 1 (.ref q2)) 2 (.ref q3)) 3 (.ref q4)) 4 (.ref q5)) 5 (.ref q6)) 6 (.ref q7)))), (q1, .inl (y1, 840, .inl (fun _ => 0))), (q2, .inl (y2, 840, .inl (fun _ => 0))), (q3, .inl (y3, 840, .inl (fun _ => 0))), (q4, .inl (y4, 840, .inl (fun _ => 0))), (q5, .inl (y5, 840, .inl (fun _ => 0))), (q6, .inl (y6, 840, .inl (fun _ => 0))), (q7, .inl (y7, 840, .inr (.inl (fun _ => 0)))), (q8, .inl (y8, 840, .inr (.inr (.inr (.inl (fun _ => 0))))))] := ⟨hK, hP, hD, hS, X.2.2.2.2⟩
  refine W.widen (k := 8) (n := 6720) (Nat.le_of_ble_eq_true rfl) (Nat.le_of_ble_eq_true rfl) ?_
  refine va_putF (D := D.1) (ci := 0) (v := .ref q8) (ty := tyX0 7) (C := RX0) (T := TX0) (N := 19) hx hb hts wi_X0 tyX0 tyX0_ok nmX0 hown X.1 X.2.1 X.2.2.1 X.2.2.2.1 0 rfl rfl 7 (by decide) (hts _ q1_234) (fun _ h9 => h9) rfl hin rfl (by decide +kernel) rfl rfl (by rw [List.length_map, List.length_range]; decide) dX0_init_73 (fun H locs hP hD hS => ?_)
  have X : Hx D [(y1, .int), (y2, .int), (y3, .int), (y4, .int), (y5, .int), (y6, .int), (y7, .long), (y8, .double)] A s H locs [(h, .inr (0, (List.range 19).map (va_up (va_up (va_up (va_up (va_up (va_up (va_up (va_up (dfl kdX0) 0 (.ref q1)) 1 (.ref q2)) 2 (.ref q3)) 3 (.ref q4)) 4 (.ref q5)) 5 (.ref q6)) 6 (.ref q7)) 7 (.ref q8)))), (q1, .inl (y1, 840, .inl (fun _ => 0))), (q2, .inl (y2, 840, .inl (fun _ => 0))), (q3, .inl (y3, 840, .inl (fun _ => 0))), (q4, .inl (y4, 840, .inl (fun _ => 0))), (q5, .inl (y5, 840, .inl (fun _ => 0))), (q6, .inl (y6, 840, .inl (fun _ => 0))), (q7, .inl (y7, 840, .inr (.inl (fun _ => 0)))), (q8, .inl (y8, 840, .inr (.inr (.inr (.inl (fun _ => 0))))))] := Hx_set X obj_set hP hD hS
  refine lv_aload_n hx hb dX0_init_76 rfl (lv_at hl 0 rfl) ?_
  refine lv_iconst (v := (0 : Int32)) hx hb dX0_init_77 (by decide) ?_
  refine va_put (D := D.1) (ci := 0) (v := .int (0 : Int32)) (ty := tyX0 8) (C := RX0) (T := TX0) (N := 19) hx hb hts wi_X0 tyX0 tyX0_ok nmX0 hown X.1 X.2.1 X.2.2.1 X.2.2.2.1 0 rfl rfl 8 (by decide) (hts _ q1_237) (fun _ h9 => h9) rfl (by decide +kernel) rfl rfl (by rw [List.length_map, List.length_range]; decide) dX0_init_78 (fun H locs hP hD hS => ?_)
  have X : Hx D [(y1, .int), (y2, .int), (y3, .int), (y4, .int), (y5, .int), (y6, .int), (y7, .long), (y8, .double)] A s H locs [(h, .inr (0, (List.range 19).map (va_up (va_up (va_up (va_up (va_up (va_up (va_up (va_up (va_up (dfl kdX0) 0 (.ref q1)) 1 (.ref q2)) 2 (.ref q3)) 3 (.ref q4)) 4 (.ref q5)) 5 (.ref q6)) 6 (.ref q7)) 7 (.ref q8)) 8 (.int (0 : Int32))))), (q1, .inl (y1, 840, .inl (fun _ => 0))), (q2, .inl (y2, 840, .inl (fun _ => 0))), (q3, .inl (y3, 840, .inl (fun _ => 0))), (q4, .inl (y4, 840, .inl (fun _ => 0))), (q5, .inl (y5, 840, .inl (fun _ => 0))), (q6, .inl (y6, 840, .inl (fun _ => 0))), (q7, .inl (y7, 840, .inr (.inl (fun _ => 0)))), (q8, .inl (y8, 840, .inr (.inr (.inr (.inl (fun _ => 0))))))] := Hx_set X obj_set hP hD hS
  refine lv_aload_n hx hb dX0_init_81 rfl (lv_at hl 0 rfl) ?_
  refine lv_iconst (v := (0 : Int32)) hx hb dX0_init_82 (by decide) ?_
  refine va_put (D := D.1) (ci := 0) (v := .int (0 : Int32)) (ty := tyX0 9) (C := RX0) (T := TX0) (N := 19) hx hb hts wi_X0 tyX0 tyX0_ok nmX0 hown X.1 X.2.1 X.2.2.1 X.2.2.2.1 0 rfl rfl 9 (by decide) (hts _ q1_239) (fun _ h9 => h9) rfl (by decide +kernel) rfl rfl (by rw [List.length_map, List.length_range]; decide) dX0_init_83 (fun H locs hP hD hS => ?_)
  have X : Hx D [(y1, .int), (y2, .int), (y3, .int), (y4, .int), (y5, .int), (y6, .int), (y7, .long), (y8, .double)] A s H locs [(h, .inr (0, (List.range 19).map (va_up (va_up (va_up (va_up (va_up (va_up (va_up (va_up (va_up (va_up (dfl kdX0) 0 (.ref q1)) 1 (.ref q2)) 2 (.ref q3)) 3 (.ref q4)) 4 (.ref q5)) 5 (.ref q6)) 6 (.ref q7)) 7 (.ref q8)) 8 (.int (0 : Int32))) 9 (.int (0 : Int32))))), (q1, .inl (y1, 840, .inl (fun _ => 0))), (q2, .inl (y2, 840, .inl (fun _ => 0))), (q3, .inl (y3, 840, .inl (fun _ => 0))), (q4, .inl (y4, 840, .inl (fun _ => 0))), (q5, .inl (y5, 840, .inl (fun _ => 0))), (q6, .inl (y6, 840, .inl (fun _ => 0))), (q7, .inl (y7, 840, .inr (.inl (fun _ => 0)))), (q8, .inl (y8, 840, .inr (.inr (.inr (.inl (fun _ => 0))))))] := Hx_set X obj_set hP hD hS
  refine lv_aload_n hx hb dX0_init_86 rfl (lv_at hl 0 rfl) ?_
  refine lv_iconst (v := (0 : Int32)) hx hb dX0_init_87 (by decide) ?_
  refine va_put (D := D.1) (ci := 0) (v := .int (0 : Int32)) (ty := tyX0 10) (C := RX0) (T := TX0) (N := 19) hx hb hts wi_X0 tyX0 tyX0_ok nmX0 hown X.1 X.2.1 X.2.2.1 X.2.2.2.1 0 rfl rfl 10 (by decide) (hts _ q2_2) (fun _ h9 => h9) rfl (by decide +kernel) rfl rfl (by rw [List.length_map, List.length_range]; decide) dX0_init_88 (fun H locs hP hD hS => ?_)
  have X : Hx D [(y1, .int), (y2, .int), (y3, .int), (y4, .int), (y5, .int), (y6, .int), (y7, .long), (y8, .double)] A s H locs [(h, .inr (0, (List.range 19).map (va_up (va_up (va_up (va_up (va_up (va_up (va_up (va_up (va_up (va_up (va_up (dfl kdX0) 0 (.ref q1)) 1 (.ref q2)) 2 (.ref q3)) 3 (.ref q4)) 4 (.ref q5)) 5 (.ref q6)) 6 (.ref q7)) 7 (.ref q8)) 8 (.int (0 : Int32))) 9 (.int (0 : Int32))) 10 (.int (0 : Int32))))), (q1, .inl (y1, 840, .inl (fun _ => 0))), (q2, .inl (y2, 840, .inl (fun _ => 0))), (q3, .inl (y3, 840, .inl (fun _ => 0))), (q4, .inl (y4, 840, .inl (fun _ => 0))), (q5, .inl (y5, 840, .inl (fun _ => 0))), (q6, .inl (y6, 840, .inl (fun _ => 0))), (q7, .inl (y7, 840, .inr (.inl (fun _ => 0)))), (q8, .inl (y8, 840, .inr (.inr (.inr (.inl (fun _ => 0))))))] := Hx_set X obj_set hP hD hS
  refine lv_aload_n hx hb dX0_init_91 rfl (lv_at hl 0 rfl) ?_
  refine lv_bipush (v := (92 : Int32)) hx hb dX0_init_92 (by decide) ?_
  refine va_newa (atype := .int) (a0 := (92, .inl (fun _ => 0))) (N' := 92) hx hb (hts (.arrayClass .int) q1_129) rfl X.1 X.2.1 X.2.2.1 X.2.2.2.1 X.2.2.2.2.1 (fun _ => rfl) (by decide) (by decide) (by decide) (Nat.le_of_ble_eq_true rfl) (Nat.le_of_ble_eq_true rfl) dX0_init_94 (fun q9 y9 H hK hP hD hS => ?_)
  have X : Hx D [(y1, .int), (y2, .int), (y3, .int), (y4, .int), (y5, .int), (y6, .int), (y7, .long), (y8, .double), (y9, .int)] A s H locs [(h, .inr (0, (List.range 19).map (va_up (va_up (va_up (va_up (va_up (va_up (va_up (va_up (va_up (va_up (va_up (dfl kdX0) 0 (.ref q1)) 1 (.ref q2)) 2 (.ref q3)) 3 (.ref q4)) 4 (.ref q5)) 5 (.ref q6)) 6 (.ref q7)) 7 (.ref q8)) 8 (.int (0 : Int32))) 9 (.int (0 : Int32))) 10 (.int (0 : Int32))))), (q1, .inl (y1, 840, .inl (fun _ => 0))), (q2, .inl (y2, 840, .inl (fun _ => 0))), (q3, .inl (y3, 840, .inl (fun _ => 0))), (q4, .inl (y4, 840, .inl (fun _ => 0))), (q5, .inl (y5, 840, .inl (fun _ => 0))), (q6, .inl (y6, 840, .inl (fun _ => 0))), (q7, .inl (y7, 840, .inr (.inl (fun _ => 0)))), (q8, .inl (y8, 840, .inr (.inr (.inr (.inl (fun _ => 0)))))), (q9, .inl (y9, 92, .inl (fun _ => 0)))] := ⟨hK, hP, hD, hS, X.2.2.2.2⟩
  refine W.widen (k := 9) (n := 6812) (Nat.le_of_ble_eq_true rfl) (Nat.le_of_ble_eq_true rfl) ?_
  refine va_putF (D := D.1) (ci := 0) (v := .ref q9) (ty := tyX0 11) (C := RX0) (T := TX0) (N := 19) hx hb hts wi_X0 tyX0 tyX0_ok nmX0 hown X.1 X.2.1 X.2.2.1 X.2.2.2.1 0 rfl rfl 11 (by decide) (hts _ q2_4) (fun _ h9 => h9) rfl hin rfl (by decide +kernel) rfl rfl (by rw [List.length_map, List.length_range]; decide) dX0_init_96 (fun H locs hP hD hS => ?_)
  have X : Hx D [(y1, .int), (y2, .int), (y3, .int), (y4, .int), (y5, .int), (y6, .int), (y7, .long), (y8, .double), (y9, .int)] A s H locs [(h, .inr (0, (List.range 19).map (va_up (va_up (va_up (va_up (va_up (va_up (va_up (va_up (va_up (va_up (va_up (va_up (dfl kdX0) 0 (.ref q1)) 1 (.ref q2)) 2 (.ref q3)) 3 (.ref q4)) 4 (.ref q5)) 5 (.ref q6)) 6 (.ref q7)) 7 (.ref q8)) 8 (.int (0 : Int32))) 9 (.int (0 : Int32))) 10 (.int (0 : Int32))) 11 (.ref q9)))), (q1, .inl (y1, 840, .inl (fun _ => 0))), (q2, .inl (y2, 840, .inl (fun _ => 0))), (q3, .inl (y3, 840, .inl (fun _ => 0))), (q4, .inl (y4, 840, .inl (fun _ => 0))), (q5, .inl (y5, 840, .inl (fun _ => 0))), (q6, .inl (y6, 840, .inl (fun _ => 0))), (q7, .inl (y7, 840, .inr (.inl (fun _ => 0)))), (q8, .inl (y8, 840, .inr (.inr (.inr (.inl (fun _ => 0)))))), (q9, .inl (y9, 92, .inl (fun _ => 0)))] := Hx_set X obj_set hP hD hS
  refine lv_aload_n hx hb dX0_init_99 rfl (lv_at hl 0 rfl) ?_
  refine lv_bipush (v := (92 : Int32)) hx hb dX0_init_100 (by decide) ?_
  refine va_newa (atype := .int) (a0 := (92, .inl (fun _ => 0))) (N' := 92) hx hb (hts (.arrayClass .int) q1_129) rfl X.1 X.2.1 X.2.2.1 X.2.2.2.1 X.2.2.2.2.1 (fun _ => rfl) (by decide) (by decide) (by decide) (Nat.le_of_ble_eq_true rfl) (Nat.le_of_ble_eq_true rfl) dX0_init_102 (fun q10 y10 H hK hP hD hS => ?_)
  have X : Hx D [(y1, .int), (y2, .int), (y3, .int), (y4, .int), (y5, .int), (y6, .int), (y7, .long), (y8, .double), (y9, .int), (y10, .int)] A s H locs [(h, .inr (0, (List.range 19).map (va_up (va_up (va_up (va_up (va_up (va_up (va_up (va_up (va_up (va_up (va_up (va_up (dfl kdX0) 0 (.ref q1)) 1 (.ref q2)) 2 (.ref q3)) 3 (.ref q4)) 4 (.ref q5)) 5 (.ref q6)) 6 (.ref q7)) 7 (.ref q8)) 8 (.int (0 : Int32))) 9 (.int (0 : Int32))) 10 (.int (0 : Int32))) 11 (.ref q9)))), (q1, .inl (y1, 840, .inl (fun _ => 0))), (q2, .inl (y2, 840, .inl (fun _ => 0))), (q3, .inl (y3, 840, .inl (fun _ => 0))), (q4, .inl (y4, 840, .inl (fun _ => 0))), (q5, .inl (y5, 840, .inl (fun _ => 0))), (q6, .inl (y6, 840, .inl (fun _ => 0))), (q7, .inl (y7, 840, .inr (.inl (fun _ => 0)))), (q8, .inl (y8, 840, .inr (.inr (.inr (.inl (fun _ => 0)))))), (q9, .inl (y9, 92, .inl (fun _ => 0))), (q10, .inl (y10, 92, .inl (fun _ => 0)))] := ⟨hK, hP, hD, hS, X.2.2.2.2⟩
  refine W.widen (k := 10) (n := 6904) (Nat.le_of_ble_eq_true rfl) (Nat.le_of_ble_eq_true rfl) ?_
  refine va_putF (D := D.1) (ci := 0) (v := .ref q10) (ty := tyX0 12) (C := RX0) (T := TX0) (N := 19) hx hb hts wi_X0 tyX0 tyX0_ok nmX0 hown X.1 X.2.1 X.2.2.1 X.2.2.2.1 0 rfl rfl 12 (by decide) (hts _ q2_6) (fun _ h9 => h9) rfl hin rfl (by decide +kernel) rfl rfl (by rw [List.length_map, List.length_range]; decide) dX0_init_104 (fun H locs hP hD hS => ?_)
  have X : Hx D [(y1, .int), (y2, .int), (y3, .int), (y4, .int), (y5, .int), (y6, .int), (y7, .long), (y8, .double), (y9, .int), (y10, .int)] A s H locs [(h, .inr (0, (List.range 19).map (va_up (va_up (va_up (va_up (va_up (va_up (va_up (va_up (va_up (va_up (va_up (va_up (va_up (dfl kdX0) 0 (.ref q1)) 1 (.ref q2)) 2 (.ref q3)) 3 (.ref q4)) 4 (.ref q5)) 5 (.ref q6)) 6 (.ref q7)) 7 (.ref q8)) 8 (.int (0 : Int32))) 9 (.int (0 : Int32))) 10 (.int (0 : Int32))) 11 (.ref q9)) 12 (.ref q10)))), (q1, .inl (y1, 840, .inl (fun _ => 0))), (q2, .inl (y2, 840, .inl (fun _ => 0))), (q3, .inl (y3, 840, .inl (fun _ => 0))), (q4, .inl (y4, 840, .inl (fun _ => 0))), (q5, .inl (y5, 840, .inl (fun _ => 0))), (q6, .inl (y6, 840, .inl (fun _ => 0))), (q7, .inl (y7, 840, .inr (.inl (fun _ => 0)))), (q8, .inl (y8, 840, .inr (.inr (.inr (.inl (fun _ => 0)))))), (q9, .inl (y9, 92, .inl (fun _ => 0))), (q10, .inl (y10, 92, .inl (fun _ => 0)))] := Hx_set X obj_set hP hD hS
  refine lv_aload_n hx hb dX0_init_107 rfl (lv_at hl 0 rfl) ?_
  refine lv_bipush (v := (92 : Int32)) hx hb dX0_init_108 (by decide) ?_
  refine va_newa (atype := .int) (a0 := (92, .inl (fun _ => 0))) (N' := 92) hx hb (hts (.arrayClass .int) q1_129) rfl X.1 X.2.1 X.2.2.1 X.2.2.2.1 X.2.2.2.2.1 (fun _ => rfl) (by decide) (by decide) (by decide) (Nat.le_of_ble_eq_true rfl) (Nat.le_of_ble_eq_true rfl) dX0_init_110 (fun q11 y11 H hK hP hD hS => ?_)
  have X : Hx D [(y1, .int), (y2, .int), (y3, .int), (y4, .int), (y5, .int), (y6, .int), (y7, .long), (y8, .double), (y9, .int), (y10, .int), (y11, .int)] A s H locs [(h, .inr (0, (List.range 19).map (va_up (va_up (va_up (va_up (va_up (va_up (va_up (va_up (va_up (va_up (va_up (va_up (va_up (dfl kdX0) 0 (.ref q1)) 1 (.ref q2)) 2 (.ref q3)) 3 (.ref q4)) 4 (.ref q5)) 5 (.ref q6)) 6 (.ref q7)) 7 (.ref q8)) 8 (.int (0 : Int32))) 9 (.int (0 : Int32))) 10 (.int (0 : Int32))) 11 (.ref q9)) 12 (.ref q10)))), (q1, .inl (y1, 840, .inl (fun _ => 0))), (q2, .inl (y2, 840, .inl (fun _ => 0))), (q3, .inl (y3, 840, .inl (fun _ => 0))), (q4, .inl (y4, 840, .inl (fun _ => 0))), (q5, .inl (y5, 840, .inl (fun _ => 0))), (q6, .inl (y6, 840, .inl (fun _ => 0))), (q7, .inl (y7, 840, .inr (.inl (fun _ => 0)))), (q8, .inl (y8, 840, .inr (.inr (.inr (.inl (fun _ => 0)))))), (q9, .inl (y9, 92, .inl (fun _ => 0))), (q10, .inl (y10, 92, .inl (fun _ => 0))), (q11, .inl (y11, 92, .inl (fun _ => 0)))] := ⟨hK, hP, hD, hS, X.2.2.2.2⟩
  refine W.widen (k := 11) (n := 6996) (Nat.le_of_ble_eq_true rfl) (Nat.le_of_ble_eq_true rfl) ?_
  refine va_putF (D := D.1) (ci := 0) (v := .ref q11) (ty := tyX0 13) (C := RX0) (T := TX0) (N := 19) hx hb hts wi_X0 tyX0 tyX0_ok nmX0 hown X.1 X.2.1 X.2.2.1 X.2.2.2.1 0 rfl rfl 13 (by decide) (hts _ q2_8) (fun _ h9 => h9) rfl hin rfl (by decide +kernel) rfl rfl (by rw [List.length_map, List.length_range]; decide) dX0_init_112 (fun H locs hP hD hS => ?_)
  have X : Hx D [(y1, .int), (y2, .int), (y3, .int), (y4, .int), (y5, .int), (y6, .int), (y7, .long), (y8, .double), (y9, .int), (y10, .int), (y11, .int)] A s H locs [(h, .inr (0, (List.range 19).map (va_up (va_up (va_up (va_up (va_up (va_up (va_up (va_up (va_up (va_up (va_up (va_up (va_up (va_up (dfl kdX0) 0 (.ref q1)) 1 (.ref q2)) 2 (.ref q3)) 3 (.ref q4)) 4 (.ref q5)) 5 (.ref q6)) 6 (.ref q7)) 7 (.ref q8)) 8 (.int (0 : Int32))) 9 (.int (0 : Int32))) 10 (.int (0 : Int32))) 11 (.ref q9)) 12 (.ref q10)) 13 (.ref q11)))), (q1, .inl (y1, 840, .inl (fun _ => 0))), (q2, .inl (y2, 840, .inl (fun _ => 0))), (q3, .inl (y3, 840, .inl (fun _ => 0))), (q4, .inl (y4, 840, .inl (fun _ => 0))), (q5, .inl (y5, 840, .inl (fun _ => 0))), (q6, .inl (y6, 840, .inl (fun _ => 0))), (q7, .inl (y7, 840, .inr (.inl (fun _ => 0)))), (q8, .inl (y8, 840, .inr (.inr (.inr (.inl (fun _ => 0)))))), (q9, .inl (y9, 92, .inl (fun _ => 0))), (q10, .inl (y10, 92, .inl (fun _ => 0))), (q11, .inl (y11, 92, .inl (fun _ => 0)))] := Hx_set X obj_set hP hD hS
  refine lv_aload_n hx hb dX0_init_115 rfl (lv_at hl 0 rfl) ?_
  refine lv_bipush (v := (92 : Int32)) hx hb dX0_init_116 (by decide) ?_
  refine va_newa (atype := .int) (a0 := (92, .inl (fun _ => 0))) (N' := 92) hx hb (hts (.arrayClass .int) q1_129) rfl X.1 X.2.1 X.2.2.1 X.2.2.2.1 X.2.2.2.2.1 (fun _ => rfl) (by decide) (by decide) (by decide) (Nat.le_of_ble_eq_true rfl) (Nat.le_of_ble_eq_true rfl) dX0_init_118 (fun q12 y12 H hK hP hD hS => ?_)
  have X : Hx D [(y1, .int), (y2, .int), (y3, .int), (y4, .int), (y5, .int), (y6, .int), (y7, .long), (y8, .double), (y9, .int), (y10, .int), (y11, .int), (y12, .int)] A s H locs [(h, .inr (0, (List.range 19).map (va_up (va_up (va_up (va_up (va_up (va_up (va_up (va_up (va_up (va_up (va_up (va_up (va_up (va_up (dfl kdX0) 0 (.ref q1)) 1 (.ref q2)) 2 (.ref q3)) 3 (.ref q4)) 4 (.ref q5)) 5 (.ref q6)) 6 (.ref q7)) 7 (.ref q8)) 8 (.int (0 : Int32))) 9 (.int (0 : Int32))) 10 (.int (0 : Int32))) 11 (.ref q9)) 12 (.ref q10)) 13 (.ref q11)))), (q1, .inl (y1, 840, .inl (fun _ => 0))), (q2, .inl (y2, 840, .inl (fun _ => 0))), (q3, .inl (y3, 840, .inl (fun _ => 0))), (q4, .inl (y4, 840, .inl (fun _ => 0))), (q5, .inl (y5, 840, .inl (fun _ => 0))), (q6, .inl (y6, 840, .inl (fun _ => 0))), (q7, .inl (y7, 840, .inr (.inl (fun _ => 0)))), (q8, .inl (y8, 840, .inr (.inr (.inr (.inl (fun _ => 0)))))), (q9, .inl (y9, 92, .inl (fun _ => 0))), (q10, .inl (y10, 92, .inl (fun _ => 0))), (q11, .inl (y11, 92, .inl (fun _ => 0))), (q12, .inl (y12, 92, .inl (fun _ => 0)))] := ⟨hK, hP, hD, hS, X.2.2.2.2⟩
  refine W.widen (k := 12) (n := 7088) (Nat.le_of_ble_eq_true rfl) (Nat.le_of_ble_eq_true rfl) ?_
  refine va_putF (D := D.1) (ci := 0) (v := .ref q12) (ty := tyX0 14) (C := RX0) (T := TX0) (N := 19) hx hb hts wi_X0 tyX0 tyX0_ok nmX0 hown X.1 X.2.1 X.2.2.1 X.2.2.2.1 0 rfl rfl 14 (by decide) (hts _ q2_11) (fun _ h9 => h9) rfl hin rfl (by decide +kernel) rfl rfl (by rw [List.length_map, List.length_range]; decide) dX0_init_120 (fun H locs hP hD hS => ?_)
  have X : Hx D [(y1, .int), (y2, .int), (y3, .int), (y4, .int), (y5, .int), (y6, .int), (y7, .long), (y8, .double), (y9, .int), (y10, .int), (y11, .int), (y12, .int)] A s H locs [(h, .inr (0, (List.range 19).map (va_up (va_up (va_up (va_up (va_up (va_up (va_up (va_up (va_up (va_up (va_up (va_up (va_up (va_up (va_up (dfl kdX0) 0 (.ref q1)) 1 (.ref q2)) 2 (.ref q3)) 3 (.ref q4)) 4 (.ref q5)) 5 (.ref q6)) 6 (.ref q7)) 7 (.ref q8)) 8 (.int (0 : Int32))) 9 (.int (0 : Int32))) 10 (.int (0 : Int32))) 11 (.ref q9)) 12 (.ref q10)) 13 (.ref q11)) 14 (.ref q12)))), (q1, .inl (y1, 840, .inl (fun _ => 0))), (q2, .inl (y2, 840, .inl (fun _ => 0))), (q3, .inl (y3, 840, .inl (fun _ => 0))), (q4, .inl (y4, 840, .inl (fun _ => 0))), (q5, .inl (y5, 840, .inl (fun _ => 0))), (q6, .inl (y6, 840, .inl (fun _ => 0))), (q7, .inl (y7, 840, .inr (.inl (fun _ => 0)))), (q8, .inl (y8, 840, .inr (.inr (.inr (.inl (fun _ => 0)))))), (q9, .inl (y9, 92, .inl (fun _ => 0))), (q10, .inl (y10, 92, .inl (fun _ => 0))), (q11, .inl (y11, 92, .inl (fun _ => 0))), (q12, .inl (y12, 92, .inl (fun _ => 0)))] := Hx_set X obj_set hP hD hS
  refine lv_aload_n hx hb dX0_init_123 rfl (lv_at hl 0 rfl) ?_
  refine lv_bipush (v := (92 : Int32)) hx hb dX0_init_124 (by decide) ?_
  refine va_newa (atype := .int) (a0 := (92, .inl (fun _ => 0))) (N' := 92) hx hb (hts (.arrayClass .int) q1_129) rfl X.1 X.2.1 X.2.2.1 X.2.2.2.1 X.2.2.2.2.1 (fun _ => rfl) (by decide) (by decide) (by decide) (Nat.le_of_ble_eq_true rfl) (Nat.le_of_ble_eq_true rfl) dX0_init_126 (fun q13 y13 H hK hP hD hS => ?_)
  have X : Hx D [(y1, .int), (y2, .int), (y3, .int), (y4, .int), (y5, .int), (y6, .int), (y7, .long), (y8, .double), (y9, .int), (y10, .int), (y11, .int), (y12, .int), (y13, .int)] A s H locs [(h, .inr (0, (List.range 19).map (va_up (va_up (va_up (va_up (va_up (va_up (va_up (va_up (va_up (va_up (va_up (va_up (va_up (va_up (va_up (dfl kdX0) 0 (.ref q1)) 1 (.ref q2)) 2 (.ref q3)) 3 (.ref q4)) 4 (.ref q5)) 5 (.ref q6)) 6 (.ref q7)) 7 (.ref q8)) 8 (.int (0 : Int32))) 9 (.int (0 : Int32))) 10 (.int (0 : Int32))) 11 (.ref q9)) 12 (.ref q10)) 13 (.ref q11)) 14 (.ref q12)))), (q1, .inl (y1, 840, .inl (fun _ => 0))), (q2, .inl (y2, 840, .inl (fun _ => 0))), (q3, .inl (y3, 840, .inl (fun _ => 0))), (q4, .inl (y4, 840, .inl (fun _ => 0))), (q5, .inl (y5, 840, .inl (fun _ => 0))), (q6, .inl (y6, 840, .inl (fun _ => 0))), (q7, .inl (y7, 840, .inr (.inl (fun _ => 0)))), (q8, .inl (y8, 840, .inr (.inr (.inr (.inl (fun _ => 0)))))), (q9, .inl (y9, 92, .inl (fun _ => 0))), (q10, .inl (y10, 92, .inl (fun _ => 0))), (q11, .inl (y11, 92, .inl (fun _ => 0))), (q12, .inl (y12, 92, .inl (fun _ => 0))), (q13, .inl (y13, 92, .inl (fun _ => 0)))] := ⟨hK, hP, hD, hS, X.2.2.2.2⟩
  refine W.widen (k := 13) (n := 7180) (Nat.le_of_ble_eq_true rfl) (Nat.le_of_ble_eq_true rfl) ?_
  refine va_putF (D := D.1) (ci := 0) (v := .ref q13) (ty := tyX0 15) (C := RX0) (T := TX0) (N := 19) hx hb hts wi_X0 tyX0 tyX0_ok nmX0 hown X.1 X.2.1 X.2.2.1 X.2.2.2.1 0 rfl rfl 15 (by decide) (hts _ q2_14) (fun _ h9 => h9) rfl hin rfl (by decide +kernel) rfl rfl (by rw [List.length_map, List.length_range]; decide) dX0_init_128 (fun H locs hP hD hS => ?_)
  have X : Hx D [(y1, .int), (y2, .int), (y3, .int), (y4, .int), (y5, .int), (y6, .int), (y7, .long), (y8, .double), (y9, .int), (y10, .int), (y11, .int), (y12, .int), (y13, .int)] A s H locs [(h, .inr (0, (List.range 19).map (va_up (va_up (va_up (va_up (va_up (va_up (va_up (va_up (va_up (va_up (va_up (va_up (va_up (va_up (va_up (va_up (dfl kdX0) 0 (.ref q1)) 1 (.ref q2)) 2 (.ref q3)) 3 (.ref q4)) 4 (.ref q5)) 5 (.ref q6)) 6 (.ref q7)) 7 (.ref q8)) 8 (.int (0 : Int32))) 9 (.int (0 : Int32))) 10 (.int (0 : Int32))) 11 (.ref q9)) 12 (.ref q10)) 13 (.ref q11)) 14 (.ref q12)) 15 (.ref q13)))), (q1, .inl (y1, 840, .inl (fun _ => 0))), (q2, .inl (y2, 840, .inl (fun _ => 0))), (q3, .inl (y3, 840, .inl (fun _ => 0))), (q4, .inl (y4, 840, .inl (fun _ => 0))), (q5, .inl (y5, 840, .inl (fun _ => 0))), (q6, .inl (y6, 840, .inl (fun _ => 0))), (q7, .inl (y7, 840, .inr (.inl (fun _ => 0)))), (q8, .inl (y8, 840, .inr (.inr (.inr (.inl (fun _ => 0)))))), (q9, .inl (y9, 92, .inl (fun _ => 0))), (q10, .inl (y10, 92, .inl (fun _ => 0))), (q11, .inl (y11, 92, .inl (fun _ => 0))), (q12, .inl (y12, 92, .inl (fun _ => 0))), (q13, .inl (y13, 92, .inl (fun _ => 0)))] := Hx_set X obj_set hP hD hS
  refine lv_aload_n hx hb dX0_init_131 rfl (lv_at hl 0 rfl) ?_
  refine lv_bipush (v := (92 : Int32)) hx hb dX0_init_132 (by decide) ?_
  refine va_newa (atype := .int) (a0 := (92, .inl (fun _ => 0))) (N' := 92) hx hb (hts (.arrayClass .int) q1_129) rfl X.1 X.2.1 X.2.2.1 X.2.2.2.1 X.2.2.2.2.1 (fun _ => rfl) (by decide) (by decide) (by decide) (Nat.le_of_ble_eq_true rfl) (Nat.le_of_ble_eq_true rfl) dX0_init_134 (fun q14 y14 H hK hP hD hS => ?_)
  have X : Hx D [(y1, .int), (y2, .int), (y3, .int), (y4, .int), (y5, .int), (y6, .int), (y7, .long), (y8, .double), (y9, .int), (y10, .int), (y11, .int), (y12, .int), (y13, .int), (y14, .int)] A s H locs [(h, .inr (0, (List.range 19).map (va_up (va_up (va_up (va_up (va_up (va_up (va_up (va_up (va_up (va_up (va_up (va_up (va_up (va_up (va_up (va_up (dfl kdX0) 0 (.ref q1)) 1 (.ref q2)) 2 (.ref q3)) 3 (.ref q4)) 4 (.ref q5)) 5 (.ref q6)) 6 (.ref q7)) 7 (.ref q8)) 8 (.int (0 : Int32))) 9 (.int (0 : Int32))) 10 (.int (0 : Int32))) 11 (.ref q9)) 12 (.ref q10)) 13 (.ref q11)) 14 (.ref q12)) 15 (.ref q13)))), (q1, .inl (y1, 840, .inl (fun _ => 0))), (q2, .inl (y2, 840, .inl (fun _ => 0))), (q3, .inl (y3, 840, .inl (fun _ => 0))), (q4, .inl (y4, 840, .inl (fun _ => 0))), (q5, .inl (y5, 840, .inl (fun _ => 0))), (q6, .inl (y6, 840, .inl (fun _ => 0))), (q7, .inl (y7, 840, .inr (.inl (fun _ => 0)))), (q8, .inl (y8, 840, .inr (.inr (.inr (.inl (fun _ => 0)))))), (q9, .inl (y9, 92, .inl (fun _ => 0))), (q10, .inl (y10, 92, .inl (fun _ => 0))), (q11, .inl (y11, 92, .inl (fun _ => 0))), (q12, .inl (y12, 92, .inl (fun _ => 0))), (q13, .inl (y13, 92, .inl (fun _ => 0))), (q14, .inl (y14, 92, .inl (fun _ => 0)))] := ⟨hK, hP, hD, hS, X.2.2.2.2⟩
  refine W.widen (k := 14) (n := 7272) (Nat.le_of_ble_eq_true rfl) (Nat.le_of_ble_eq_true rfl) ?_
  refine va_putF (D := D.1) (ci := 0) (v := .ref q14) (ty := tyX0 16) (C := RX0) (T := TX0) (N := 19) hx hb hts wi_X0 tyX0 tyX0_ok nmX0 hown X.1 X.2.1 X.2.2.1 X.2.2.2.1 0 rfl rfl 16 (by decide) (hts _ q2_17) (fun _ h9 => h9) rfl hin rfl (by decide +kernel) rfl rfl (by rw [List.length_map, List.length_range]; decide) dX0_init_136 (fun H locs hP hD hS => ?_)
  have X : Hx D [(y1, .int), (y2, .int), (y3, .int), (y4, .int), (y5, .int), (y6, .int), (y7, .long), (y8, .double), (y9, .int), (y10, .int), (y11, .int), (y12, .int), (y13, .int), (y14, .int)] A s H locs [(h, .inr (0, (List.range 19).map (va_up (va_up (va_up (va_up (va_up (va_up (va_up (va_up (va_up (va_up (va_up (va_up (va_up (va_up (va_up (va_up (va_up (dfl kdX0) 0 (.ref q1)) 1 (.ref q2)) 2 (.ref q3)) 3 (.ref q4)) 4 (.ref q5)) 5 (.ref q6)) 6 (.ref q7)) 7 (.ref q8)) 8 (.int (0 : Int32))) 9 (.int (0 : Int32))) 10 (.int (0 : Int32))) 11 (.ref q9)) 12 (.ref q10)) 13 (.ref q11)) 14 (.ref q12)) 15 (.ref q13)) 16 (.ref q14)))), (q1, .inl (y1, 840, .inl (fun _ => 0))), (q2, .inl (y2, 840, .inl (fun _ => 0))), (q3, .inl (y3, 840, .inl (fun _ => 0))), (q4, .inl (y4, 840, .inl (fun _ => 0))), (q5, .inl (y5, 840, .inl (fun _ => 0))), (q6, .inl (y6, 840, .inl (fun _ => 0))), (q7, .inl (y7, 840, .inr (.inl (fun _ => 0)))), (q8, .inl (y8, 840, .inr (.inr (.inr (.inl (fun _ => 0)))))), (q9, .inl (y9, 92, .inl (fun _ => 0))), (q10, .inl (y10, 92, .inl (fun _ => 0))), (q11, .inl (y11, 92, .inl (fun _ => 0))), (q12, .inl (y12, 92, .inl (fun _ => 0))), (q13, .inl (y13, 92, .inl (fun _ => 0))), (q14, .inl (y14, 92, .inl (fun _ => 0)))] := Hx_set X obj_set hP hD hS
  refine lv_aload_n hx hb dX0_init_139 rfl (lv_at hl 0 rfl) ?_
  refine lv_bipush (v := (92 : Int32)) hx hb dX0_init_140 (by decide) ?_
  refine va_newa (atype := .int) (a0 := (92, .inl (fun _ => 0))) (N' := 92) hx hb (hts (.arrayClass .int) q1_129) rfl X.1 X.2.1 X.2.2.1 X.2.2.2.1 X.2.2.2.2.1 (fun _ => rfl) (by decide) (by decide) (by decide) (Nat.le_of_ble_eq_true rfl) (Nat.le_of_ble_eq_true rfl) dX0_init_142 (fun q15 y15 H hK hP hD hS => ?_)
  have X : Hx D [(y1, .int), (y2, .int), (y3, .int), (y4, .int), (y5, .int), (y6, .int), (y7, .long), (y8, .double), (y9, .int), (y10, .int), (y11, .int), (y12, .int), (y13, .int), (y14, .int), (y15, .int)] A s H locs [(h, .inr (0, (List.range 19).map (va_up (va_up (va_up (va_up (va_up (va_up (va_up (va_up (va_up (va_up (va_up (va_up (va_up (va_up (va_up (va_up (va_up (dfl kdX0) 0 (.ref q1)) 1 (.ref q2)) 2 (.ref q3)) 3 (.ref q4)) 4 (.ref q5)) 5 (.ref q6)) 6 (.ref q7)) 7 (.ref q8)) 8 (.int (0 : Int32))) 9 (.int (0 : Int32))) 10 (.int (0 : Int32))) 11 (.ref q9)) 12 (.ref q10)) 13 (.ref q11)) 14 (.ref q12)) 15 (.ref q13)) 16 (.ref q14)))), (q1, .inl (y1, 840, .inl (fun _ => 0))), (q2, .inl (y2, 840, .inl (fun _ => 0))), (q3, .inl (y3, 840, .inl (fun _ => 0))), (q4, .inl (y4, 840, .inl (fun _ => 0))), (q5, .inl (y5, 840, .inl (fun _ => 0))), (q6, .inl (y6, 840, .inl (fun _ => 0))), (q7, .inl (y7, 840, .inr (.inl (fun _ => 0)))), (q8, .inl (y8, 840, .inr (.inr (.inr (.inl (fun _ => 0)))))), (q9, .inl (y9, 92, .inl (fun _ => 0))), (q10, .inl (y10, 92, .inl (fun _ => 0))), (q11, .inl (y11, 92, .inl (fun _ => 0))), (q12, .inl (y12, 92, .inl (fun _ => 0))), (q13, .inl (y13, 92, .inl (fun _ => 0))), (q14, .inl (y14, 92, .inl (fun _ => 0))), (q15, .inl (y15, 92, .inl (fun _ => 0)))] := ⟨hK, hP, hD, hS, X.2.2.2.2⟩
  refine W.widen (k := 15) (n := 7364) (Nat.le_of_ble_eq_true rfl) (Nat.le_of_ble_eq_true rfl) ?_
  refine va_putF (D := D.1) (ci := 0) (v := .ref q15) (ty := tyX0 17) (C := RX0) (T := TX0) (N := 19) hx hb hts wi_X0 tyX0 tyX0_ok nmX0 hown X.1 X.2.1 X.2.2.1 X.2.2.2.1 0 rfl rfl 17 (by decide) (hts _ q2_20) (fun _ h9 => h9) rfl hin rfl (by decide +kernel) rfl rfl (by rw [List.length_map, List.length_range]; decide) dX0_init_144 (fun H locs hP hD hS => ?_)
  have X : Hx D [(y1, .int), (y2, .int), (y3, .int), (y4, .int), (y5, .int), (y6, .int), (y7, .long), (y8, .double), (y9, .int), (y10, .int), (y11, .int), (y12, .int), (y13, .int), (y14, .int), (y15, .int)] A s H locs [(h, .inr (0, (List.range 19).map (va_up (va_up (va_up (va_up (va_up (va_up (va_up (va_up (va_up (va_up (va_up (va_up (va_up (va_up (va_up (va_up (va_up (va_up (dfl kdX0) 0 (.ref q1)) 1 (.ref q2)) 2 (.ref q3)) 3 (.ref q4)) 4 (.ref q5)) 5 (.ref q6)) 6 (.ref q7)) 7 (.ref q8)) 8 (.int (0 : Int32))) 9 (.int (0 : Int32))) 10 (.int (0 : Int32))) 11 (.ref q9)) 12 (.ref q10)) 13 (.ref q11)) 14 (.ref q12)) 15 (.ref q13)) 16 (.ref q14)) 17 (.ref q15)))), (q1, .inl (y1, 840, .inl (fun _ => 0))), (q2, .inl (y2, 840, .inl (fun _ => 0))), (q3, .inl (y3, 840, .inl (fun _ => 0))), (q4, .inl (y4, 840, .inl (fun _ => 0))), (q5, .inl (y5, 840, .inl (fun _ => 0))), (q6, .inl (y6, 840, .inl (fun _ => 0))), (q7, .inl (y7, 840, .inr (.inl (fun _ => 0)))), (q8, .inl (y8, 840, .inr (.inr (.inr (.inl (fun _ => 0)))))), (q9, .inl (y9, 92, .inl (fun _ => 0))), (q10, .inl (y10, 92, .inl (fun _ => 0))), (q11, .inl (y11, 92, .inl (fun _ => 0))), (q12, .inl (y12, 92, .inl (fun _ => 0))), (q13, .inl (y13, 92, .inl (fun _ => 0))), (q14, .inl (y14, 92, .inl (fun _ => 0))), (q15, .inl (y15, 92, .inl (fun _ => 0)))] := Hx_set X obj_set hP hD hS
  refine lv_aload_n hx hb dX0_init_147 rfl (lv_at hl 0 rfl) ?_
  refine lv_iconst (v := (0 : Int32)) hx hb dX0_init_148 (by decide) ?_
  refine va_put (D := D.1) (ci := 0) (v := .int (0 : Int32)) (ty := tyX0 18) (C := RX0) (T := TX0) (N := 19) hx hb hts wi_X0 tyX0 tyX0_ok nmX0 hown X.1 X.2.1 X.2.2.1 X.2.2.2.1 0 rfl rfl 18 (by decide) (hts _ q2_24) (fun _ h9 => h9) rfl (by decide +kernel) rfl rfl (by rw [List.length_map, List.length_range]; decide) dX0_init_149 (fun H locs hP hD hS => ?_)
  have X : Hx D [(y1, .int), (y2, .int), (y3, .int), (y4, .int), (y5, .int), (y6, .int), (y7, .long), (y8, .double), (y9, .int), (y10, .int), (y11, .int), (y12, .int), (y13, .int), (y14, .int), (y15, .int)] A s H locs [(h, .inr (0, (List.range 19).map (va_up (va_up (va_up (va_up (va_up (va_up (va_up (va_up (va_up (va_up (va_up (va_up (va_up (va_up (va_up (va_up (va_up (va_up (va_up (dfl kdX0) 0 (.ref q1)) 1 (.ref q2)) 2 (.ref q3)) 3 (.ref q4)) 4 (.ref q5)) 5 (.ref q6)) 6 (.ref q7)) 7 (.ref q8)) 8 (.int (0 : Int32))) 9 (.int (0 : Int32))) 10 (.int (0 : Int32))) 11 (.ref q9)) 12 (.ref q10)) 13 (.ref q11)) 14 (.ref q12)) 15 (.ref q13)) 16 (.ref q14)) 17 (.ref q15)) 18 (.int (0 : Int32))))), (q1, .inl (y1, 840, .inl (fun _ => 0))), (q2, .inl (y2, 840, .inl (fun _ => 0))), (q3, .inl (y3, 840, .inl (fun _ => 0))), (q4, .inl (y4, 840, .inl (fun _ => 0))), (q5, .inl (y5, 840, .inl (fun _ => 0))), (q6, .inl (y6, 840, .inl (fun _ => 0))), (q7, .inl (y7, 840, .inr (.inl (fun _ => 0)))), (q8, .inl (y8, 840, .inr (.inr (.inr (.inl (fun _ => 0)))))), (q9, .inl (y9, 92, .inl (fun _ => 0))), (q10, .inl (y10, 92, .inl (fun _ => 0))), (q11, .inl (y11, 92, .inl (fun _ => 0))), (q12, .inl (y12, 92, .inl (fun _ => 0))), (q13, .inl (y13, 92, .inl (fun _ => 0))), (q14, .inl (y14, 92, .inl (fun _ => 0))), (q15, .inl (y15, 92, .inl (fun _ => 0)))] := Hx_set X obj_set hP hD hS
  have e1 : (List.range 19).map (va_up (va_up (va_up (va_up (va_up (va_up (va_up (va_up (va_up (va_up (va_up (va_up (va_up (va_up (va_up (va_up (va_up (va_up (va_up (dfl kdX0) 0 (.ref q1)) 1 (.ref q2)) 2 (.ref q3)) 3 (.ref q4)) 4 (.ref q5)) 5 (.ref q6)) 6 (.ref q7)) 7 (.ref q8)) 8 (.int (0 : Int32))) 9 (.int (0 : Int32))) 10 (.int (0 : Int32))) 11 (.ref q9)) 12 (.ref q10)) 13 (.ref q11)) 14 (.ref q12)) 15 (.ref q13)) 16 (.ref q14)) 17 (.ref q15)) 18 (.int (0 : Int32))) = (List.range 19).map (fld kdX0 (fun k => ([q1, q2, q3, q4, q5, q6, q7, q8, 0, 0, 0, q9, q10, q11, q12, q13, q14, q15, 0] : List Nat).getD k 0) g0X0) := by rfl
  have e2 : ([(q1, .inl (y1, 840, .inl (fun _ => 0))), (q2, .inl (y2, 840, .inl (fun _ => 0))), (q3, .inl (y3, 840, .inl (fun _ => 0))), (q4, .inl (y4, 840, .inl (fun _ => 0))), (q5, .inl (y5, 840, .inl (fun _ => 0))), (q6, .inl (y6, 840, .inl (fun _ => 0))), (q7, .inl (y7, 840, .inr (.inl (fun _ => 0)))), (q8, .inl (y8, 840, .inr (.inr (.inr (.inl (fun _ => 0)))))), (q9, .inl (y9, 92, .inl (fun _ => 0))), (q10, .inl (y10, 92, .inl (fun _ => 0))), (q11, .inl (y11, 92, .inl (fun _ => 0))), (q12, .inl (y12, 92, .inl (fun _ => 0))), (q13, .inl (y13, 92, .inl (fun _ => 0))), (q14, .inl (y14, 92, .inl (fun _ => 0))), (q15, .inl (y15, 92, .inl (fun _ => 0)))] : va_W) = ksX0.map (arF akX0 lnX0 (fun k => ([q1, q2, q3, q4, q5, q6, q7, q8, 0, 0, 0, q9, q10, q11, q12, q13, q14, q15, 0] : List Nat).getD k 0) (fun k => ([y1, y2, y3, y4, y5, y6, y7, y8, y1, y1, y1, y9, y10, y11, y12, y13, y14, y15, y1] : List ClassId).getD k y1) g0X0) := by rfl
  have X := X
  have hP9 : va_P D.1 vwCl (wX0 h (fun k => ([q1, q2, q3, q4, q5, q6, q7, q8, 0, 0, 0, q9, q10, q11, q12, q13, q14, q15, 0] : List Nat).getD k 0) (fun k => ([y1, y2, y3, y4, y5, y6, y7, y8, y1, y1, y1, y9, y10, y11, y12, y13, y14, y15, y1] : List ClassId).getD k y1) g0X0) H := obj_P e1 e2 X.2.1
  have hD9 : va_D A (wX0 h (fun k => ([q1, q2, q3, q4, q5, q6, q7, q8, 0, 0, 0, q9, q10, q11, q12, q13, q14, q15, 0] : List Nat).getD k 0) (fun k => ([y1, y2, y3, y4, y5, y6, y7, y8, y1, y1, y1, y9, y10, y11, y12, y13, y14, y15, y1] : List ClassId).getD k y1) g0X0) := obj_D e1 e2 X.2.2.1
  have hK9 : va_K D.1 vwCl (tX0 (fun k => ([y1, y2, y3, y4, y5, y6, y7, y8, y1, y1, y1, y9, y10, y11, y12, y13, y14, y15, y1] : List ClassId).getD k y1)) s := X.1
  exact W.vret hx hb hr (fun t ht hW => ⟨⟨((fun k => ([q1, q2, q3, q4, q5, q6, q7, q8, 0, 0, 0, q9, q10, q11, q12, q13, q14, q15, 0] : List Nat).getD k 0), (fun k => ([y1, y2, y3, y4, y5, y6, y7, y8, y1, y1, y1, y9, y10, y11, y12, y13, y14, y15, y1] : List ClassId).getD k y1)), rfl, trivial, by rw [ht]; exact hP9, va_K.moved hW.alike hK9, hD9⟩, X.2.2.2.1.F ht⟩) X.2.2.2.1.2.2 dX0_init_152 hlk

/-! ### X9_init -/
theorem dX9_init_0 : decode cX9_init 0 = .ok (.aload_n 0, 1) := by decide +kernel
theorem dX9_init_1 : decode cX9_init 1 = .ok (.invokespecial 3, 3) := by decide +kernel
theorem dX9_init_4 : decode cX9_init 4 = .ok (.aload_n 0, 1) := by decide +kernel
theorem dX9_init_5 : decode cX9_init 5 = .ok (.bipush 40, 2) := by decide +kernel
theorem dX9_init_7 : decode cX9_init 7 = .ok (.newarray .long, 2) := by decide +kernel
theorem dX9_init_9 : decode cX9_init 9 = .ok (.putfield 9, 3) := by decide +kernel
theorem dX9_init_12 : decode cX9_init 12 = .ok (.aload_n 0, 1) := by decide +kernel
theorem dX9_init_13 : decode cX9_init 13 = .ok (.bipush 40, 2) := by decide +kernel
theorem dX9_init_15 : decode cX9_init 15 = .ok (.newarray .double, 2) := by decide +kernel
theorem dX9_init_17 : decode cX9_init 17 = .ok (.putfield 15, 3) := by decide +kernel
theorem dX9_init_20 : decode cX9_init 20 = .ok (.aload_n 0, 1) := by decide +kernel
theorem dX9_init_21 : decode cX9_init 21 = .ok (.bipush 40, 2) := by decide +kernel
theorem dX9_init_23 : decode cX9_init 23 = .ok (.newarray .long, 2) := by decide +kernel
theorem dX9_init_25 : decode cX9_init 25 = .ok (.putfield 19, 3) := by decide +kernel
theorem dX9_init_28 : decode cX9_init 28 = .ok (.aload_n 0, 1) := by decide +kernel
theorem dX9_init_29 : decode cX9_init 29 = .ok (.bipush 40, 2) := by decide +kernel
theorem dX9_init_31 : decode cX9_init 31 = .ok (.newarray .double, 2) := by decide +kernel
theorem dX9_init_33 : decode cX9_init 33 = .ok (.putfield 22, 3) := by decide +kernel
theorem dX9_init_36 : decode cX9_init 36 = .ok (.aload_n 0, 1) := by decide +kernel
theorem dX9_init_37 : decode cX9_init 37 = .ok (.sipush 1280, 3) := by decide +kernel
theorem dX9_init_40 : decode cX9_init 40 = .ok (.newarray .long, 2) := by decide +kernel
theorem dX9_init_42 : decode cX9_init 42 = .ok (.putfield 25, 3) := by decide +kernel
theorem dX9_init_45 : decode cX9_init 45 = .ok (.aload_n 0, 1) := by decide +kernel
theorem dX9_init_46 : decode cX9_init 46 = .ok (.sipush 1280, 3) := by decide +kernel
theorem dX9_init_49 : decode cX9_init 49 = .ok (.newarray .double, 2) := by decide +kernel
theorem dX9_init_51 : decode cX9_init 51 = .ok (.putfield 28, 3) := by decide +kernel
theorem dX9_init_54 : decode cX9_init 54 = .ok (.aload_n 0, 1) := by decide +kernel
theorem dX9_init_55 : decode cX9_init 55 = .ok (.bipush 52, 2) := by decide +kernel
theorem dX9_init_57 : decode cX9_init 57 = .ok (.newarray .int, 2) := by decide +kernel
theorem dX9_init_59 : decode cX9_init 59 = .ok (.putfield 31, 3) := by decide +kernel
theorem dX9_init_62 : decode cX9_init 62 = .ok (.aload_n 0, 1) := by decide +kernel
theorem dX9_init_63 : decode cX9_init 63 = .ok (.bipush 52, 2) := by decide +kernel
theorem dX9_init_65 : decode cX9_init 65 = .ok (.newarray .int, 2) := by decide +kernel
theorem dX9_init_67 : decode cX9_init 67 = .ok (.putfield 35, 3) := by decide +kernel
theorem dX9_init_70 : decode cX9_init 70 = .ok (.aload_n 0, 1) := by decide +kernel
theorem dX9_init_71 : decode cX9_init 71 = .ok (.bipush 52, 2) := by decide +kernel
theorem dX9_init_73 : decode cX9_init 73 = .ok (.newarray .int, 2) := by decide +kernel
theorem dX9_init_75 : decode cX9_init 75 = .ok (.putfield 38, 3) := by decide +kernel
theorem dX9_init_78 : decode cX9_init 78 = .ok (.aload_n 0, 1) := by decide +kernel
theorem dX9_init_79 : decode cX9_init 79 = .ok (.bipush 12, 2) := by decide +kernel
theorem dX9_init_81 : decode cX9_init 81 = .ok (.newarray .int, 2) := by decide +kernel
theorem dX9_init_83 : decode cX9_init 83 = .ok (.putfield 41, 3) := by decide +kernel
theorem dX9_init_86 : decode cX9_init 86 = .ok (.aload_n 0, 1) := by decide +kernel
theorem dX9_init_87 : decode cX9_init 87 = .ok (.bipush 64, 2) := by decide +kernel
theorem dX9_init_89 : decode cX9_init 89 = .ok (.newarray .long, 2) := by decide +kernel
theorem dX9_init_91 : decode cX9_init 91 = .ok (.putfield 44, 3) := by decide +kernel
theorem dX9_init_94 : decode cX9_init 94 = .ok (.aload_n 0, 1) := by decide +kernel
theorem dX9_init_95 : decode cX9_init 95 = .ok (.bipush 64, 2) := by decide +kernel
theorem dX9_init_97 : decode cX9_init 97 = .ok (.newarray .int, 2) := by decide +kernel
theorem dX9_init_99 : decode cX9_init 99 = .ok (.putfield 47, 3) := by decide +kernel
theorem dX9_init_102 : decode cX9_init 102 = .ok (.aload_n 0, 1) := by decide +kernel
theorem dX9_init_103 : decode cX9_init 103 = .ok (.iconst 0, 1) := by decide +kernel
theorem dX9_init_104 : decode cX9_init 104 = .ok (.putfield 50, 3) := by decide +kernel
theorem dX9_init_107 : decode cX9_init 107 = .ok (.aload_n 0, 1) := by decide +kernel
theorem dX9_init_108 : decode cX9_init 108 = .ok (.iconst 0, 1) := by decide +kernel
theorem dX9_init_109 : decode cX9_init 109 = .ok (.putfield 54, 3) := by decide +kernel
theorem dX9_init_112 : decode cX9_init 112 = .ok (.aload_n 0, 1) := by decide +kernel
theorem dX9_init_113 : decode cX9_init 113 = .ok (.lconst 0, 1) := by decide +kernel
theorem dX9_init_114 : decode cX9_init 114 = .ok (.putfield 57, 3) := by decide +kernel
theorem dX9_init_117 : decode cX9_init 117 = .ok (.aload_n 0, 1) := by decide +kernel
theorem dX9_init_118 : decode cX9_init 118 = .ok (.dconst 0, 1) := by decide +kernel
theorem dX9_init_119 : decode cX9_init 119 = .ok (.putfield 61, 3) := by decide +kernel
theorem dX9_init_122 : decode cX9_init 122 = .ok (.aload_n 0, 1) := by decide +kernel
theorem dX9_init_123 : decode cX9_init 123 = .ok (.iconst 0, 1) := by decide +kernel
theorem dX9_init_124 : decode cX9_init 124 = .ok (.putfield 65, 3) := by decide +kernel
theorem dX9_init_127 : decode cX9_init 127 = .ok (.return_, 1) := by decide +kernel
def g0X9 : Gs := g00
theorem dfX9 : ∀ j, j < 17 → defaultValue (tyX9 j) = vp_V ((List.range 17).map (dfl kdX9)) j := by decide +kernel
set_option maxHeartbeats 4000000 in
set_option maxRecDepth 100000 in
theorem n_X9_init (l : Launch) (D : Dx) (h : Nat) (sz : Nat) : Met l yX9_init (ws_ yX9_init cX9_init 1 none) { frames := 1, cells := 12, slots := 3016, locals := 40 } (PC D [] [.ref h] [(h, .inr (9, (List.range 17).map (dfl kdX9)))] sz) (QN D (fun u : AY => True) (va_A [(h, .inr (9, (List.range 17).map (dfl kdX9)))] sz) (fun u => wX9 h u.1 u.2 g0X9) (fun u => tX9 u.2)) 12 3016 (va_A [(h, .inr (9, (List.range 17).map (dfl kdX9)))] sz) := by
  refine Met.ofW (cc := cX9_init) (maxL := 1) (ret := none) (by decide) rfl ?_
  intro p e s m args below meth c s₁ B hml hv
  obtain ⟨rfl, hsz, hP, hK, hD, hN⟩ := hv
  subst hsz
  have C : Cx p s m _ meth c cX9_init none 1 RX9 lw_all := Cx_of B hml
  have X := Hx_start hP hK hD hN
  have hin : meth.name = "<init>" := (name_of_methodNamed B.named B.method).1
  obtain ⟨hx, hb, hr, -, hown, hts, hlk⟩ := id C
  generalize va_A [(h, .inr (9, (List.range 17).map (dfl kdX9)))] s.heap.size = A at X ⊢
  have hl := lv_entry ([.ref h]) (n := 1) (Nat.le_of_ble_eq_true rfl)
  rw [lg_entry_eq]
  generalize (lg_sl ([.ref h]) ++ List.replicate (1 - (lg_sl ([.ref h])).length) Slot.unset).toArray = ls at hl ⊢
  have hl : lv_has ls 1 [(0, .ref h)] := hl
  refine lv_aload_n hx hb dX9_init_0 rfl (lv_at hl 0 rfl) ?_
  refine W.objInit hx hb hown (hts _ q1_52) (hts _ q1_31) (hts _ q1_32) rfl (by rw [hml]; exact hl.1) rfl dX9_init_1 (Nat.le_of_ble_eq_true rfl) (Nat.le_of_ble_eq_true rfl) ?_
  refine W.eq (g2 := F0 m 4 ls []) rfl ?_
  refine lv_aload_n hx hb dX9_init_4 rfl (lv_at hl 0 rfl) ?_
  refine lv_bipush (v := (40 : Int32)) hx hb dX9_init_5 (by decide) ?_
  refine va_newa (atype := .long) (a0 := (40, .inr (.inl (fun _ => 0)))) (N' := 40) hx hb (hts (.arrayClass .long) q1_128) rfl X.1 X.2.1 X.2.2.1 X.2.2.2.1 X.2.2.2.2.1 (fun _ => rfl) (by decide) (by decide) (by decide) (Nat.le_of_ble_eq_true rfl) (Nat.le_of_ble_eq_true rfl) dX9_init_7 (fun q1 y1 H hK hP hD hS => ?_)
  have X : Hx D [(y1, .long)] A s H [] [(h, .inr (9, (List.range 17).map (dfl kdX9))), (q1, .inl (y1, 40, .inr (.inl (fun _ => 0))))] := ⟨hK, hP, hD, hS, X.2.2.2.2⟩
  refine W.widen (k := 1) (n := 40) (Nat.le_of_ble_eq_true rfl) (Nat.le_of_ble_eq_true rfl) ?_
  refine va_putF (D := D.1) (ci := 9) (v := .ref q1) (ty := tyX9 0) (C := RX9) (T := TX9) (N := 17) hx hb hts wi_X9 tyX9 tyX9_ok nmX9 hown X.1 X.2.1 X.2.2.1 X.2.2.2.1 0 rfl rfl 0 (by decide) (hts _ q1_53) (fun _ h9 => h9) rfl hin rfl (by decide +kernel) rfl rfl (by rw [List.length_map, List.length_range]; decide) dX9_init_9 (fun H locs hP hD hS => ?_)
  have X : Hx D [(y1, .long)] A s H locs [(h, .inr (9, (List.range 17).map (va_up (dfl kdX9) 0 (.ref q1)))), (q1, .inl (y1, 40, .inr (.inl (fun _ => 0))))] := Hx_set X obj_set hP hD hS
  refine lv_aload_n hx hb dX9_init_12 rfl (lv_at hl 0 rfl) ?_
  refine lv_bipush (v := (40 : Int32)) hx hb dX9_init_13 (by decide) ?_
  refine va_newa (atype := .double) (a0 := (40, .inr (.inr (.inr (.inl (fun _ => 0)))))) (N' := 40) hx hb (hts (.arrayClass .double) q1_46) rfl X.1 X.2.1 X.2.2.1 X.2.2.2.1 X.2.2.2.2.1 (fun _ => rfl) (by decide) (by decide) (by decide) (Nat.le_of_ble_eq_true rfl) (Nat.le_of_ble_eq_true rfl) dX9_init_15 (fun q2 y2 H hK hP hD hS => ?_)
  have X : Hx D [(y1, .long), (y2, .double)] A s H locs [(h, .inr (9, (List.range 17).map (va_up (dfl kdX9) 0 (.ref q1)))), (q1, .inl (y1, 40, .inr (.inl (fun _ => 0)))), (q2, .inl (y2, 40, .inr (.inr (.inr (.inl (fun _ => 0))))))] := ⟨hK, hP, hD, hS, X.2.2.2.2⟩
  refine W.widen (k := 2) (n := 80) (Nat.le_of_ble_eq_true rfl) (Nat.le_of_ble_eq_true rfl) ?_
  refine va_putF (D := D.1) (ci := 9) (v := .ref q2) (ty := tyX9 1) (C := RX9) (T := TX9) (N := 17) hx hb hts wi_X9 tyX9 tyX9_ok nmX9 hown X.1 X.2.1 X.2.2.1 X.2.2.2.1 0 rfl rfl 1 (by decide) (hts _ q1_56) (fun _ h9 => h9) rfl hin rfl (by decide +kernel) rfl rfl (by rw [List.length_map, List.length_range]; decide) dX9_init_17 (fun H locs hP hD hS => ?_)
  have X : Hx D [(y1, .long), (y2, .double)] A s H locs [(h, .inr (9, (List.range 17).map (va_up (va_up (dfl kdX9) 0 (.ref q1)) 1 (.ref q2)))), (q1, .inl (y1, 40, .inr (.inl (fun _ => 0)))), (q2, .inl (y2, 40, .inr (.inr (.inr (.inl (fun _ => 0))))))] := Hx_set X obj_set hP hD hS
  refine lv_aload_n hx hb dX9_init_20 rfl (lv_at hl 0 rfl) ?_
  refine lv_bipush (v := (40 : Int32)) hx hb dX9_init_21 (by decide) ?_
  refine va_newa (atype := .long) (a0 := (40, .inr (.inl (fun _ => 0)))) (N' := 40) hx hb (hts (.arrayClass .long) q1_128) rfl X.1 X.2.1 X.2.2.1 X.2.2.2.1 X.2.2.2.2.1 (fun _ => rfl) (by decide) (by decide) (by decide) (Nat.le_of_ble_eq_true rfl) (Nat.le_of_ble_eq_true rfl) dX9_init_23 (fun q3 y3 H hK hP hD hS => ?_)
  have X : Hx D [(y1, .long), (y2, .double), (y3, .long)] A s H locs [(h, .inr (9, (List.range 17).map (va_up (va_up (dfl kdX9) 0 (.ref q1)) 1 (.ref q2)))), (q1, .inl (y1, 40, .inr (.inl (fun _ => 0)))), (q2, .inl (y2, 40, .inr (.inr (.inr (.inl (fun _ => 0)))))), (q3, .inl (y3, 40, .inr (.inl (fun _ => 0))))] := ⟨hK, hP, hD, hS, X.2.2.2.2⟩
  refine W.widen (k := 3) (n := 120) (Nat.le_of_ble_eq_true rfl) (Nat.le_of_ble_eq_true rfl) ?_
  refine va_putF (D := D.1) (ci := 9) (v := .ref q3) (ty := tyX9 2) (C := RX9) (T := TX9) (N := 17) hx hb hts wi_X9 tyX9 tyX9_ok nmX9 hown X.1 X.2.1 X.2.2.1 X.2.2.2.1 0 rfl rfl 2 (by decide) (hts _ q1_59) (fun _ h9 => h9) rfl hin rfl (by decide +kernel) rfl rfl (by rw [List.length_map, List.length_range]; decide) dX9_init_25 (fun H locs hP hD hS => ?_)
  have X : Hx D [(y1, .long), (y2, .double), (y3, .long)] A s H locs [(h, .inr (9, (List.range 17).map (va_up (va_up (va_up (dfl kdX9) 0 (.ref q1)) 1 (.ref q2)) 2 (.ref q3)))), (q1, .inl (y1, 40, .inr (.inl (fun _ => 0)))), (q2, .inl (y2, 40, .inr (.inr (.inr (.inl (fun _ => 0)))))), (q3, .inl (y3, 40, .inr (.inl (fun _ => 0))))] := Hx_set X obj_set hP hD hS
  refine lv_aload_n hx hb dX9_init_28 rfl (lv_at hl 0 rfl) ?_
  refine lv_bipush (v := (40 : Int32)) hx hb dX9_init_29 (by decide) ?_
  refine va_newa (atype := .double) (a0 := (40, .inr (.inr (.inr (.inl (fun _ => 0)))))) (N' := 40) hx hb (hts (.arrayClass .double) q1_46) rfl X.1 X.2.1 X.2.2.1 X.2.2.2.1 X.2.2.2.2.1 (fun _ => rfl) (by decide) (by decide) (by decide) (Nat.le_of_ble_eq_true rfl) (Nat.le_of_ble_eq_true rfl) dX9_init_31 (fun q4 y4 H hK hP hD hS => ?_)
  have X : Hx D [(y1, .long), (y2, .double), (y3, .long), (y4, .double)] A s H locs [(h, .inr (9, (List.range 17).map (va_up (va_up (va_up (dfl kdX9) 0 (.ref q1)) 1 (.ref q2)) 2 (.ref q3)))), (q1, .inl (y1, 40, .inr (.inl (fun _ => 0)))), (q2, .inl (y2, 40, .inr (.inr (.inr (.inl (fun _ => 0)))))), (q3, .inl (y3, 40, .inr (.inl (fun _ => 0)))), (q4, .inl (y4, 40, .inr (.inr (.inr (.inl (fun _ => 0))))))] := ⟨hK, hP, hD, hS, X.2.2.2.2⟩
  refine W.widen (k := 4) (n := 160) (Nat.le_of_ble_eq_true rfl) (Nat.le_of_ble_eq_true rfl) ?_
  refine va_putF (D := D.1) (ci := 9) (v := .ref q4) (ty := tyX9 3) (C := RX9) (T := TX9) (N := 17) hx hb hts wi_X9 tyX9 tyX9_ok nmX9 hown X.1 X.2.1 X.2.2.1 X.2.2.2.1 0 rfl rfl 3 (by decide) (hts _ q1_62) (fun _ h9 => h9) rfl hin rfl (by decide +kernel) rfl rfl (by rw [List.length_map, List.length_range]; decide) dX9_init_33 (fun H locs hP hD hS => ?_)
  have X : Hx D [(y1, .long), (y2, .double), (y3, .long), (y4, .double)] A s H locs [(h, .inr (9, (List.range 17).map (va_up (va_up (va_up (va_up (dfl kdX9) 0 (.ref q1)) 1 (.ref q2)) 2 (.ref q3)) 3 (.ref q4)))), (q1, .inl (y1, 40, .inr (.inl (fun _ => 0)))), (q2, .inl (y2, 40, .inr (.inr (.inr (.inl (fun _ => 0)))))), (q3, .inl (y3, 40, .inr (.inl (fun _ => 0)))), (q4, .inl (y4, 40, .inr (.inr (.inr (.inl (fun _ => 0))))))] := Hx_set X obj_set hP hD hS
  refine lv_aload_n hx hb dX9_init_36 rfl (lv_at hl 0 rfl) ?_
  refine lv_sipush (v := (1280 : Int32)) hx hb dX9_init_37 (by decide) ?_
  refine va_newa (atype := .long) (a0 := (1280, .inr (.inl (fun _ => 0)))) (N' := 1280) hx hb (hts (.arrayClass .long) q1_128) rfl X.1 X.2.1 X.2.2.1 X.2.2.2.1 X.2.2.2.2.1 (fun _ => rfl) (by decide) (by decide) (by decide) (Nat.le_of_ble_eq_true rfl) (Nat.le_of_ble_eq_true rfl) dX9_init_40 (fun q5 y5 H hK hP hD hS => ?_)
  have X : Hx D [(y1, .long), (y2, .double), (y3, .long), (y4, .double), (y5, .long)] A s H locs [(h, .inr (9, (List.range 17).map (va_up (va_up (va_up (va_up (dfl kdX9) 0 (.ref q1)) 1 (.ref q2)) 2 (.ref q3)) 3 (.ref q4)))), (q1, .inl (y1, 40, .inr (.inl (fun _ => 0)))), (q2, .inl (y2, 40, .inr (.inr (.inr (.inl (fun _ => 0)))))), (q3, .inl (y3, 40, .inr (.inl (fun _ => 0)))), (q4, .inl (y4, 40, .inr (.inr (.inr (.inl (fun _ => 0)))))), (q5, .inl (y5, 1280, .inr (.inl (fun _ => 0))))] := ⟨hK, hP, hD, hS, X.2.2.2.2⟩
  refine W.widen (k := 5) (n := 1440) (Nat.le_of_ble_eq_true rfl) (Nat.le_of_ble_eq_true rfl) ?_
  refine va_putF (D := D.1) (ci := 9) (v := .ref q5) (ty := tyX9 4) (C := RX9) (T := TX9) (N := 17) hx hb hts wi_X9 tyX9 tyX9_ok nmX9 hown X.1 X.2.1 X.2.2.1 X.2.2.2.1 0 rfl rfl 4 (by decide) (hts _ q1_65) (fun _ h9 => h9) rfl hin rfl (by decide +kernel) rfl rfl (by rw [List.length_map, List.length_range]; decide) dX9_init_42 (fun H locs hP hD hS => ?_)
  have X : Hx D [(y1, .long), (y2, .double), (y3, .long), (y4, .double), (y5, .long)] A s H locs [(h, .inr (9, (List.range 17).map (va_up (va_up (va_up (va_up (va_up (dfl kdX9) 0 (.ref q1)) 1 (.ref q2)) 2 (.ref q3)) 3 (.ref q4)) 4 (.ref q5)))), (q1, .inl (y1, 40, .inr (.inl (fun _ => 0)))), (q2, .inl (y2, 40, .inr (.inr (.inr (.inl (fun _ => 0)))))), (q3, .inl (y3, 40, .inr (.inl (fun _ => 0)))), (q4, .inl (y4, 40, .inr (.inr (.inr (.inl (fun _ => 0)))))), (q5, .inl (y5, 1280, .inr (.inl (fun _ => 0))))] := Hx_set X obj_set hP hD hS
  refine lv_aload_n hx hb dX9_init_45 rfl (lv_at hl 0 rfl) ?_
  refine lv_sipush (v := (1280 : Int32)) hx hb dX9_init_46 (by decide) ?_
  refine va_newa (atype := .double) (a0 := (1280, .inr (.inr (.inr (.inl (fun _ => 0)))))) (N' := 1280) hx hb (hts (.arrayClass .double) q1_46) rfl X.1 X.2.1 X.2.2.1 X.2.2.2.1 X.2.2.2.2.1 (fun _ => rfl) (by decide) (by decide) (by decide) (Nat.le_of_ble_eq_true rfl) (Nat.le_of_ble_eq_true rfl) dX9_init_49 (fun q6 y6 H hK hP hD hS => ?_)
  have X : Hx D [(y1, .long), (y2, .double), (y3, .long), (y4, .double), (y5, .long), (y6, .double)] A s H locs [(h, .inr (9, (List.range 17).map (va_up (va_up (va_up (va_up (va_up (dfl kdX9) 0 (.ref q1)) 1 (.ref q2)) 2 (.ref q3)) 3 (.ref q4)) 4 (.ref q5)))), (q1, .inl (y1, 40, .inr (.inl (fun _ => 0)))), (q2, .inl (y2, 40, .inr (.inr (.inr (.inl (fun _ => 0)))))), (q3, .inl (y3, 40, .inr (.inl (fun _ => 0)))), (q4, .inl (y4, 40, .inr (.inr (.inr (.inl (fun _ => 0)))))), (q5, .inl (y5, 1280, .inr (.inl (fun _ => 0)))), (q6, .inl (y6, 1280, .inr (.inr (.inr (.inl (fun _ => 0))))))] := ⟨hK, hP, hD, hS, X.2.2.2.2⟩
  refine W.widen (k := 6) (n := 2720) (Nat.le_of_ble_eq_true rfl) (Nat.le_of_ble_eq_true rfl) ?_
  refine va_putF (D := D.1) (ci := 9) (v := .ref q6) (ty := tyX9 5) (C := RX9) (T := TX9) (N := 17) hx hb hts wi_X9 tyX9 tyX9_ok nmX9 hown X.1 X.2.1 X.2.2.1 X.2.2.2.1 0 rfl rfl 5 (by decide) (hts _ q1_67) (fun _ h9 => h9) rfl hin rfl (by decide +kernel) rfl rfl (by rw [List.length_map, List.length_range]; decide) dX9_init_51 (fun H locs hP hD hS => ?_)
  have X : Hx D [(y1, .long), (y2, .double), (y3, .long), (y4, .double), (y5, .long), (y6, .double)] A s H locs [(h, .inr (9, (List.range 17).map (va_up (va_up (va_up (va_up (va_up (va_up (dfl kdX9) 0 (.ref q1)) 1 (.ref q2)) 2 (.ref q3)) 3 (.ref q4)) 4 (.ref q5)) 5 (.ref q6)))), (q1, .inl (y1, 40, .inr (.inl (fun _ => 0)))), (q2, .inl (y2, 40, .inr (.inr (.inr (.inl (fun _ => 0)))))), (q3, .inl (y3, 40, .inr (.inl (fun _ => 0)))), (q4, .inl (y4, 40, .inr (.inr (.inr (.inl (fun _ => 0)))))), (q5, .inl (y5, 1280, .inr (.inl (fun _ => 0)))), (q6, .inl (y6, 1280, .inr (.inr (.inr (.inl (fun _ => 0))))))] := Hx_set X obj_set hP hD hS
  refine lv_aload_n hx hb dX9_init_54 rfl (lv_at hl 0 rfl) ?_
  refine lv_bipush (v := (52 : Int32)) hx hb dX9_init_55 (by decide) ?_
  refine va_newa (atype := .int) (a0 := (52, .inl (fun _ => 0))) (N' := 52) hx hb (hts (.arrayClass .int) q1_129) rfl X.1 X.2.1 X.2.2.1 X.2.2.2.1 X.2.2.2.2.1 (fun _ => rfl) (by decide) (by decide) (by decide) (Nat.le_of_ble_eq_true rfl) (Nat.le_of_ble_eq_true rfl) dX9_init_57 (fun q7 y7 H hK hP hD hS => ?_)
  have X : Hx D [(y1, .long), (y2, .double), (y3, .long), (y4, .double), (y5, .long), (y6, .double), (y7, .int)] A s H locs [(h, .inr (9, (List.range 17).map (va_up (va_up (va_up (va_up (va_up (va_up (dfl kdX9) 0 (.ref q1)) 1 (.ref q2)) 2 (.ref q3)) 3 (.ref q4)) 4 (.ref q5)) 5 (.ref q6)))), (q1, .inl (y1, 40, .inr (.inl (fun _ => 0)))), (q2, .inl (y2, 40, .inr (.inr (.inr (.inl (fun _ => 0)))))), (q3, .inl (y3, 40, .inr (.inl (fun _ => 0)))), (q4, .inl (y4, 40, .inr (.inr (.inr (.inl (fun _ => 0)))))), (q5, .inl (y5, 1280, .inr (.inl (fun _ => 0)))), (q6, .inl (y6, 1280, .inr (.inr (.inr (.inl (fun _ => 0)))))), (q7, .inl (y7, 52, .inl (fun _ => 0)))] := ⟨hK, hP, hD, hS, X.2.2.2.2⟩
  refine W.widen (k := 7) (n := 2772) (Nat.le_of_ble_eq_true rfl) (Nat.le_of_ble_eq_true rfl) ?_
  refine va_putF (D := D.1) (ci := 9) (v := .ref q7) (ty := tyX9 6) (C := RX9) (T := TX9) (N := 17) hx hb hts wi_X9 tyX9 tyX9_ok nmX9 hown X.1 X.2.1 X.2.2.1 X.2.2.2.1 0 rfl rfl 6 (by decide) (hts _ q1_69) (fun _ h9 => h9) rfl hin rfl (by decide +kernel) rfl rfl (by rw [List.length_map, List.length_range]; decide) dX9_init_59 (fun H locs hP hD hS => ?_)
  have X : Hx D [(y1, .long), (y2, .double), (y3, .long), (y4, .double), (y5, .long), (y6, .double), (y7, .int)] A s H locs [(h, .inr (9, (List.range 17).map (va_up (va_up (va_up (va_up (va_up (va_up (va_up (dfl kdX9) 0 (.ref q1)) 1 (.ref q2)) 2 (.ref q3)) 3 (.ref q4)) 4 (.ref q5)) 5 (.ref q6)) 6 (.ref q7)))), (q1, .inl (y1, 40, .inr (.inl (fun _ => 0)))), (q2, .inl (y2, 40, .inr (.inr (.inr (.inl (fun _ => 0)))))), (q3, .inl (y3, 40, .inr (.inl (fun _ => 0)))), (q4, .inl (y4, 40, .inr (.inr (.inr (.inl (fun _ => 0)))))), (q5, .inl (y5, 1280, .inr (.inl (fun _ => 0)))), (q6, .inl (y6, 1280, .inr (.inr (.inr (.inl (fun _ => 0)))))), (q7, .inl (y7, 52, .inl (fun _ => 0)))] := Hx_set X obj_set hP hD hS
  refine lv_aload_n hx hb dX9_init_62 rfl (lv_at hl 0 rfl) ?_
  refine lv_bipush (v := (52 : Int32)) hx hb dX9_init_63 (by decide) ?_
  refine va_newa (atype := .int) (a0 := (52, .inl (fun _ => 0))) (N' := 52) hx hb (hts (.arrayClass .int) q1_129) rfl X.1 X.2.1 X.2.2.1 X.2.2.2.1 X.2.2.2.2.1 (fun _ => rfl) (by decide) (by decide) (by decide) (Nat.le_of_ble_eq_true rfl) (Nat.le_of_ble_eq_true rfl) dX9_init_65 (fun q8 y8 H hK hP hD hS => ?_)
  have X : Hx D [(y1, .long), (y2, .double), (y3, .long), (y4, .double), (y5, .long), (y6, .double), (y7, .int), (y8, .int)] A s H locs [(h, .inr (9, (List.range 17).map (va_up (va_up (va_up (va_up (va_up (va_up (va_up (dfl kdX9) 0 (.ref q1)) 1 (.ref q2)) 2 (.ref q3)) 3 (.ref q4)) 4 (.ref q5)) 5 (.ref q6)) 6 (.ref q7)))), (q1, .inl (y1, 40, .inr (.inl (fun _ => 0)))), (q2, .inl (y2, 40, .inr (.inr (.inr (.inl (fun _ => 0)))))), (q3, .inl (y3, 40, .inr (.inl (fun _ => 0)))), (q4, .inl (y4, 40, .inr (.inr (.inr (.inl (fun _ => 0)))))), (q5, .inl (y5, 1280, .inr (.inl (fun _ => 0)))), (q6, .inl (y6, 1280, .inr (.inr (.inr (.inl (fun _ => 0)))))), (q7, .inl (y7, 52, .inl (fun _ => 0))), (q8, .inl (y8, 52, .inl (fun _ => 0)))] := ⟨hK, hP, hD, hS, X.2.2.2.2⟩
  refine W.widen (k := 8) (n := 2824) (Nat.le_of_ble_eq_true rfl) (Nat.le_of_ble_eq_true rfl) ?_
  refine va_putF (D := D.1) (ci := 9) (v := .ref q8) (ty := tyX9 7) (C := RX9) (T := TX9) (N := 17) hx hb hts wi_X9 tyX9 tyX9_ok nmX9 hown X.1 X.2.1 X.2.2.1 X.2.2.2.1 0 rfl rfl 7 (by decide) (hts _ q1_71) (fun _ h9 => h9) rfl hin rfl (by decide +kernel) rfl rfl (by rw [List.length_map, List.length_range]; decide) dX9_init_67 (fun H locs hP hD hS => ?_)
  have X : Hx D [(y1, .long), (y2, .double), (y3, .long), (y4, .double), (y5, .long), (y6, .double), (y7, .int), (y8, .int)] A s H locs [(h, .inr (9, (List.range 17).map (va_up (va_up (va_up (va_up (va_up (va_up (va_up (va_up (dfl kdX9) 0 (.ref q1)) 1 (.ref q2)) 2 (.ref q3)) 3 (.ref q4)) 4 (.ref q5)) 5 (.ref q6)) 6 (.ref q7)) 7 (.ref q8)))), (q1, .inl (y1, 40, .inr (.inl (fun _ => 0)))), (q2, .inl (y2, 40, .inr (.inr (.inr (.inl (fun _ => 0)))))), (q3, .inl (y3, 40, .inr (.inl (fun _ => 0)))), (q4, .inl (y4, 40, .inr (.inr (.inr (.inl (fun _ => 0)))))), (q5, .inl (y5, 1280, .inr (.inl (fun _ => 0)))), (q6, .inl (y6, 1280, .inr (.inr (.inr (.inl (fun _ => 0)))))), (q7, .inl (y7, 52, .inl (fun _ => 0))), (q8, .inl (y8, 52, .inl (fun _ => 0)))] := Hx_set X obj_set hP hD hS
  refine lv_aload_n hx hb dX9_init_70 rfl (lv_at hl 0 rfl) ?_
  refine lv_bipush (v := (52 : Int32)) hx hb dX9_init_71 (by decide) ?_
  refine va_newa (atype := .int) (a0 := (52, .inl (fun _ => 0))) (N' := 52) hx hb (hts (.arrayClass .int) q1_129) rfl X.1 X.2.1 X.2.2.1 X.2.2.2.1 X.2.2.2.2.1 (fun _ => rfl) (by decide) (by decide) (by decide) (Nat.le_of_ble_eq_true rfl) (Nat.le_of_ble_eq_true rfl) dX9_init_73 (fun q9 y9 H hK hP hD hS => ?_)
  have X : Hx D [(y1, .long), (y2, .double), (y3, .long), (y4, .double), (y5, .long), (y6, .double), (y7, .int), (y8, .int), (y9, .int)] A s H locs [(h, .inr (9, (List.range 17).map (va_up (va_up (va_up (va_up (va_up (va_up (va_up (va_up (dfl kdX9) 0 (.ref q1)) 1 (.ref q2)) 2 (.ref q3)) 3 (.ref q4)) 4 (.ref q5)) 5 (.ref q6)) 6 (.ref q7)) 7 (.ref q8)))), (q1, .inl (y1, 40, .inr (.inl (fun _ => 0)))), (q2, .inl (y2, 40, .inr (.inr (.inr (.inl (fun _ => 0)))))), (q3, .inl (y3, 40, .inr (.inl (fun _ => 0)))), (q4, .inl (y4, 40, .inr (.inr (.inr (.inl (fun _ => 0)))))), (q5, .inl (y5, 1280, .inr (.inl (fun _ => 0)))), (q6, .inl (y6, 1280, .inr (.inr (.inr (.inl (fun _ => 0)))))), (q7, .inl (y7, 52, .inl (fun _ => 0))), (q8, .inl (y8, 52, .inl (fun _ => 0))), (q9, .inl (y9, 52, .inl (fun _ => 0)))] := ⟨hK, hP, hD, hS, X.2.2.2.2⟩
  refine W.widen (k := 9) (n := 2876) (Nat.le_of_ble_eq_true rfl) (Nat.le_of_ble_eq_true rfl) ?_
  refine va_putF (D := D.1) (ci := 9) (v := .ref q9) (ty := tyX9 8) (C := RX9) (T := TX9) (N := 17) hx hb hts wi_X9 tyX9 tyX9_ok nmX9 hown X.1 X.2.1 X.2.2.1 X.2.2.2.1 0 rfl rfl 8 (by decide) (hts _ q1_73) (fun _ h9 => h9) rfl hin rfl (by decide +kernel) rfl rfl (by rw [List.length_map, List.length_range]; decide) dX9_init_75 (fun H locs hP hD hS => ?_)
  have X : Hx D [(y1, .long), (y2, .double), (y3, .long), (y4, .double), (y5, .long), (y6, .double), (y7, .int), (y8, .int), (y9, .int)] A s H locs [(h, .inr (9, (List.range 17).map (va_up (va_up (va_up (va_up (va_up (va_up (va_up (va_up (va_up (dfl kdX9) 0 (.ref q1)) 1 (.ref q2)) 2 (.ref q3)) 3 (.ref q4)) 4 (.ref q5)) 5 (.ref q6)) 6 (.ref q7)) 7 (.ref q8)) 8 (.ref q9)))), (q1, .inl (y1, 40, .inr (.inl (fun _ => 0)))), (q2, .inl (y2, 40, .inr (.inr (.inr (.inl (fun _ => 0)))))), (q3, .inl (y3, 40, .inr (.inl (fun _ => 0)))), (q4, .inl (y4, 40, .inr (.inr (.inr (.inl (fun _ => 0)))))), (q5, .inl (y5, 1280, .inr (.inl (fun _ => 0)))), (q6, .inl (y6, 1280, .inr (.inr (.inr (.inl (fun _ => 0)))))), (q7, .inl (y7, 52, .inl (fun _ => 0))), (q8, .inl (y8, 52, .inl (fun _ => 0))), (q9, .inl (y9, 52, .inl (fun _ => 0)))] := Hx_set X obj_set hP hD hS
  refine lv_aload_n hx hb dX9_init_78 rfl (lv_at hl 0 rfl) ?_
  refine lv_bipush (v := (12 : Int32)) hx hb dX9_init_79 (by decide) ?_
  refine va_newa (atype := .int) (a0 := (12, .inl (fun _ => 0))) (N' := 12) hx hb (hts (.arrayClass .int) q1_129) rfl X.1 X.2.1 X.2.2.1 X.2.2.2.1 X.2.2.2.2.1 (fun _ => rfl) (by decide) (by decide) (by decide) (Nat.le_of_ble_eq_true rfl) (Nat.le_of_ble_eq_true rfl) dX9_init_81 (fun q10 y10 H hK hP hD hS => ?_)
  have X : Hx D [(y1, .long), (y2, .double), (y3, .long), (y4, .double), (y5, .long), (y6, .double), (y7, .int), (y8, .int), (y9, .int), (y10, .int)] A s H locs [(h, .inr (9, (List.range 17).map (va_up (va_up (va_up (va_up (va_up (va_up (va_up (va_up (va_up (dfl kdX9) 0 (.ref q1)) 1 (.ref q2)) 2 (.ref q3)) 3 (.ref q4)) 4 (.ref q5)) 5 (.ref q6)) 6 (.ref q7)) 7 (.ref q8)) 8 (.ref q9)))), (q1, .inl (y1, 40, .inr (.inl (fun _ => 0)))), (q2, .inl (y2, 40, .inr (.inr (.inr (.inl (fun _ => 0)))))), (q3, .inl (y3, 40, .inr (.inl (fun _ => 0)))), (q4, .inl (y4, 40, .inr (.inr (.inr (.inl (fun _ => 0)))))), (q5, .inl (y5, 1280, .inr (.inl (fun _ => 0)))), (q6, .inl (y6, 1280, .inr (.inr (.inr (.inl (fun _ => 0)))))), (q7, .inl (y7, 52, .inl (fun _ => 0))), (q8, .inl (y8, 52, .inl (fun _ => 0))), (q9, .inl (y9, 52, .inl (fun _ => 0))), (q10, .inl (y10, 12, .inl (fun _ => 0)))] := ⟨hK, hP, hD, hS, X.2.2.2.2⟩
  refine W.widen (k := 10) (n := 2888) (Nat.le_of_ble_eq_true rfl) (Nat.le_of_ble_eq_true rfl) ?_
  refine va_putF (D := D.1) (ci := 9) (v := .ref q10) (ty := tyX9 9) (C := RX9) (T := TX9) (N := 17) hx hb hts wi_X9 tyX9 tyX9_ok nmX9 hown X.1 X.2.1 X.2.2.1 X.2.2.2.1 0 rfl rfl 9 (by decide) (hts _ q1_75) (fun _ h9 => h9) rfl hin rfl (by decide +kernel) rfl rfl (by rw [List.length_map, List.length_range]; decide) dX9_init_83 (fun H locs hP hD hS => ?_)
  have X : Hx D [(y1, .long), (y2, .double), (y3, .long), (y4, .double), (y5, .long), (y6, .double), (y7, .int), (y8, .int), (y9, .int), (y10, .int)] A s H locs [(h, .inr (9, (List.range 17).map (va_up (va_up (va_up (va_up (va_up (va_up (va_up (va_up (va_up (va_up (dfl kdX9) 0 (.ref q1)) 1 (.ref q2)) 2 (.ref q3)) 3 (.ref q4)) 4 (.ref q5)) 5 (.ref q6)) 6 (.ref q7)) 7 (.ref q8)) 8 (.ref q9)) 9 (.ref q10)))), (q1, .inl (y1, 40, .inr (.inl (fun _ => 0)))), (q2, .inl (y2, 40, .inr (.inr (.inr (.inl (fun _ => 0)))))), (q3, .inl (y3, 40, .inr (.inl (fun _ => 0)))), (q4, .inl (y4, 40, .inr (.inr (.inr (.inl (fun _ => 0)))))), (q5, .inl (y5, 1280, .inr (.inl (fun _ => 0)))), (q6, .inl (y6, 1280, .inr (.inr (.inr (.inl (fun _ => 0)))))), (q7, .inl (y7, 52, .inl (fun _ => 0))), (q8, .inl (y8, 52, .inl (fun _ => 0))), (q9, .inl (y9, 52, .inl (fun _ => 0))), (q10, .inl (y10, 12, .inl (fun _ => 0)))] := Hx_set X obj_set hP hD hS
  refine lv_aload_n hx hb dX9_init_86 rfl (lv_at hl 0 rfl) ?_
  refine lv_bipush (v := (64 : Int32)) hx hb dX9_init_87 (by decide) ?_
  refine va_newa (atype := .long) (a0 := (64, .inr (.inl (fun _ => 0)))) (N' := 64) hx hb (hts (.arrayClass .long) q1_128) rfl X.1 X.2.1 X.2.2.1 X.2.2.2.1 X.2.2.2.2.1 (fun _ => rfl) (by decide) (by decide) (by decide) (Nat.le_of_ble_eq_true rfl) (Nat.le_of_ble_eq_true rfl) dX9_init_89 (fun q11 y11 H hK hP hD hS => ?_)
  have X : Hx D [(y1, .long), (y2, .double), (y3, .long), (y4, .double), (y5, .long), (y6, .double), (y7, .int), (y8, .int), (y9, .int), (y10, .int), (y11, .long)] A s H locs [(h, .inr (9, (List.range 17).map (va_up (va_up (va_up (va_up (va_up (va_up (va_up (va_up (va_up (va_up (dfl kdX9) 0 (.ref q1)) 1 (.ref q2)) 2 (.ref q3)) 3 (.ref q4)) 4 (.ref q5)) 5 (.ref q6)) 6 (.ref q7)) 7 (.ref q8)) 8 (.ref q9)) 9 (.ref q10)))), (q1, .inl (y1, 40, .inr (.inl (fun _ => 0)))), (q2, .inl (y2, 40, .inr (.inr (.inr (.inl (fun _ => 0)))))), (q3, .inl (y3, 40, .inr (.inl (fun _ => 0)))), (q4, .inl (y4, 40, .inr (.inr (.inr (.inl (fun _ => 0)))))), (q5, .inl (y5, 1280, .inr (.inl (fun _ => 0)))), (q6, .inl (y6, 1280, .inr (.inr (.inr (.inl (fun _ => 0)))))), (q7, .inl (y7, 52, .inl (fun _ => 0))), (q8, .inl (y8, 52, .inl (fun _ => 0))), (q9, .inl (y9, 52, .inl (fun _ => 0))), (q10, .inl (y10, 12, .inl (fun _ => 0))), (q11, .inl (y11, 64, .inr (.inl (fun _ => 0))))] := ⟨hK, hP, hD, hS, X.2.2.2.2⟩
  refine W.widen (k := 11) (n := 2952) (Nat.le_of_ble_eq_true rfl) (Nat.le_of_ble_eq_true rfl) ?_
  refine va_putF (D := D.1) (ci := 9) (v := .ref q11) (ty := tyX9 10) (C := RX9) (T := TX9) (N := 17) hx hb hts wi_X9 tyX9 tyX9_ok nmX9 hown X.1 X.2.1 X.2.2.1 X.2.2.2.1 0 rfl rfl 10 (by decide) (hts _ q1_77) (fun _ h9 => h9) rfl hin rfl (by decide +kernel) rfl rfl (by rw [List.length_map, List.length_range]; decide) dX9_init_91 (fun H locs hP hD hS => ?_)
  have X : Hx D [(y1, .long), (y2, .double), (y3, .long), (y4, .double), (y5, .long), (y6, .double), (y7, .int), (y8, .int), (y9, .int), (y10, .int), (y11, .long)] A s H locs [(h, .inr (9, (List.range 17).map (va_up (va_up (va_up (va_up (va_up (va_up (va_up (va_up (va_up (va_up (va_up (dfl kdX9) 0 (.ref q1)) 1 (.ref q2)) 2 (.ref q3)) 3 (.ref q4)) 4 (.ref q5)) 5 (.ref q6)) 6 (.ref q7)) 7 (.ref q8)) 8 (.ref q9)) 9 (.ref q10)) 10 (.ref q11)))), (q1, .inl (y1, 40, .inr (.inl (fun _ => 0)))), (q2, .inl (y2, 40, .inr (.inr (.inr (.inl (fun _ => 0)))))), (q3, .inl (y3, 40, .inr (.inl (fun _ => 0)))), (q4, .inl (y4, 40, .inr (.inr (.inr (.inl (fun _ => 0)))))), (q5, .inl (y5, 1280, .inr (.inl (fun _ => 0)))), (q6, .inl (y6, 1280, .inr (.inr (.inr (.inl (fun _ => 0)))))), (q7, .inl (y7, 52, .inl (fun _ => 0))), (q8, .inl (y8, 52, .inl (fun _ => 0))), (q9, .inl (y9, 52, .inl (fun _ => 0))), (q10, .inl (y10, 12, .inl (fun _ => 0))), (q11, .inl (y11, 64, .inr (.inl (fun _ => 0))))] := Hx_set X obj_set hP hD hS
  refine lv_aload_n hx hb dX9_init_94 rfl (lv_at hl 0 rfl) ?_
  refine lv_bipush (v := (64 : Int32)) hx hb dX9_init_95 (by decide) ?_
  refine va_newa (atype := .int) (a0 := (64, .inl (fun _ => 0))) (N' := 64) hx hb (hts (.arrayClass .int) q1_129) rfl X.1 X.2.1 X.2.2.1 X.2.2.2.1 X.2.2.2.2.1 (fun _ => rfl) (by decide) (by decide) (by decide) (Nat.le_of_ble_eq_true rfl) (Nat.le_of_ble_eq_true rfl) dX9_init_97 (fun q12 y12 H hK hP hD hS => ?_)
  have X : Hx D [(y1, .long), (y2, .double), (y3, .long), (y4, .double), (y5, .long), (y6, .double), (y7, .int), (y8, .int), (y9, .int), (y10, .int), (y11, .long), (y12, .int)] A s H locs [(h, .inr (9, (List.range 17).map (va_up (va_up (va_up (va_up (va_up (va_up (va_up (va_up (va_up (va_up (va_up (dfl kdX9) 0 (.ref q1)) 1 (.ref q2)) 2 (.ref q3)) 3 (.ref q4)) 4 (.ref q5)) 5 (.ref q6)) 6 (.ref q7)) 7 (.ref q8)) 8 (.ref q9)) 9 (.ref q10)) 10 (.ref q11)))), (q1, .inl (y1, 40, .inr (.inl (fun _ => 0)))), (q2, .inl (y2, 40, .inr (.inr (.inr (.inl (fun _ => 0)))))), (q3, .inl (y3, 40, .inr (.inl (fun _ => 0)))), (q4, .inl (y4, 40, .inr (.inr (.inr (.inl (fun _ => 0)))))), (q5, .inl (y5, 1280, .inr (.inl (fun _ => 0)))), (q6, .inl (y6, 1280, .inr (.inr (.inr (.inl (fun _ => 0)))))), (q7, .inl (y7, 52, .inl (fun _ => 0))), (q8, .inl (y8, 52, .inl (fun _ => 0))), (q9, .inl (y9, 52, .inl (fun _ => 0))), (q10, .inl (y10, 12, .inl (fun _ => 0))), (q11, .inl (y11, 64, .inr (.inl (fun _ => 0)))), (q12, .inl (y12, 64, .inl (fun _ => 0)))] := ⟨hK, hP, hD, hS, X.2.2.2.2⟩
  refine W.widen (k := 12) (n := 3016) (Nat.le_of_ble_eq_true rfl) (Nat.le_of_ble_eq_true rfl) ?_
  refine va_putF (D := D.1) (ci := 9) (v := .ref q12) (ty := tyX9 11) (C := RX9) (T := TX9) (N := 17) hx hb hts wi_X9 tyX9 tyX9_ok nmX9 hown X.1 X.2.1 X.2.2.1 X.2.2.2.1 0 rfl rfl 11 (by decide) (hts _ q1_79) (fun _ h9 => h9) rfl hin rfl (by decide +kernel) rfl rfl (by rw [List.length_map, List.length_range]; decide) dX9_init_99 (fun H locs hP hD hS => ?_)
  have X : Hx D [(y1, .long), (y2, .double), (y3, .long), (y4, .double), (y5, .long), (y6, .double), (y7, .int), (y8, .int), (y9, .int), (y10, .int), (y11, .long), (y12, .int)] A s H locs [(h, .inr (9, (List.range 17).map (va_up (va_up (va_up (va_up (va_up (va_up (va_up (va_up (va_up (va_up (va_up (va_up (dfl kdX9) 0 (.ref q1)) 1 (.ref q2)) 2 (.ref q3)) 3 (.ref q4)) 4 (.ref q5)) 5 (.ref q6)) 6 (.ref q7)) 7 (.ref q8)) 8 (.ref q9)) 9 (.ref q10)) 10 (.ref q11)) 11 (.ref q12)))), (q1, .inl (y1, 40, .inr (.inl (fun _ => 0)))), (q2, .inl (y2, 40, .inr (.inr (.inr (.inl (fun _ => 0)))))), (q3, .inl (y3, 40, .inr (.inl (fun _ => 0)))), (q4, .inl (y4, 40, .inr (.inr (.inr (.inl (fun _ => 0)))))), (q5, .inl (y5, 1280, .inr (.inl (fun _ => 0)))), (q6, .inl (y6, 1280, .inr (.inr (.inr (.inl (fun _ => 0)))))), (q7, .inl (y7, 52, .inl (fun _ => 0))), (q8, .inl (y8, 52, .inl (fun _ => 0))), (q9, .inl (y9, 52, .inl (fun _ => 0))), (q10, .inl (y10, 12, .inl (fun _ => 0))), (q11, .inl (y11, 64, .inr (.inl (fun _ => 0)))), (q12, .inl (y12, 64, .inl (fun _ => 0)))] := Hx_set X obj_set hP hD hS
  refine lv_aload_n hx hb dX9_init_102 rfl (lv_at hl 0 rfl) ?_
  refine lv_iconst (v := (0 : Int32)) hx hb dX9_init_103 (by decide) ?_
  refine va_put (D := D.1) (ci := 9) (v := .int (0 : Int32)) (ty := tyX9 12) (C := RX9) (T := TX9) (N := 17) hx hb hts wi_X9 tyX9 tyX9_ok nmX9 hown X.1 X.2.1 X.2.2.1 X.2.2.2.1 0 rfl rfl 12 (by decide) (hts _ q1_81) (fun _ h9 => h9) rfl (by decide +kernel) rfl rfl (by rw [List.length_map, List.length_range]; decide) dX9_init_104 (fun H locs hP hD hS => ?_)
  have X : Hx D [(y1, .long), (y2, .double), (y3, .long), (y4, .double), (y5, .long), (y6, .double), (y7, .int), (y8, .int), (y9, .int), (y10, .int), (y11, .long), (y12, .int)] A s H locs [(h, .inr (9, (List.range 17).map (va_up (va_up (va_up (va_up (va_up (va_up (va_up (va_up (va_up (va_up (va_up (va_up (va_up (dfl kdX9) 0 (.ref q1)) 1 (.ref q2)) 2 (.ref q3)) 3 (.ref q4)) 4 (.ref q5)) 5 (.ref q6)) 6 (.ref q7)) 7 (.ref q8)) 8 (.ref q9)) 9 (.ref q10)) 10 (.ref q11)) 11 (.ref q12)) 12 (.int (0 : Int32))))), (q1, .inl (y1, 40, .inr (.inl (fun _ => 0)))), (q2, .inl (y2, 40, .inr (.inr (.inr (.inl (fun _ => 0)))))), (q3, .inl (y3, 40, .inr (.inl (fun _ => 0)))), (q4, .inl (y4, 40, .inr (.inr (.inr (.inl (fun _ => 0)))))), (q5, .inl (y5, 1280, .inr (.inl (fun _ => 0)))), (q6, .inl (y6, 1280, .inr (.inr (.inr (.inl (fun _ => 0)))))), (q7, .inl (y7, 52, .inl (fun _ => 0))), (q8, .inl (y8, 52, .inl (fun _ => 0))), (q9, .inl (y9, 52, .inl (fun _ => 0))), (q10, .inl (y10, 12, .inl (fun _ => 0))), (q11, .inl (y11, 64, .inr (.inl (fun _ => 0)))), (q12, .inl (y12, 64, .inl (fun _ => 0)))] := Hx_set X obj_set hP hD hS
  refine lv_aload_n hx hb dX9_init_107 rfl (lv_at hl 0 rfl) ?_
  refine lv_iconst (v := (0 : Int32)) hx hb dX9_init_108 (by decide) ?_
  refine va_put (D := D.1) (ci := 9) (v := .int (0 : Int32)) (ty := tyX9 13) (C := RX9) (T := TX9) (N := 17) hx hb hts wi_X9 tyX9 tyX9_ok nmX9 hown X.1 X.2.1 X.2.2.1 X.2.2.2.1 0 rfl rfl 13 (by decide) (hts _ q1_83) (fun _ h9 => h9) rfl (by decide +kernel) rfl rfl (by rw [List.length_map, List.length_range]; decide) dX9_init_109 (fun H locs hP hD hS => ?_)
  have X : Hx D [(y1, .long), (y2, .double), (y3, .long), (y4, .double), (y5, .long), (y6, .double), (y7, .int), (y8, .int), (y9, .int), (y10, .int), (y11, .long), (y12, .int)] A s H locs [(h, .inr (9, (List.range 17).map (va_up (va_up (va_up (va_up (va_up (va_up (va_up (va_up (va_up (va_up (va_up (va_up (va_up (va_up (dfl kdX9) 0 (.ref q1)) 1 (.ref q2)) 2 (.ref q3)) 3 (.ref q4)) 4 (.ref q5)) 5 (.ref q6)) 6 (.ref q7)) 7 (.ref q8)) 8 (.ref q9)) 9 (.ref q10)) 10 (.ref q11)) 11 (.ref q12)) 12 (.int (0 : Int32))) 13 (.int (0 : Int32))))), (q1, .inl (y1, 40, .inr (.inl (fun _ => 0)))), (q2, .inl (y2, 40, .inr (.inr (.inr (.inl (fun _ => 0)))))), (q3, .inl (y3, 40, .inr (.inl (fun _ => 0)))), (q4, .inl (y4, 40, .inr (.inr (.inr (.inl (fun _ => 0)))))), (q5, .inl (y5, 1280, .inr (.inl (fun _ => 0)))), (q6, .inl (y6, 1280, .inr (.inr (.inr (.inl (fun _ => 0)))))), (q7, .inl (y7, 52, .inl (fun _ => 0))), (q8, .inl (y8, 52, .inl (fun _ => 0))), (q9, .inl (y9, 52, .inl (fun _ => 0))), (q10, .inl (y10, 12, .inl (fun _ => 0))), (q11, .inl (y11, 64, .inr (.inl (fun _ => 0)))), (q12, .inl (y12, 64, .inl (fun _ => 0)))] := Hx_set X obj_set hP hD hS
  refine lv_aload_n hx hb dX9_init_112 rfl (lv_at hl 0 rfl) ?_
  refine lv_lconst (v := (0 : Int64)) hx hb dX9_init_113 (by decide) ?_
  refine va_put (D := D.1) (ci := 9) (v := .long (0 : Int64)) (ty := tyX9 14) (C := RX9) (T := TX9) (N := 17) hx hb hts wi_X9 tyX9 tyX9_ok nmX9 hown X.1 X.2.1 X.2.2.1 X.2.2.2.1 0 rfl rfl 14 (by decide) (hts _ q1_85) (fun _ h9 => h9) rfl (by decide +kernel) rfl rfl (by rw [List.length_map, List.length_range]; decide) dX9_init_114 (fun H locs hP hD hS => ?_)
  have X : Hx D [(y1, .long), (y2, .double), (y3, .long), (y4, .double), (y5, .long), (y6, .double), (y7, .int), (y8, .int), (y9, .int), (y10, .int), (y11, .long), (y12, .int)] A s H locs [(h, .inr (9, (List.range 17).map (va_up (va_up (va_up (va_up (va_up (va_up (va_up (va_up (va_up (va_up (va_up (va_up (va_up (va_up (va_up (dfl kdX9) 0 (.ref q1)) 1 (.ref q2)) 2 (.ref q3)) 3 (.ref q4)) 4 (.ref q5)) 5 (.ref q6)) 6 (.ref q7)) 7 (.ref q8)) 8 (.ref q9)) 9 (.ref q10)) 10 (.ref q11)) 11 (.ref q12)) 12 (.int (0 : Int32))) 13 (.int (0 : Int32))) 14 (.long (0 : Int64))))), (q1, .inl (y1, 40, .inr (.inl (fun _ => 0)))), (q2, .inl (y2, 40, .inr (.inr (.inr (.inl (fun _ => 0)))))), (q3, .inl (y3, 40, .inr (.inl (fun _ => 0)))), (q4, .inl (y4, 40, .inr (.inr (.inr (.inl (fun _ => 0)))))), (q5, .inl (y5, 1280, .inr (.inl (fun _ => 0)))), (q6, .inl (y6, 1280, .inr (.inr (.inr (.inl (fun _ => 0)))))), (q7, .inl (y7, 52, .inl (fun _ => 0))), (q8, .inl (y8, 52, .inl (fun _ => 0))), (q9, .inl (y9, 52, .inl (fun _ => 0))), (q10, .inl (y10, 12, .inl (fun _ => 0))), (q11, .inl (y11, 64, .inr (.inl (fun _ => 0)))), (q12, .inl (y12, 64, .inl (fun _ => 0)))] := Hx_set X obj_set hP hD hS
  refine lv_aload_n hx hb dX9_init_117 rfl (lv_at hl 0 rfl) ?_
  refine lv_dconst0 hx hb dX9_init_118 ?_
  refine va_put (D := D.1) (ci := 9) (v := .double FP.dconst0) (ty := tyX9 15) (C := RX9) (T := TX9) (N := 17) hx hb hts wi_X9 tyX9 tyX9_ok nmX9 hown X.1 X.2.1 X.2.2.1 X.2.2.2.1 0 rfl rfl 15 (by decide) (hts _ q1_88) (fun _ h9 => h9) rfl (by decide +kernel) rfl rfl (by rw [List.length_map, List.length_range]; decide) dX9_init_119 (fun H locs hP hD hS => ?_)
  have X : Hx D [(y1, .long), (y2, .double), (y3, .long), (y4, .double), (y5, .long), (y6, .double), (y7, .int), (y8, .int), (y9, .int), (y10, .int), (y11, .long), (y12, .int)] A s H locs [(h, .inr (9, (List.range 17).map (va_up (va_up (va_up (va_up (va_up (va_up (va_up (va_up (va_up (va_up (va_up (va_up (va_up (va_up (va_up (va_up (dfl kdX9) 0 (.ref q1)) 1 (.ref q2)) 2 (.ref q3)) 3 (.ref q4)) 4 (.ref q5)) 5 (.ref q6)) 6 (.ref q7)) 7 (.ref q8)) 8 (.ref q9)) 9 (.ref q10)) 10 (.ref q11)) 11 (.ref q12)) 12 (.int (0 : Int32))) 13 (.int (0 : Int32))) 14 (.long (0 : Int64))) 15 (.double FP.dconst0)))), (q1, .inl (y1, 40, .inr (.inl (fun _ => 0)))), (q2, .inl (y2, 40, .inr (.inr (.inr (.inl (fun _ => 0)))))), (q3, .inl (y3, 40, .inr (.inl (fun _ => 0)))), (q4, .inl (y4, 40, .inr (.inr (.inr (.inl (fun _ => 0)))))), (q5, .inl (y5, 1280, .inr (.inl (fun _ => 0)))), (q6, .inl (y6, 1280, .inr (.inr (.inr (.inl (fun _ => 0)))))), (q7, .inl (y7, 52, .inl (fun _ => 0))), (q8, .inl (y8, 52, .inl (fun _ => 0))), (q9, .inl (y9, 52, .inl (fun _ => 0))), (q10, .inl (y10, 12, .inl (fun _ => 0))), (q11, .inl (y11, 64, .inr (.inl (fun _ => 0)))), (q12, .inl (y12, 64, .inl (fun _ => 0)))] := Hx_set X obj_set hP hD hS
  refine lv_aload_n hx hb dX9_init_122 rfl (lv_at hl 0 rfl) ?_
  refine lv_iconst (v := (0 : Int32)) hx hb dX9_init_123 (by decide) ?_
  refine va_put (D := D.1) (ci := 9) (v := .int (0 : Int32)) (ty := tyX9 16) (C := RX9) (T := TX9) (N := 17) hx hb hts wi_X9 tyX9 tyX9_ok nmX9 hown X.1 X.2.1 X.2.2.1 X.2.2.2.1 0 rfl rfl 16 (by decide) (hts _ q1_91) (fun _ h9 => h9) rfl (by decide +kernel) rfl rfl (by rw [List.length_map, List.length_range]; decide) dX9_init_124 (fun H locs hP hD hS => ?_)
  have X : Hx D [(y1, .long), (y2, .double), (y3, .long), (y4, .double), (y5, .long), (y6, .double), (y7, .int), (y8, .int), (y9, .int), (y10, .int), (y11, .long), (y12, .int)] A s H locs [(h, .inr (9, (List.range 17).map (va_up (va_up (va_up (va_up (va_up (va_up (va_up (va_up (va_up (va_up (va_up (va_up (va_up (va_up (va_up (va_up (va_up (dfl kdX9) 0 (.ref q1)) 1 (.ref q2)) 2 (.ref q3)) 3 (.ref q4)) 4 (.ref q5)) 5 (.ref q6)) 6 (.ref q7)) 7 (.ref q8)) 8 (.ref q9)) 9 (.ref q10)) 10 (.ref q11)) 11 (.ref q12)) 12 (.int (0 : Int32))) 13 (.int (0 : Int32))) 14 (.long (0 : Int64))) 15 (.double FP.dconst0)) 16 (.int (0 : Int32))))), (q1, .inl (y1, 40, .inr (.inl (fun _ => 0)))), (q2, .inl (y2, 40, .inr (.inr (.inr (.inl (fun _ => 0)))))), (q3, .inl (y3, 40, .inr (.inl (fun _ => 0)))), (q4, .inl (y4, 40, .inr (.inr (.inr (.inl (fun _ => 0)))))), (q5, .inl (y5, 1280, .inr (.inl (fun _ => 0)))), (q6, .inl (y6, 1280, .inr (.inr (.inr (.inl (fun _ => 0)))))), (q7, .inl (y7, 52, .inl (fun _ => 0))), (q8, .inl (y8, 52, .inl (fun _ => 0))), (q9, .inl (y9, 52, .inl (fun _ => 0))), (q10, .inl (y10, 12, .inl (fun _ => 0))), (q11, .inl (y11, 64, .inr (.inl (fun _ => 0)))), (q12, .inl (y12, 64, .inl (fun _ => 0)))] := Hx_set X obj_set hP hD hS
  have e1 : (List.range 17).map (va_up (va_up (va_up (va_up (va_up (va_up (va_up (va_up (va_up (va_up (va_up (va_up (va_up (va_up (va_up (va_up (va_up (dfl kdX9) 0 (.ref q1)) 1 (.ref q2)) 2 (.ref q3)) 3 (.ref q4)) 4 (.ref q5)) 5 (.ref q6)) 6 (.ref q7)) 7 (.ref q8)) 8 (.ref q9)) 9 (.ref q10)) 10 (.ref q11)) 11 (.ref q12)) 12 (.int (0 : Int32))) 13 (.int (0 : Int32))) 14 (.long (0 : Int64))) 15 (.double FP.dconst0)) 16 (.int (0 : Int32))) = (List.range 17).map (fld kdX9 (fun k => ([q1, q2, q3, q4, q5, q6, q7, q8, q9, q10, q11, q12, 0, 0, 0, 0, 0] : List Nat).getD k 0) g0X9) := by rfl
  have e2 : ([(q1, .inl (y1, 40, .inr (.inl (fun _ => 0)))), (q2, .inl (y2, 40, .inr (.inr (.inr (.inl (fun _ => 0)))))), (q3, .inl (y3, 40, .inr (.inl (fun _ => 0)))), (q4, .inl (y4, 40, .inr (.inr (.inr (.inl (fun _ => 0)))))), (q5, .inl (y5, 1280, .inr (.inl (fun _ => 0)))), (q6, .inl (y6, 1280, .inr (.inr (.inr (.inl (fun _ => 0)))))), (q7, .inl (y7, 52, .inl (fun _ => 0))), (q8, .inl (y8, 52, .inl (fun _ => 0))), (q9, .inl (y9, 52, .inl (fun _ => 0))), (q10, .inl (y10, 12, .inl (fun _ => 0))), (q11, .inl (y11, 64, .inr (.inl (fun _ => 0)))), (q12, .inl (y12, 64, .inl (fun _ => 0)))] : va_W) = ksX9.map (arF akX9 lnX9 (fun k => ([q1, q2, q3, q4, q5, q6, q7, q8, q9, q10, q11, q12, 0, 0, 0, 0, 0] : List Nat).getD k 0) (fun k => ([y1, y2, y3, y4, y5, y6, y7, y8, y9, y10, y11, y12, y1, y1, y1, y1, y1] : List ClassId).getD k y1) g0X9) := by rfl
  have X := X
  have hP9 : va_P D.1 vwCl (wX9 h (fun k => ([q1, q2, q3, q4, q5, q6, q7, q8, q9, q10, q11, q12, 0, 0, 0, 0, 0] : List Nat).getD k 0) (fun k => ([y1, y2, y3, y4, y5, y6, y7, y8, y9, y10, y11, y12, y1, y1, y1, y1, y1] : List ClassId).getD k y1) g0X9) H := obj_P e1 e2 X.2.1
  have hD9 : va_D A (wX9 h (fun k => ([q1, q2, q3, q4, q5, q6, q7, q8, q9, q10, q11, q12, 0, 0, 0, 0, 0] : List Nat).getD k 0) (fun k => ([y1, y2, y3, y4, y5, y6, y7, y8, y9, y10, y11, y12, y1, y1, y1, y1, y1] : List ClassId).getD k y1) g0X9) := obj_D e1 e2 X.2.2.1
  have hK9 : va_K D.1 vwCl (tX9 (fun k => ([y1, y2, y3, y4, y5, y6, y7, y8, y9, y10, y11, y12, y1, y1, y1, y1, y1] : List ClassId).getD k y1)) s := X.1
  exact W.vret hx hb hr (fun t ht hW => ⟨⟨((fun k => ([q1, q2, q3, q4, q5, q6, q7, q8, q9, q10, q11, q12, 0, 0, 0, 0, 0] : List Nat).getD k 0), (fun k => ([y1, y2, y3, y4, y5, y6, y7, y8, y9, y10, y11, y12, y1, y1, y1, y1, y1] : List ClassId).getD k y1)), rfl, trivial, by rw [ht]; exact hP9, va_K.moved hW.alike hK9, hD9⟩, X.2.2.2.1.F ht⟩) X.2.2.2.1.2.2 dX9_init_127 hlk

/-! ### X10_init -/
theorem dX10_init_0 : decode cX10_init 0 = .ok (.aload_n 0, 1) := by decide +kernel
theorem dX10_init_1 : decode cX10_init 1 = .ok (.invokespecial 1, 3) := by decide +kernel
theorem dX10_init_4 : decode cX10_init 4 = .ok (.aload_n 0, 1) := by decide +kernel
theorem dX10_init_5 : decode cX10_init 5 = .ok (.iconst 4, 1) := by decide +kernel
theorem dX10_init_6 : decode cX10_init 6 = .ok (.newarray .int, 2) := by decide +kernel
theorem dX10_init_8 : decode cX10_init 8 = .ok (.putfield 7, 3) := by decide +kernel
theorem dX10_init_11 : decode cX10_init 11 = .ok (.aload_n 0, 1) := by decide +kernel
theorem dX10_init_12 : decode cX10_init 12 = .ok (.iconst 0, 1) := by decide +kernel
theorem dX10_init_13 : decode cX10_init 13 = .ok (.putfield 13, 3) := by decide +kernel
theorem dX10_init_16 : decode cX10_init 16 = .ok (.return_, 1) := by decide +kernel
def g0X10 : Gs := g00
theorem dfX10 : ∀ j, j < 2 → defaultValue (tyX10 j) = vp_V ((List.range 2).map (dfl kdX10)) j := by decide +kernel
set_option maxHeartbeats 4000000 in
set_option maxRecDepth 100000 in
theorem n_X10_init (l : Launch) (D : Dx) (h : Nat) (sz : Nat) : Met l yX10_init (ws_ yX10_init cX10_init 1 none) { frames := 1, cells := 1, slots := 4, locals := 40 } (PC D [] [.ref h] [(h, .inr (10, (List.range 2).map (dfl kdX10)))] sz) (QN D (fun u : AY => True) (va_A [(h, .inr (10, (List.range 2).map (dfl kdX10)))] sz) (fun u => wX10 h u.1 u.2 g0X10) (fun u => tX10 u.2)) 1 4 (va_A [(h, .inr (10, (List.range 2).map (dfl kdX10)))] sz) := by
  refine Met.ofW (cc := cX10_init) (maxL := 1) (ret := none) (by decide) rfl ?_
  intro p e s m args below meth c s₁ B hml hv
  obtain ⟨rfl, hsz, hP, hK, hD, hN⟩ := hv
  subst hsz
  have C : Cx p s m _ meth c cX10_init none 1 RX10 lw_all := Cx_of B hml
  have X := Hx_start hP hK hD hN
  have hin : meth.name = "<init>" := (name_of_methodNamed B.named B.method).1
  obtain ⟨hx, hb, hr, -, hown, hts, hlk⟩ := id C
  generalize va_A [(h, .inr (10, (List.range 2).map (dfl kdX10)))] s.heap.size = A at X ⊢
  have hl := lv_entry ([.ref h]) (n := 1) (Nat.le_of_ble_eq_true rfl)
  rw [lg_entry_eq]
  generalize (lg_sl ([.ref h]) ++ List.replicate (1 - (lg_sl ([.ref h])).length) Slot.unset).toArray = ls at hl ⊢
  have hl : lv_has ls 1 [(0, .ref h)] := hl
  refine lv_aload_n hx hb dX10_init_0 rfl (lv_at hl 0 rfl) ?_
  refine W.objInit hx hb hown (hts _ q1_185) (hts _ q1_31) (hts _ q1_32) rfl (by rw [hml]; exact hl.1) rfl dX10_init_1 (Nat.le_of_ble_eq_true rfl) (Nat.le_of_ble_eq_true rfl) ?_
  refine W.eq (g2 := F0 m 4 ls []) rfl ?_
  refine lv_aload_n hx hb dX10_init_4 rfl (lv_at hl 0 rfl) ?_
  refine lv_iconst (v := (4 : Int32)) hx hb dX10_init_5 (by decide) ?_
  refine va_newa (atype := .int) (a0 := (4, .inl (fun _ => 0))) (N' := 4) hx hb (hts (.arrayClass .int) q1_129) rfl X.1 X.2.1 X.2.2.1 X.2.2.2.1 X.2.2.2.2.1 (fun _ => rfl) (by decide) (by decide) (by decide) (Nat.le_of_ble_eq_true rfl) (Nat.le_of_ble_eq_true rfl) dX10_init_6 (fun q1 y1 H hK hP hD hS => ?_)
  have X : Hx D [(y1, .int)] A s H [] [(h, .inr (10, (List.range 2).map (dfl kdX10))), (q1, .inl (y1, 4, .inl (fun _ => 0)))] := ⟨hK, hP, hD, hS, X.2.2.2.2⟩
  refine W.widen (k := 1) (n := 4) (Nat.le_of_ble_eq_true rfl) (Nat.le_of_ble_eq_true rfl) ?_
  refine va_putF (D := D.1) (ci := 10) (v := .ref q1) (ty := tyX10 0) (C := RX10) (T := TX10) (N := 2) hx hb hts wi_X10 tyX10 tyX10_ok nmX10 hown X.1 X.2.1 X.2.2.1 X.2.2.2.1 0 rfl rfl 0 (by decide) (hts _ q1_186) (fun _ h9 => h9) rfl hin rfl (by decide +kernel) rfl rfl (by rw [List.length_map, List.length_range]; decide) dX10_init_8 (fun H locs hP hD hS => ?_)
  have X : Hx D [(y1, .int)] A s H locs [(h, .inr (10, (List.range 2).map (va_up (dfl kdX10) 0 (.ref q1)))), (q1, .inl (y1, 4, .inl (fun _ => 0)))] := Hx_set X obj_set hP hD hS
  refine lv_aload_n hx hb dX10_init_11 rfl (lv_at hl 0 rfl) ?_
  refine lv_iconst (v := (0 : Int32)) hx hb dX10_init_12 (by decide) ?_
  refine va_put (D := D.1) (ci := 10) (v := .int (0 : Int32)) (ty := tyX10 1) (C := RX10) (T := TX10) (N := 2) hx hb hts wi_X10 tyX10 tyX10_ok nmX10 hown X.1 X.2.1 X.2.2.1 X.2.2.2.1 0 rfl rfl 1 (by decide) (hts _ q1_188) (fun _ h9 => h9) rfl (by decide +kernel) rfl rfl (by rw [List.length_map, List.length_range]; decide) dX10_init_13 (fun H locs hP hD hS => ?_)
  have X : Hx D [(y1, .int)] A s H locs [(h, .inr (10, (List.range 2).map (va_up (va_up (dfl kdX10) 0 (.ref q1)) 1 (.int (0 : Int32))))), (q1, .inl (y1, 4, .inl (fun _ => 0)))] := Hx_set X obj_set hP hD hS
  have e1 : (List.range 2).map (va_up (va_up (dfl kdX10) 0 (.ref q1)) 1 (.int (0 : Int32))) = (List.range 2).map (fld kdX10 (fun k => ([q1, 0] : List Nat).getD k 0) g0X10) := by rfl
  have e2 : ([(q1, .inl (y1, 4, .inl (fun _ => 0)))] : va_W) = ksX10.map (arF akX10 lnX10 (fun k => ([q1, 0] : List Nat).getD k 0) (fun k => ([y1, y1] : List ClassId).getD k y1) g0X10) := by rfl
  have X := X
  have hP9 : va_P D.1 vwCl (wX10 h (fun k => ([q1, 0] : List Nat).getD k 0) (fun k => ([y1, y1] : List ClassId).getD k y1) g0X10) H := obj_P e1 e2 X.2.1
  have hD9 : va_D A (wX10 h (fun k => ([q1, 0] : List Nat).getD k 0) (fun k => ([y1, y1] : List ClassId).getD k y1) g0X10) := obj_D e1 e2 X.2.2.1
  have hK9 : va_K D.1 vwCl (tX10 (fun k => ([y1, y1] : List ClassId).getD k y1)) s := X.1
  exact W.vret hx hb hr (fun t ht hW => ⟨⟨((fun k => ([q1, 0] : List Nat).getD k 0), (fun k => ([y1, y1] : List ClassId).getD k y1)), rfl, trivial, by rw [ht]; exact hP9, va_K.moved hW.alike hK9, hD9⟩, X.2.2.2.1.F ht⟩) X.2.2.2.1.2.2 dX10_init_16 hlk

/-! ### X1_init -/
theorem dX1_init_0 : decode cX1_init 0 = .ok (.aload_n 0, 1) := by decide +kernel
theorem dX1_init_1 : decode cX1_init 1 = .ok (.invokespecial 3, 3) := by decide +kernel
theorem dX1_init_4 : decode cX1_init 4 = .ok (.aload_n 0, 1) := by decide +kernel
theorem dX1_init_5 : decode cX1_init 5 = .ok (.sipush 512, 3) := by decide +kernel
theorem dX1_init_8 : decode cX1_init 8 = .ok (.newarray .long, 2) := by decide +kernel
theorem dX1_init_10 : decode cX1_init 10 = .ok (.putfield 9, 3) := by decide +kernel
theorem dX1_init_13 : decode cX1_init 13 = .ok (.aload_n 0, 1) := by decide +kernel
theorem dX1_init_14 : decode cX1_init 14 = .ok (.sipush 512, 3) := by decide +kernel
theorem dX1_init_17 : decode cX1_init 17 = .ok (.newarray .double, 2) := by decide +kernel
theorem dX1_init_19 : decode cX1_init 19 = .ok (.putfield 15, 3) := by decide +kernel
theorem dX1_init_22 : decode cX1_init 22 = .ok (.aload_n 0, 1) := by decide +kernel
theorem dX1_init_23 : decode cX1_init 23 = .ok (.iconst 0, 1) := by decide +kernel
theorem dX1_init_24 : decode cX1_init 24 = .ok (.putfield 19, 3) := by decide +kernel
theorem dX1_init_27 : decode cX1_init 27 = .ok (.aload_n 0, 1) := by decide +kernel
theorem dX1_init_28 : decode cX1_init 28 = .ok (.iconst 0, 1) := by decide +kernel
theorem dX1_init_29 : decode cX1_init 29 = .ok (.putfield 23, 3) := by decide +kernel
theorem dX1_init_32 : decode cX1_init 32 = .ok (.aload_n 0, 1) := by decide +kernel
theorem dX1_init_33 : decode cX1_init 33 = .ok (.iconst (-1), 1) := by decide +kernel
theorem dX1_init_34 : decode cX1_init 34 = .ok (.putfield 26, 3) := by decide +kernel
theorem dX1_init_37 : decode cX1_init 37 = .ok (.aload_n 0, 1) := by decide +kernel
theorem dX1_init_38 : decode cX1_init 38 = .ok (.aload_n 1, 1) := by decide +kernel
theorem dX1_init_39 : decode cX1_init 39 = .ok (.putfield 29, 3) := by decide +kernel
theorem dX1_init_42 : decode cX1_init 42 = .ok (.aload_n 0, 1) := by decide +kernel
theorem dX1_init_43 : decode cX1_init 43 = .ok (.aload_n 2, 1) := by decide +kernel
theorem dX1_init_44 : decode cX1_init 44 = .ok (.putfield 33, 3) := by decide +kernel
theorem dX1_init_47 : decode cX1_init 47 = .ok (.return_, 1) := by decide +kernel
def g0X1 : Gs := (sI g00 6 (-1 : Int32))
theorem dfX1 : ∀ j, j < 7 → defaultValue (tyX1 j) = vp_V ((List.range 7).map (dfl kdX1)) j := by decide +kernel
set_option maxHeartbeats 4000000 in
set_option maxRecDepth 100000 in
theorem n_X1_init (l : Launch) (D : Dx) (h : Nat) (r0 : Nat) (r1 : Nat) (sz : Nat) : Met l yX1_init (ws_ yX1_init cX1_init 3 none) { frames := 1, cells := 2, slots := 1024, locals := 40 } (PC D [] [.ref h, .ref r0, .ref r1] [(h, .inr (1, (List.range 7).map (dfl kdX1)))] sz) (QN D (fun u : AY => u.1 0 = r0 ∧ u.1 1 = r1) (va_A [(h, .inr (1, (List.range 7).map (dfl kdX1)))] sz) (fun u => wX1 h u.1 u.2 g0X1) (fun u => tX1 u.2)) 2 1024 (va_A [(h, .inr (1, (List.range 7).map (dfl kdX1)))] sz) := by
  refine Met.ofW (cc := cX1_init) (maxL := 3) (ret := none) (by decide) rfl ?_
  intro p e s m args below meth c s₁ B hml hv
  obtain ⟨rfl, hsz, hP, hK, hD, hN⟩ := hv
  subst hsz
  have C : Cx p s m _ meth c cX1_init none 3 RX1 lw_all := Cx_of B hml
  have X := Hx_start hP hK hD hN
  have hin : meth.name = "<init>" := (name_of_methodNamed B.named B.method).1
  obtain ⟨hx, hb, hr, -, hown, hts, hlk⟩ := id C
  generalize va_A [(h, .inr (1, (List.range 7).map (dfl kdX1)))] s.heap.size = A at X ⊢
  have hl := lv_entry ([.ref h, .ref r0, .ref r1]) (n := 3) (Nat.le_of_ble_eq_true rfl)
  rw [lg_entry_eq]
  generalize (lg_sl ([.ref h, .ref r0, .ref r1]) ++ List.replicate (3 - (lg_sl ([.ref h, .ref r0, .ref r1])).length) Slot.unset).toArray = ls at hl ⊢
  have hl : lv_has ls 3 [(0, .ref h), (1, .ref r0), (2, .ref r1)] := hl
  refine lv_aload_n hx hb dX1_init_0 rfl (lv_at hl 0 rfl) ?_
  refine W.objInit hx hb hown (hts _ q1_136) (hts _ q1_31) (hts _ q1_32) rfl (by rw [hml]; exact hl.1) rfl dX1_init_1 (Nat.le_of_ble_eq_true rfl) (Nat.le_of_ble_eq_true rfl) ?_
  refine W.eq (g2 := F0 m 4 ls []) rfl ?_
  refine lv_aload_n hx hb dX1_init_4 rfl (lv_at hl 0 rfl) ?_
  refine lv_sipush (v := (512 : Int32)) hx hb dX1_init_5 (by decide) ?_
  refine va_newa (atype := .long) (a0 := (512, .inr (.inl (fun _ => 0)))) (N' := 512) hx hb (hts (.arrayClass .long) q1_128) rfl X.1 X.2.1 X.2.2.1 X.2.2.2.1 X.2.2.2.2.1 (fun _ => rfl) (by decide) (by decide) (by decide) (Nat.le_of_ble_eq_true rfl) (Nat.le_of_ble_eq_true rfl) dX1_init_8 (fun q1 y1 H hK hP hD hS => ?_)
  have X : Hx D [(y1, .long)] A s H [] [(h, .inr (1, (List.range 7).map (dfl kdX1))), (q1, .inl (y1, 512, .inr (.inl (fun _ => 0))))] := ⟨hK, hP, hD, hS, X.2.2.2.2⟩
  refine W.widen (k := 1) (n := 512) (Nat.le_of_ble_eq_true rfl) (Nat.le_of_ble_eq_true rfl) ?_
  refine va_putF (D := D.1) (ci := 1) (v := .ref q1) (ty := tyX1 2) (C := RX1) (T := TX1) (N := 7) hx hb hts wi_X1 tyX1 tyX1_ok nmX1 hown X.1 X.2.1 X.2.2.1 X.2.2.2.1 0 rfl rfl 2 (by decide) (hts _ q1_139) (fun _ h9 => h9) rfl hin rfl (by decide +kernel) rfl rfl (by rw [List.length_map, List.length_range]; decide) dX1_init_10 (fun H locs hP hD hS => ?_)
  have X : Hx D [(y1, .long)] A s H locs [(h, .inr (1, (List.range 7).map (va_up (dfl kdX1) 2 (.ref q1)))), (q1, .inl (y1, 512, .inr (.inl (fun _ => 0))))] := Hx_set X obj_set hP hD hS
  refine lv_aload_n hx hb dX1_init_13 rfl (lv_at hl 0 rfl) ?_
  refine lv_sipush (v := (512 : Int32)) hx hb dX1_init_14 (by decide) ?_
  refine va_newa (atype := .double) (a0 := (512, .inr (.inr (.inr (.inl (fun _ => 0)))))) (N' := 512) hx hb (hts (.arrayClass .double) q1_46) rfl X.1 X.2.1 X.2.2.1 X.2.2.2.1 X.2.2.2.2.1 (fun _ => rfl) (by decide) (by decide) (by decide) (Nat.le_of_ble_eq_true rfl) (Nat.le_of_ble_eq_true rfl) dX1_init_17 (fun q2 y2 H hK hP hD hS => ?_)
  have X : Hx D [(y1, .long), (y2, .double)] A s H locs [(h, .inr (1, (List.range 7).map (va_up (dfl kdX1) 2 (.ref q1)))), (q1, .inl (y1, 512, .inr (.inl (fun _ => 0)))), (q2, .inl (y2, 512, .inr (.inr (.inr (.inl (fun _ => 0))))))] := ⟨hK, hP, hD, hS, X.2.2.2.2⟩
  refine W.widen (k := 2) (n := 1024) (Nat.le_of_ble_eq_true rfl) (Nat.le_of_ble_eq_true rfl) ?_
  refine va_putF (D := D.1) (ci := 1) (v := .ref q2) (ty := tyX1 3) (C := RX1) (T := TX1) (N := 7) hx hb hts wi_X1 tyX1 tyX1_ok nmX1 hown X.1 X.2.1 X.2.2.1 X.2.2.2.1 0 rfl rfl 3 (by decide) (hts _ q1_141) (fun _ h9 => h9) rfl hin rfl (by decide +kernel) rfl rfl (by rw [List.length_map, List.length_range]; decide) dX1_init_19 (fun H locs hP hD hS => ?_)
  have X : Hx D [(y1, .long), (y2, .double)] A s H locs [(h, .inr (1, (List.range 7).map (va_up (va_up (dfl kdX1) 2 (.ref q1)) 3 (.ref q2)))), (q1, .inl (y1, 512, .inr (.inl (fun _ => 0)))), (q2, .inl (y2, 512, .inr (.inr (.inr (.inl (fun _ => 0))))))] := Hx_set X obj_set hP hD hS
  refine lv_aload_n hx hb dX1_init_22 rfl (lv_at hl 0 rfl) ?_
  refine lv_iconst (v := (0 : Int32)) hx hb dX1_init_23 (by decide) ?_
  refine va_put (D := D.1) (ci := 1) (v := .int (0 : Int32)) (ty := tyX1 4) (C := RX1) (T := TX1) (N := 7) hx hb hts wi_X1 tyX1 tyX1_ok nmX1 hown X.1 X.2.1 X.2.2.1 X.2.2.2.1 0 rfl rfl 4 (by decide) (hts _ q1_143) (fun _ h9 => h9) rfl (by decide +kernel) rfl rfl (by rw [List.length_map, List.length_range]; decide) dX1_init_24 (fun H locs hP hD hS => ?_)
  have X : Hx D [(y1, .long), (y2, .double)] A s H locs [(h, .inr (1, (List.range 7).map (va_up (va_up (va_up (dfl kdX1) 2 (.ref q1)) 3 (.ref q2)) 4 (.int (0 : Int32))))), (q1, .inl (y1, 512, .inr (.inl (fun _ => 0)))), (q2, .inl (y2, 512, .inr (.inr (.inr (.inl (fun _ => 0))))))] := Hx_set X obj_set hP hD hS
  refine lv_aload_n hx hb dX1_init_27 rfl (lv_at hl 0 rfl) ?_
  refine lv_iconst (v := (0 : Int32)) hx hb dX1_init_28 (by decide) ?_
  refine va_put (D := D.1) (ci := 1) (v := .int (0 : Int32)) (ty := tyX1 5) (C := RX1) (T := TX1) (N := 7) hx hb hts wi_X1 tyX1 tyX1_ok nmX1 hown X.1 X.2.1 X.2.2.1 X.2.2.2.1 0 rfl rfl 5 (by decide) (hts _ q1_144) (fun _ h9 => h9) rfl (by decide +kernel) rfl rfl (by rw [List.length_map, List.length_range]; decide) dX1_init_29 (fun H locs hP hD hS => ?_)
  have X : Hx D [(y1, .long), (y2, .double)] A s H locs [(h, .inr (1, (List.range 7).map (va_up (va_up (va_up (va_up (dfl kdX1) 2 (.ref q1)) 3 (.ref q2)) 4 (.int (0 : Int32))) 5 (.int (0 : Int32))))), (q1, .inl (y1, 512, .inr (.inl (fun _ => 0)))), (q2, .inl (y2, 512, .inr (.inr (.inr (.inl (fun _ => 0))))))] := Hx_set X obj_set hP hD hS
  refine lv_aload_n hx hb dX1_init_32 rfl (lv_at hl 0 rfl) ?_
  refine lv_iconst (v := (-1 : Int32)) hx hb dX1_init_33 (by decide) ?_
  refine va_put (D := D.1) (ci := 1) (v := .int (-1 : Int32)) (ty := tyX1 6) (C := RX1) (T := TX1) (N := 7) hx hb hts wi_X1 tyX1 tyX1_ok nmX1 hown X.1 X.2.1 X.2.2.1 X.2.2.2.1 0 rfl rfl 6 (by decide) (hts _ q1_146) (fun _ h9 => h9) rfl (by decide +kernel) rfl rfl (by rw [List.length_map, List.length_range]; decide) dX1_init_34 (fun H locs hP hD hS => ?_)
  have X : Hx D [(y1, .long), (y2, .double)] A s H locs [(h, .inr (1, (List.range 7).map (va_up (va_up (va_up (va_up (va_up (dfl kdX1) 2 (.ref q1)) 3 (.ref q2)) 4 (.int (0 : Int32))) 5 (.int (0 : Int32))) 6 (.int (-1 : Int32))))), (q1, .inl (y1, 512, .inr (.inl (fun _ => 0)))), (q2, .inl (y2, 512, .inr (.inr (.inr (.inl (fun _ => 0))))))] := Hx_set X obj_set hP hD hS
  refine lv_aload_n hx hb dX1_init_37 rfl (lv_at hl 0 rfl) ?_
  refine lv_aload_n hx hb dX1_init_38 rfl (lv_at hl 1 rfl) ?_
  refine va_putF (D := D.1) (ci := 1) (v := .ref r0) (ty := tyX1 0) (C := RX1) (T := TX1) (N := 7) hx hb hts wi_X1 tyX1 tyX1_ok nmX1 hown X.1 X.2.1 X.2.2.1 X.2.2.2.1 0 rfl rfl 0 (by decide) (hts _ q1_137) (fun _ h9 => h9) rfl hin rfl (by decide +kernel) rfl rfl (by rw [List.length_map, List.length_range]; decide) dX1_init_39 (fun H locs hP hD hS => ?_)
  have X : Hx D [(y1, .long), (y2, .double)] A s H locs [(h, .inr (1, (List.range 7).map (va_up (va_up (va_up (va_up (va_up (va_up (dfl kdX1) 2 (.ref q1)) 3 (.ref q2)) 4 (.int (0 : Int32))) 5 (.int (0 : Int32))) 6 (.int (-1 : Int32))) 0 (.ref r0)))), (q1, .inl (y1, 512, .inr (.inl (fun _ => 0)))), (q2, .inl (y2, 512, .inr (.inr (.inr (.inl (fun _ => 0))))))] := Hx_set X obj_set hP hD hS
  refine lv_aload_n hx hb dX1_init_42 rfl (lv_at hl 0 rfl) ?_
  refine lv_aload_n hx hb dX1_init_43 rfl (lv_at hl 2 rfl) ?_
  refine va_putF (D := D.1) (ci := 1) (v := .ref r1) (ty := tyX1 1) (C := RX1) (T := TX1) (N := 7) hx hb hts wi_X1 tyX1 tyX1_ok nmX1 hown X.1 X.2.1 X.2.2.1 X.2.2.2.1 0 rfl rfl 1 (by decide) (hts _ q1_138) (fun _ h9 => h9) rfl hin rfl (by decide +kernel) rfl rfl (by rw [List.length_map, List.length_range]; decide) dX1_init_44 (fun H locs hP hD hS => ?_)
  have X : Hx D [(y1, .long), (y2, .double)] A s H locs [(h, .inr (1, (List.range 7).map (va_up (va_up (va_up (va_up (va_up (va_up (va_up (dfl kdX1) 2 (.ref q1)) 3 (.ref q2)) 4 (.int (0 : Int32))) 5 (.int (0 : Int32))) 6 (.int (-1 : Int32))) 0 (.ref r0)) 1 (.ref r1)))), (q1, .inl (y1, 512, .inr (.inl (fun _ => 0)))), (q2, .inl (y2, 512, .inr (.inr (.inr (.inl (fun _ => 0))))))] := Hx_set X obj_set hP hD hS
  have e1 : (List.range 7).map (va_up (va_up (va_up (va_up (va_up (va_up (va_up (dfl kdX1) 2 (.ref q1)) 3 (.ref q2)) 4 (.int (0 : Int32))) 5 (.int (0 : Int32))) 6 (.int (-1 : Int32))) 0 (.ref r0)) 1 (.ref r1)) = (List.range 7).map (fld kdX1 (fun k => ([r0, r1, q1, q2, 0, 0, 0] : List Nat).getD k 0) g0X1) := by rfl
  have e2 : ([(q1, .inl (y1, 512, .inr (.inl (fun _ => 0)))), (q2, .inl (y2, 512, .inr (.inr (.inr (.inl (fun _ => 0))))))] : va_W) = ksX1.map (arF akX1 lnX1 (fun k => ([r0, r1, q1, q2, 0, 0, 0] : List Nat).getD k 0) (fun k => ([y1, y1, y1, y2, y1, y1, y1] : List ClassId).getD k y1) g0X1) := by rfl
  have X := X
  have hP9 : va_P D.1 vwCl (wX1 h (fun k => ([r0, r1, q1, q2, 0, 0, 0] : List Nat).getD k 0) (fun k => ([y1, y1, y1, y2, y1, y1, y1] : List ClassId).getD k y1) g0X1) H := obj_P e1 e2 X.2.1
  have hD9 : va_D A (wX1 h (fun k => ([r0, r1, q1, q2, 0, 0, 0] : List Nat).getD k 0) (fun k => ([y1, y1, y1, y2, y1, y1, y1] : List ClassId).getD k y1) g0X1) := obj_D e1 e2 X.2.2.1
  have hK9 : va_K D.1 vwCl (tX1 (fun k => ([y1, y1, y1, y2, y1, y1, y1] : List ClassId).getD k y1)) s := X.1
  exact W.vret hx hb hr (fun t ht hW => ⟨⟨((fun k => ([r0, r1, q1, q2, 0, 0, 0] : List Nat).getD k 0), (fun k => ([y1, y1, y1, y2, y1, y1, y1] : List ClassId).getD k y1)), rfl, ⟨rfl, rfl⟩, by rw [ht]; exact hP9, va_K.moved hW.alike hK9, hD9⟩, X.2.2.2.1.F ht⟩) X.2.2.2.1.2.2 dX1_init_47 hlk

/-! ### X3_init -/
theorem dX3_init_0 : decode cX3_init 0 = .ok (.aload_n 0, 1) := by decide +kernel
theorem dX3_init_1 : decode cX3_init 1 = .ok (.invokespecial 3, 3) := by decide +kernel
theorem dX3_init_4 : decode cX3_init 4 = .ok (.aload_n 0, 1) := by decide +kernel
theorem dX3_init_5 : decode cX3_init 5 = .ok (.bipush 48, 2) := by decide +kernel
theorem dX3_init_7 : decode cX3_init 7 = .ok (.newarray .byte, 2) := by decide +kernel
theorem dX3_init_9 : decode cX3_init 9 = .ok (.putfield 9, 3) := by decide +kernel
theorem dX3_init_12 : decode cX3_init 12 = .ok (.aload_n 0, 1) := by decide +kernel
theorem dX3_init_13 : decode cX3_init 13 = .ok (.iconst 0, 1) := by decide +kernel
theorem dX3_init_14 : decode cX3_init 14 = .ok (.putfield 15, 3) := by decide +kernel
theorem dX3_init_17 : decode cX3_init 17 = .ok (.aload_n 0, 1) := by decide +kernel
theorem dX3_init_18 : decode cX3_init 18 = .ok (.aload_n 1, 1) := by decide +kernel
theorem dX3_init_19 : decode cX3_init 19 = .ok (.putfield 19, 3) := by decide +kernel
theorem dX3_init_22 : decode cX3_init 22 = .ok (.return_, 1) := by decide +kernel
def g0X3 : Gs := g00
theorem dfX3 : ∀ j, j < 3 → defaultValue (tyX3 j) = vp_V ((List.range 3).map (dfl kdX3)) j := by decide +kernel
set_option maxHeartbeats 4000000 in
set_option maxRecDepth 100000 in
theorem n_X3_init (l : Launch) (D : Dx) (h : Nat) (r0 : Nat) (sz : Nat) : Met l yX3_init (ws_ yX3_init cX3_init 2 none) { frames := 1, cells := 1, slots := 48, locals := 40 } (PC D [] [.ref h, .ref r0] [(h, .inr (3, (List.range 3).map (dfl kdX3)))] sz) (QN D (fun u : AY => u.1 0 = r0) (va_A [(h, .inr (3, (List.range 3).map (dfl kdX3)))] sz) (fun u => wX3 h u.1 u.2 g0X3) (fun u => tX3 u.2)) 1 48 (va_A [(h, .inr (3, (List.range 3).map (dfl kdX3)))] sz) := by
  refine Met.ofW (cc := cX3_init) (maxL := 2) (ret := none) (by decide) rfl ?_
  intro p e s m args below meth c s₁ B hml hv
  obtain ⟨rfl, hsz, hP, hK, hD, hN⟩ := hv
  subst hsz
  have C : Cx p s m _ meth c cX3_init none 2 RX3 lw_all := Cx_of B hml
  have X := Hx_start hP hK hD hN
  have hin : meth.name = "<init>" := (name_of_methodNamed B.named B.method).1
  obtain ⟨hx, hb, hr, -, hown, hts, hlk⟩ := id C
  generalize va_A [(h, .inr (3, (List.range 3).map (dfl kdX3)))] s.heap.size = A at X ⊢
  have hl := lv_entry ([.ref h, .ref r0]) (n := 2) (Nat.le_of_ble_eq_true rfl)
  rw [lg_entry_eq]
  generalize (lg_sl ([.ref h, .ref r0]) ++ List.replicate (2 - (lg_sl ([.ref h, .ref r0])).length) Slot.unset).toArray = ls at hl ⊢
  have hl : lv_has ls 2 [(0, .ref h), (1, .ref r0)] := hl
  refine lv_aload_n hx hb dX3_init_0 rfl (lv_at hl 0 rfl) ?_
  refine W.objInit hx hb hown (hts _ q1_167) (hts _ q1_31) (hts _ q1_32) rfl (by rw [hml]; exact hl.1) rfl dX3_init_1 (Nat.le_of_ble_eq_true rfl) (Nat.le_of_ble_eq_true rfl) ?_
  refine W.eq (g2 := F0 m 4 ls []) rfl ?_
  refine lv_aload_n hx hb dX3_init_4 rfl (lv_at hl 0 rfl) ?_
  refine lv_bipush (v := (48 : Int32)) hx hb dX3_init_5 (by decide) ?_
  refine va_newa (atype := .byte) (a0 := (48, .inl (fun _ => 0))) (N' := 48) hx hb (hts (.arrayClass .byte) q1_45) rfl X.1 X.2.1 X.2.2.1 X.2.2.2.1 X.2.2.2.2.1 (fun _ => rfl) (by decide) (by decide) (by decide) (Nat.le_of_ble_eq_true rfl) (Nat.le_of_ble_eq_true rfl) dX3_init_7 (fun q1 y1 H hK hP hD hS => ?_)
  have X : Hx D [(y1, .byte)] A s H [] [(h, .inr (3, (List.range 3).map (dfl kdX3))), (q1, .inl (y1, 48, .inl (fun _ => 0)))] := ⟨hK, hP, hD, hS, X.2.2.2.2⟩
  refine W.widen (k := 1) (n := 48) (Nat.le_of_ble_eq_true rfl) (Nat.le_of_ble_eq_true rfl) ?_
  refine va_putF (D := D.1) (ci := 3) (v := .ref q1) (ty := tyX3 1) (C := RX3) (T := TX3) (N := 3) hx hb hts wi_X3 tyX3 tyX3_ok nmX3 hown X.1 X.2.1 X.2.2.1 X.2.2.2.1 0 rfl rfl 1 (by decide) (hts _ q1_169) (fun _ h9 => h9) rfl hin rfl (by decide +kernel) rfl rfl (by rw [List.length_map, List.length_range]; decide) dX3_init_9 (fun H locs hP hD hS => ?_)
  have X : Hx D [(y1, .byte)] A s H locs [(h, .inr (3, (List.range 3).map (va_up (dfl kdX3) 1 (.ref q1)))), (q1, .inl (y1, 48, .inl (fun _ => 0)))] := Hx_set X obj_set hP hD hS
  refine lv_aload_n hx hb dX3_init_12 rfl (lv_at hl 0 rfl) ?_
  refine lv_iconst (v := (0 : Int32)) hx hb dX3_init_13 (by decide) ?_
  refine va_put (D := D.1) (ci := 3) (v := .int (0 : Int32)) (ty := tyX3 2) (C := RX3) (T := TX3) (N := 3) hx hb hts wi_X3 tyX3 tyX3_ok nmX3 hown X.1 X.2.1 X.2.2.1 X.2.2.2.1 0 rfl rfl 2 (by decide) (hts _ q1_171) (fun _ h9 => h9) rfl (by decide +kernel) rfl rfl (by rw [List.length_map, List.length_range]; decide) dX3_init_14 (fun H locs hP hD hS => ?_)
  have X : Hx D [(y1, .byte)] A s H locs [(h, .inr (3, (List.range 3).map (va_up (va_up (dfl kdX3) 1 (.ref q1)) 2 (.int (0 : Int32))))), (q1, .inl (y1, 48, .inl (fun _ => 0)))] := Hx_set X obj_set hP hD hS
  refine lv_aload_n hx hb dX3_init_17 rfl (lv_at hl 0 rfl) ?_
  refine lv_aload_n hx hb dX3_init_18 rfl (lv_at hl 1 rfl) ?_
  refine va_putF (D := D.1) (ci := 3) (v := .ref r0) (ty := tyX3 0) (C := RX3) (T := TX3) (N := 3) hx hb hts wi_X3 tyX3 tyX3_ok nmX3 hown X.1 X.2.1 X.2.2.1 X.2.2.2.1 0 rfl rfl 0 (by decide) (hts _ q1_168) (fun _ h9 => h9) rfl hin rfl (by decide +kernel) rfl rfl (by rw [List.length_map, List.length_range]; decide) dX3_init_19 (fun H locs hP hD hS => ?_)
  have X : Hx D [(y1, .byte)] A s H locs [(h, .inr (3, (List.range 3).map (va_up (va_up (va_up (dfl kdX3) 1 (.ref q1)) 2 (.int (0 : Int32))) 0 (.ref r0)))), (q1, .inl (y1, 48, .inl (fun _ => 0)))] := Hx_set X obj_set hP hD hS
  have e1 : (List.range 3).map (va_up (va_up (va_up (dfl kdX3) 1 (.ref q1)) 2 (.int (0 : Int32))) 0 (.ref r0)) = (List.range 3).map (fld kdX3 (fun k => ([r0, q1, 0] : List Nat).getD k 0) g0X3) := by rfl
  have e2 : ([(q1, .inl (y1, 48, .inl (fun _ => 0)))] : va_W) = ksX3.map (arF akX3 lnX3 (fun k => ([r0, q1, 0] : List Nat).getD k 0) (fun k => ([y1, y1, y1] : List ClassId).getD k y1) g0X3) := by rfl
  have X := X
  have hP9 : va_P D.1 vwCl (wX3 h (fun k => ([r0, q1, 0] : List Nat).getD k 0) (fun k => ([y1, y1, y1] : List ClassId).getD k y1) g0X3) H := obj_P e1 e2 X.2.1
  have hD9 : va_D A (wX3 h (fun k => ([r0, q1, 0] : List Nat).getD k 0) (fun k => ([y1, y1, y1] : List ClassId).getD k y1) g0X3) := obj_D e1 e2 X.2.2.1
  have hK9 : va_K D.1 vwCl (tX3 (fun k => ([y1, y1, y1] : List ClassId).getD k y1)) s := X.1
  exact W.vret hx hb hr (fun t ht hW => ⟨⟨((fun k => ([r0, q1, 0] : List Nat).getD k 0), (fun k => ([y1, y1, y1] : List ClassId).getD k y1)), rfl, rfl, by rw [ht]; exact hP9, va_K.moved hW.alike hK9, hD9⟩, X.2.2.2.1.F ht⟩) X.2.2.2.1.2.2 dX3_init_22 hlk

/-! ### X8_init -/
theorem dX8_init_0 : decode cX8_init 0 = .ok (.aload_n 0, 1) := by decide +kernel
theorem dX8_init_1 : decode cX8_init 1 = .ok (.invokespecial 3, 3) := by decide +kernel
theorem dX8_init_4 : decode cX8_init 4 = .ok (.aload_n 0, 1) := by decide +kernel
theorem dX8_init_5 : decode cX8_init 5 = .ok (.sipush 512, 3) := by decide +kernel
theorem dX8_init_8 : decode cX8_init 8 = .ok (.newarray .int, 2) := by decide +kernel
theorem dX8_init_10 : decode cX8_init 10 = .ok (.putfield 9, 3) := by decide +kernel
theorem dX8_init_13 : decode cX8_init 13 = .ok (.aload_n 0, 1) := by decide +kernel
theorem dX8_init_14 : decode cX8_init 14 = .ok (.iconst 0, 1) := by decide +kernel
theorem dX8_init_15 : decode cX8_init 15 = .ok (.putfield 15, 3) := by decide +kernel
theorem dX8_init_18 : decode cX8_init 18 = .ok (.return_, 1) := by decide +kernel
def g0X8 : Gs := g00
theorem dfX8 : ∀ j, j < 2 → defaultValue (tyX8 j) = vp_V ((List.range 2).map (dfl kdX8)) j := by decide +kernel
set_option maxHeartbeats 4000000 in
set_option maxRecDepth 100000 in
theorem n_X8_init (l : Launch) (D : Dx) (h : Nat) (sz : Nat) : Met l yX8_init (ws_ yX8_init cX8_init 1 none) { frames := 1, cells := 1, slots := 512, locals := 40 } (PC D [] [.ref h] [(h, .inr (8, (List.range 2).map (dfl kdX8)))] sz) (QN D (fun u : AY => True) (va_A [(h, .inr (8, (List.range 2).map (dfl kdX8)))] sz) (fun u => wX8 h u.1 u.2 g0X8) (fun u => tX8 u.2)) 1 512 (va_A [(h, .inr (8, (List.range 2).map (dfl kdX8)))] sz) := by
  refine Met.ofW (cc := cX8_init) (maxL := 1) (ret := none) (by decide) rfl ?_
  intro p e s m args below meth c s₁ B hml hv
  obtain ⟨rfl, hsz, hP, hK, hD, hN⟩ := hv
  subst hsz
  have C : Cx p s m _ meth c cX8_init none 1 RX8 lw_all := Cx_of B hml
  have X := Hx_start hP hK hD hN
  have hin : meth.name = "<init>" := (name_of_methodNamed B.named B.method).1
  obtain ⟨hx, hb, hr, -, hown, hts, hlk⟩ := id C
  generalize va_A [(h, .inr (8, (List.range 2).map (dfl kdX8)))] s.heap.size = A at X ⊢
  have hl := lv_entry ([.ref h]) (n := 1) (Nat.le_of_ble_eq_true rfl)
  rw [lg_entry_eq]
  generalize (lg_sl ([.ref h]) ++ List.replicate (1 - (lg_sl ([.ref h])).length) Slot.unset).toArray = ls at hl ⊢
  have hl : lv_has ls 1 [(0, .ref h)] := hl
  refine lv_aload_n hx hb dX8_init_0 rfl (lv_at hl 0 rfl) ?_
  refine W.objInit hx hb hown (hts _ q2_221) (hts _ q1_31) (hts _ q1_32) rfl (by rw [hml]; exact hl.1) rfl dX8_init_1 (Nat.le_of_ble_eq_true rfl) (Nat.le_of_ble_eq_true rfl) ?_
  refine W.eq (g2 := F0 m 4 ls []) rfl ?_
  refine lv_aload_n hx hb dX8_init_4 rfl (lv_at hl 0 rfl) ?_
  refine lv_sipush (v := (512 : Int32)) hx hb dX8_init_5 (by decide) ?_
  refine va_newa (atype := .int) (a0 := (512, .inl (fun _ => 0))) (N' := 512) hx hb (hts (.arrayClass .int) q1_129) rfl X.1 X.2.1 X.2.2.1 X.2.2.2.1 X.2.2.2.2.1 (fun _ => rfl) (by decide) (by decide) (by decide) (Nat.le_of_ble_eq_true rfl) (Nat.le_of_ble_eq_true rfl) dX8_init_8 (fun q1 y1 H hK hP hD hS => ?_)
  have X : Hx D [(y1, .int)] A s H [] [(h, .inr (8, (List.range 2).map (dfl kdX8))), (q1, .inl (y1, 512, .inl (fun _ => 0)))] := ⟨hK, hP, hD, hS, X.2.2.2.2⟩
  refine W.widen (k := 1) (n := 512) (Nat.le_of_ble_eq_true rfl) (Nat.le_of_ble_eq_true rfl) ?_
  refine va_putF (D := D.1) (ci := 8) (v := .ref q1) (ty := tyX8 0) (C := RX8) (T := TX8) (N := 2) hx hb hts wi_X8 tyX8 tyX8_ok nmX8 hown X.1 X.2.1 X.2.2.1 X.2.2.2.1 0 rfl rfl 0 (by decide) (hts _ q2_222) (fun _ h9 => h9) rfl hin rfl (by decide +kernel) rfl rfl (by rw [List.length_map, List.length_range]; decide) dX8_init_10 (fun H locs hP hD hS => ?_)
  have X : Hx D [(y1, .int)] A s H locs [(h, .inr (8, (List.range 2).map (va_up (dfl kdX8) 0 (.ref q1)))), (q1, .inl (y1, 512, .inl (fun _ => 0)))] := Hx_set X obj_set hP hD hS
  refine lv_aload_n hx hb dX8_init_13 rfl (lv_at hl 0 rfl) ?_
  refine lv_iconst (v := (0 : Int32)) hx hb dX8_init_14 (by decide) ?_
  refine va_put (D := D.1) (ci := 8) (v := .int (0 : Int32)) (ty := tyX8 1) (C := RX8) (T := TX8) (N := 2) hx hb hts wi_X8 tyX8 tyX8_ok nmX8 hown X.1 X.2.1 X.2.2.1 X.2.2.2.1 0 rfl rfl 1 (by decide) (hts _ q2_223) (fun _ h9 => h9) rfl (by decide +kernel) rfl rfl (by rw [List.length_map, List.length_range]; decide) dX8_init_15 (fun H locs hP hD hS => ?_)
  have X : Hx D [(y1, .int)] A s H locs [(h, .inr (8, (List.range 2).map (va_up (va_up (dfl kdX8) 0 (.ref q1)) 1 (.int (0 : Int32))))), (q1, .inl (y1, 512, .inl (fun _ => 0)))] := Hx_set X obj_set hP hD hS
  have e1 : (List.range 2).map (va_up (va_up (dfl kdX8) 0 (.ref q1)) 1 (.int (0 : Int32))) = (List.range 2).map (fld kdX8 (fun k => ([q1, 0] : List Nat).getD k 0) g0X8) := by rfl
  have e2 : ([(q1, .inl (y1, 512, .inl (fun _ => 0)))] : va_W) = ksX8.map (arF akX8 lnX8 (fun k => ([q1, 0] : List Nat).getD k 0) (fun k => ([y1, y1] : List ClassId).getD k y1) g0X8) := by rfl
  have X := X
  have hP9 : va_P D.1 vwCl (wX8 h (fun k => ([q1, 0] : List Nat).getD k 0) (fun k => ([y1, y1] : List ClassId).getD k y1) g0X8) H := obj_P e1 e2 X.2.1
  have hD9 : va_D A (wX8 h (fun k => ([q1, 0] : List Nat).getD k 0) (fun k => ([y1, y1] : List ClassId).getD k y1) g0X8) := obj_D e1 e2 X.2.2.1
  have hK9 : va_K D.1 vwCl (tX8 (fun k => ([y1, y1] : List ClassId).getD k y1)) s := X.1
  exact W.vret hx hb hr (fun t ht hW => ⟨⟨((fun k => ([q1, 0] : List Nat).getD k 0), (fun k => ([y1, y1] : List ClassId).getD k y1)), rfl, trivial, by rw [ht]; exact hP9, va_K.moved hW.alike hK9, hD9⟩, X.2.2.2.1.F ht⟩) X.2.2.2.1.2.2 dX8_init_18 hlk

/-! ### X7_init -/
theorem dX7_init_0 : decode cX7_init 0 = .ok (.aload_n 0, 1) := by decide +kernel
theorem dX7_init_1 : decode cX7_init 1 = .ok (.invokespecial 3, 3) := by decide +kernel
theorem dX7_init_4 : decode cX7_init 4 = .ok (.aload_n 0, 1) := by decide +kernel
theorem dX7_init_5 : decode cX7_init 5 = .ok (.iconst 0, 1) := by decide +kernel
theorem dX7_init_6 : decode cX7_init 6 = .ok (.putfield 9, 3) := by decide +kernel
theorem dX7_init_9 : decode cX7_init 9 = .ok (.aload_n 0, 1) := by decide +kernel
theorem dX7_init_10 : decode cX7_init 10 = .ok (.iconst 0, 1) := by decide +kernel
theorem dX7_init_11 : decode cX7_init 11 = .ok (.putfield 15, 3) := by decide +kernel
theorem dX7_init_14 : decode cX7_init 14 = .ok (.aload_n 0, 1) := by decide +kernel
theorem dX7_init_15 : decode cX7_init 15 = .ok (.iconst 0, 1) := by decide +kernel
theorem dX7_init_16 : decode cX7_init 16 = .ok (.putfield 18, 3) := by decide +kernel
theorem dX7_init_19 : decode cX7_init 19 = .ok (.aload_n 0, 1) := by decide +kernel
theorem dX7_init_20 : decode cX7_init 20 = .ok (.iconst 0, 1) := by decide +kernel
theorem dX7_init_21 : decode cX7_init 21 = .ok (.putfield 21, 3) := by decide +kernel
theorem dX7_init_24 : decode cX7_init 24 = .ok (.aload_n 0, 1) := by decide +kernel
theorem dX7_init_25 : decode cX7_init 25 = .ok (.iconst 0, 1) := by decide +kernel
theorem dX7_init_26 : decode cX7_init 26 = .ok (.putfield 24, 3) := by decide +kernel
theorem dX7_init_29 : decode cX7_init 29 = .ok (.aload_n 0, 1) := by decide +kernel
theorem dX7_init_30 : decode cX7_init 30 = .ok (.iconst 4, 1) := by decide +kernel
theorem dX7_init_31 : decode cX7_init 31 = .ok (.putfield 27, 3) := by decide +kernel
theorem dX7_init_34 : decode cX7_init 34 = .ok (.aload_n 0, 1) := by decide +kernel
theorem dX7_init_35 : decode cX7_init 35 = .ok (.lconst 0, 1) := by decide +kernel
theorem dX7_init_36 : decode cX7_init 36 = .ok (.putfield 30, 3) := by decide +kernel
theorem dX7_init_39 : decode cX7_init 39 = .ok (.aload_n 0, 1) := by decide +kernel
theorem dX7_init_40 : decode cX7_init 40 = .ok (.dconst 0, 1) := by decide +kernel
theorem dX7_init_41 : decode cX7_init 41 = .ok (.putfield 34, 3) := by decide +kernel
theorem dX7_init_44 : decode cX7_init 44 = .ok (.aload_n 0, 1) := by decide +kernel
theorem dX7_init_45 : decode cX7_init 45 = .ok (.iconst 0, 1) := by decide +kernel
theorem dX7_init_46 : decode cX7_init 46 = .ok (.putfield 38, 3) := by decide +kernel
theorem dX7_init_49 : decode cX7_init 49 = .ok (.aload_n 0, 1) := by decide +kernel
theorem dX7_init_50 : decode cX7_init 50 = .ok (.iconst 0, 1) := by decide +kernel
theorem dX7_init_51 : decode cX7_init 51 = .ok (.putfield 41, 3) := by decide +kernel
theorem dX7_init_54 : decode cX7_init 54 = .ok (.aload_n 0, 1) := by decide +kernel
theorem dX7_init_55 : decode cX7_init 55 = .ok (.aload_n 1, 1) := by decide +kernel
theorem dX7_init_56 : decode cX7_init 56 = .ok (.putfield 45, 3) := by decide +kernel
theorem dX7_init_59 : decode cX7_init 59 = .ok (.aload_n 0, 1) := by decide +kernel
theorem dX7_init_60 : decode cX7_init 60 = .ok (.aload_n 2, 1) := by decide +kernel
theorem dX7_init_61 : decode cX7_init 61 = .ok (.putfield 49, 3) := by decide +kernel
theorem dX7_init_64 : decode cX7_init 64 = .ok (.return_, 1) := by decide +kernel
def g0X7 : Gs := (sI g00 7 (4 : Int32))
theorem dfX7 : ∀ j, j < 12 → defaultValue (tyX7 j) = vp_V ((List.range 12).map (dfl kdX7)) j := by decide +kernel
set_option maxHeartbeats 4000000 in
set_option maxRecDepth 100000 in
theorem n_X7_init (l : Launch) (D : Dx) (h : Nat) (r0 : Nat) (r1 : Nat) (sz : Nat) : Met l yX7_init (ws_ yX7_init cX7_init 3 none) { frames := 1, cells := 0, slots := 0, locals := 40 } (PC D [] [.ref h, .ref r0, .ref r1] [(h, .inr (7, (List.range 12).map (dfl kdX7)))] sz) (QN D (fun u : AY => u.1 0 = r0 ∧ u.1 1 = r1) (va_A [(h, .inr (7, (List.range 12).map (dfl kdX7)))] sz) (fun u => wX7 h u.1 u.2 g0X7) (fun u => tX7 u.2)) 0 0 (va_A [(h, .inr (7, (List.range 12).map (dfl kdX7)))] sz) := by
  refine Met.ofW (cc := cX7_init) (maxL := 3) (ret := none) (by decide) rfl ?_
  intro p e s m args below meth c s₁ B hml hv
  obtain ⟨rfl, hsz, hP, hK, hD, hN⟩ := hv
  subst hsz
  have C : Cx p s m _ meth c cX7_init none 3 RX7 lw_all := Cx_of B hml
  have X := Hx_start hP hK hD hN
  have hin : meth.name = "<init>" := (name_of_methodNamed B.named B.method).1
  obtain ⟨hx, hb, hr, -, hown, hts, hlk⟩ := id C
  generalize va_A [(h, .inr (7, (List.range 12).map (dfl kdX7)))] s.heap.size = A at X ⊢
  have hl := lv_entry ([.ref h, .ref r0, .ref r1]) (n := 3) (Nat.le_of_ble_eq_true rfl)
  rw [lg_entry_eq]
  generalize (lg_sl ([.ref h, .ref r0, .ref r1]) ++ List.replicate (3 - (lg_sl ([.ref h, .ref r0, .ref r1])).length) Slot.unset).toArray = ls at hl ⊢
  have hl : lv_has ls 3 [(0, .ref h), (1, .ref r0), (2, .ref r1)] := hl
  refine lv_aload_n hx hb dX7_init_0 rfl (lv_at hl 0 rfl) ?_
  refine W.objInit hx hb hown (hts _ q2_234) (hts _ q1_31) (hts _ q1_32) rfl (by rw [hml]; exact hl.1) rfl dX7_init_1 (Nat.le_of_ble_eq_true rfl) (Nat.le_of_ble_eq_true rfl) ?_
  refine W.eq (g2 := F0 m 4 ls []) rfl ?_
  refine lv_aload_n hx hb dX7_init_4 rfl (lv_at hl 0 rfl) ?_
  refine lv_iconst (v := (0 : Int32)) hx hb dX7_init_5 (by decide) ?_
  refine va_put (D := D.1) (ci := 7) (v := .int (0 : Int32)) (ty := tyX7 2) (C := RX7) (T := TX7) (N := 12) hx hb hts wi_X7 tyX7 tyX7_ok nmX7 hown X.1 X.2.1 X.2.2.1 X.2.2.2.1 0 rfl rfl 2 (by decide) (hts _ q2_237) (fun _ h9 => h9) rfl (by decide +kernel) rfl rfl (by rw [List.length_map, List.length_range]; decide) dX7_init_6 (fun H locs hP hD hS => ?_)
  have X : Hx D [] A s H locs [(h, .inr (7, (List.range 12).map (va_up (dfl kdX7) 2 (.int (0 : Int32)))))] := Hx_set X obj_set hP hD hS
  refine lv_aload_n hx hb dX7_init_9 rfl (lv_at hl 0 rfl) ?_
  refine lv_iconst (v := (0 : Int32)) hx hb dX7_init_10 (by decide) ?_
  refine va_put (D := D.1) (ci := 7) (v := .int (0 : Int32)) (ty := tyX7 3) (C := RX7) (T := TX7) (N := 12) hx hb hts wi_X7 tyX7 tyX7_ok nmX7 hown X.1 X.2.1 X.2.2.1 X.2.2.2.1 0 rfl rfl 3 (by decide) (hts _ q2_238) (fun _ h9 => h9) rfl (by decide +kernel) rfl rfl (by rw [List.length_map, List.length_range]; decide) dX7_init_11 (fun H locs hP hD hS => ?_)
  have X : Hx D [] A s H locs [(h, .inr (7, (List.range 12).map (va_up (va_up (dfl kdX7) 2 (.int (0 : Int32))) 3 (.int (0 : Int32)))))] := Hx_set X obj_set hP hD hS
  refine lv_aload_n hx hb dX7_init_14 rfl (lv_at hl 0 rfl) ?_
  refine lv_iconst (v := (0 : Int32)) hx hb dX7_init_15 (by decide) ?_
  refine va_put (D := D.1) (ci := 7) (v := .int (0 : Int32)) (ty := tyX7 4) (C := RX7) (T := TX7) (N := 12) hx hb hts wi_X7 tyX7 tyX7_ok nmX7 hown X.1 X.2.1 X.2.2.1 X.2.2.2.1 0 rfl rfl 4 (by decide) (hts _ q2_239) (fun _ h9 => h9) rfl (by decide +kernel) rfl rfl (by rw [List.length_map, List.length_range]; decide) dX7_init_16 (fun H locs hP hD hS => ?_)
  have X : Hx D [] A s H locs [(h, .inr (7, (List.range 12).map (va_up (va_up (va_up (dfl kdX7) 2 (.int (0 : Int32))) 3 (.int (0 : Int32))) 4 (.int (0 : Int32)))))] := Hx_set X obj_set hP hD hS
  refine lv_aload_n hx hb dX7_init_19 rfl (lv_at hl 0 rfl) ?_
  refine lv_iconst (v := (0 : Int32)) hx hb dX7_init_20 (by decide) ?_
  refine va_put (D := D.1) (ci := 7) (v := .int (0 : Int32)) (ty := tyX7 5) (C := RX7) (T := TX7) (N := 12) hx hb hts wi_X7 tyX7 tyX7_ok nmX7 hown X.1 X.2.1 X.2.2.1 X.2.2.2.1 0 rfl rfl 5 (by decide) (hts _ q3_1) (fun _ h9 => h9) rfl (by decide +kernel) rfl rfl (by rw [List.length_map, List.length_range]; decide) dX7_init_21 (fun H locs hP hD hS => ?_)
  have X : Hx D [] A s H locs [(h, .inr (7, (List.range 12).map (va_up (va_up (va_up (va_up (dfl kdX7) 2 (.int (0 : Int32))) 3 (.int (0 : Int32))) 4 (.int (0 : Int32))) 5 (.int (0 : Int32)))))] := Hx_set X obj_set hP hD hS
  refine lv_aload_n hx hb dX7_init_24 rfl (lv_at hl 0 rfl) ?_
  refine lv_iconst (v := (0 : Int32)) hx hb dX7_init_25 (by decide) ?_
  refine va_put (D := D.1) (ci := 7) (v := .int (0 : Int32)) (ty := tyX7 6) (C := RX7) (T := TX7) (N := 12) hx hb hts wi_X7 tyX7 tyX7_ok nmX7 hown X.1 X.2.1 X.2.2.1 X.2.2.2.1 0 rfl rfl 6 (by decide) (hts _ q3_3) (fun _ h9 => h9) rfl (by decide +kernel) rfl rfl (by rw [List.length_map, List.length_range]; decide) dX7_init_26 (fun H locs hP hD hS => ?_)
  have X : Hx D [] A s H locs [(h, .inr (7, (List.range 12).map (va_up (va_up (va_up (va_up (va_up (dfl kdX7) 2 (.int (0 : Int32))) 3 (.int (0 : Int32))) 4 (.int (0 : Int32))) 5 (.int (0 : Int32))) 6 (.int (0 : Int32)))))] := Hx_set X obj_set hP hD hS
  refine lv_aload_n hx hb dX7_init_29 rfl (lv_at hl 0 rfl) ?_
  refine lv_iconst (v := (4 : Int32)) hx hb dX7_init_30 (by decide) ?_
  refine va_put (D := D.1) (ci := 7) (v := .int (4 : Int32)) (ty := tyX7 7) (C := RX7) (T := TX7) (N := 12) hx hb hts wi_X7 tyX7 tyX7_ok nmX7 hown X.1 X.2.1 X.2.2.1 X.2.2.2.1 0 rfl rfl 7 (by decide) (hts _ q3_5) (fun _ h9 => h9) rfl (by decide +kernel) rfl rfl (by rw [List.length_map, List.length_range]; decide) dX7_init_31 (fun H locs hP hD hS => ?_)
  have X : Hx D [] A s H locs [(h, .inr (7, (List.range 12).map (va_up (va_up (va_up (va_up (va_up (va_up (dfl kdX7) 2 (.int (0 : Int32))) 3 (.int (0 : Int32))) 4 (.int (0 : Int32))) 5 (.int (0 : Int32))) 6 (.int (0 : Int32))) 7 (.int (4 : Int32)))))] := Hx_set X obj_set hP hD hS
  refine lv_aload_n hx hb dX7_init_34 rfl (lv_at hl 0 rfl) ?_
  refine lv_lconst (v := (0 : Int64)) hx hb dX7_init_35 (by decide) ?_
  refine va_put (D := D.1) (ci := 7) (v := .long (0 : Int64)) (ty := tyX7 8) (C := RX7) (T := TX7) (N := 12) hx hb hts wi_X7 tyX7 tyX7_ok nmX7 hown X.1 X.2.1 X.2.2.1 X.2.2.2.1 0 rfl rfl 8 (by decide) (hts _ q3_7) (fun _ h9 => h9) rfl (by decide +kernel) rfl rfl (by rw [List.length_map, List.length_range]; decide) dX7_init_36 (fun H locs hP hD hS => ?_)
  have X : Hx D [] A s H locs [(h, .inr (7, (List.range 12).map (va_up (va_up (va_up (va_up (va_up (va_up (va_up (dfl kdX7) 2 (.int (0 : Int32))) 3 (.int (0 : Int32))) 4 (.int (0 : Int32))) 5 (.int (0 : Int32))) 6 (.int (0 : Int32))) 7 (.int (4 : Int32))) 8 (.long (0 : Int64)))))] := Hx_set X obj_set hP hD hS
  refine lv_aload_n hx hb dX7_init_39 rfl (lv_at hl 0 rfl) ?_
  refine lv_dconst0 hx hb dX7_init_40 ?_
  refine va_put (D := D.1) (ci := 7) (v := .double FP.dconst0) (ty := tyX7 9) (C := RX7) (T := TX7) (N := 12) hx hb hts wi_X7 tyX7 tyX7_ok nmX7 hown X.1 X.2.1 X.2.2.1 X.2.2.2.1 0 rfl rfl 9 (by decide) (hts _ q3_9) (fun _ h9 => h9) rfl (by decide +kernel) rfl rfl (by rw [List.length_map, List.length_range]; decide) dX7_init_41 (fun H locs hP hD hS => ?_)
  have X : Hx D [] A s H locs [(h, .inr (7, (List.range 12).map (va_up (va_up (va_up (va_up (va_up (va_up (va_up (va_up (dfl kdX7) 2 (.int (0 : Int32))) 3 (.int (0 : Int32))) 4 (.int (0 : Int32))) 5 (.int (0 : Int32))) 6 (.int (0 : Int32))) 7 (.int (4 : Int32))) 8 (.long (0 : Int64))) 9 (.double FP.dconst0))))] := Hx_set X obj_set hP hD hS
  refine lv_aload_n hx hb dX7_init_44 rfl (lv_at hl 0 rfl) ?_
  refine lv_iconst (v := (0 : Int32)) hx hb dX7_init_45 (by decide) ?_
  refine va_put (D := D.1) (ci := 7) (v := .int (0 : Int32)) (ty := tyX7 10) (C := RX7) (T := TX7) (N := 12) hx hb hts wi_X7 tyX7 tyX7_ok nmX7 hown X.1 X.2.1 X.2.2.1 X.2.2.2.1 0 rfl rfl 10 (by decide) (hts _ q3_11) (fun _ h9 => h9) rfl (by decide +kernel) rfl rfl (by rw [List.length_map, List.length_range]; decide) dX7_init_46 (fun H locs hP hD hS => ?_)
  have X : Hx D [] A s H locs [(h, .inr (7, (List.range 12).map (va_up (va_up (va_up (va_up (va_up (va_up (va_up (va_up (va_up (dfl kdX7) 2 (.int (0 : Int32))) 3 (.int (0 : Int32))) 4 (.int (0 : Int32))) 5 (.int (0 : Int32))) 6 (.int (0 : Int32))) 7 (.int (4 : Int32))) 8 (.long (0 : Int64))) 9 (.double FP.dconst0)) 10 (.int (0 : Int32)))))] := Hx_set X obj_set hP hD hS
  refine lv_aload_n hx hb dX7_init_49 rfl (lv_at hl 0 rfl) ?_
  refine lv_iconst (v := (0 : Int32)) hx hb dX7_init_50 (by decide) ?_
  refine va_put (D := D.1) (ci := 7) (v := .int (0 : Int32)) (ty := tyX7 11) (C := RX7) (T := TX7) (N := 12) hx hb hts wi_X7 tyX7 tyX7_ok nmX7 hown X.1 X.2.1 X.2.2.1 X.2.2.2.1 0 rfl rfl 11 (by decide) (hts _ q3_12) (fun _ h9 => h9) rfl (by decide +kernel) rfl rfl (by rw [List.length_map, List.length_range]; decide) dX7_init_51 (fun H locs hP hD hS => ?_)
  have X : Hx D [] A s H locs [(h, .inr (7, (List.range 12).map (va_up (va_up (va_up (va_up (va_up (va_up (va_up (va_up (va_up (va_up (dfl kdX7) 2 (.int (0 : Int32))) 3 (.int (0 : Int32))) 4 (.int (0 : Int32))) 5 (.int (0 : Int32))) 6 (.int (0 : Int32))) 7 (.int (4 : Int32))) 8 (.long (0 : Int64))) 9 (.double FP.dconst0)) 10 (.int (0 : Int32))) 11 (.int (0 : Int32)))))] := Hx_set X obj_set hP hD hS
  refine lv_aload_n hx hb dX7_init_54 rfl (lv_at hl 0 rfl) ?_
  refine lv_aload_n hx hb dX7_init_55 rfl (lv_at hl 1 rfl) ?_
  refine va_putF (D := D.1) (ci := 7) (v := .ref r0) (ty := tyX7 0) (C := RX7) (T := TX7) (N := 12) hx hb hts wi_X7 tyX7 tyX7_ok nmX7 hown X.1 X.2.1 X.2.2.1 X.2.2.2.1 0 rfl rfl 0 (by decide) (hts _ q2_235) (fun _ h9 => h9) rfl hin rfl (by decide +kernel) rfl rfl (by rw [List.length_map, List.length_range]; decide) dX7_init_56 (fun H locs hP hD hS => ?_)
  have X : Hx D [] A s H locs [(h, .inr (7, (List.range 12).map (va_up (va_up (va_up (va_up (va_up (va_up (va_up (va_up (va_up (va_up (va_up (dfl kdX7) 2 (.int (0 : Int32))) 3 (.int (0 : Int32))) 4 (.int (0 : Int32))) 5 (.int (0 : Int32))) 6 (.int (0 : Int32))) 7 (.int (4 : Int32))) 8 (.long (0 : Int64))) 9 (.double FP.dconst0)) 10 (.int (0 : Int32))) 11 (.int (0 : Int32))) 0 (.ref r0))))] := Hx_set X obj_set hP hD hS
  refine lv_aload_n hx hb dX7_init_59 rfl (lv_at hl 0 rfl) ?_
  refine lv_aload_n hx hb dX7_init_60 rfl (lv_at hl 2 rfl) ?_
  refine va_putF (D := D.1) (ci := 7) (v := .ref r1) (ty := tyX7 1) (C := RX7) (T := TX7) (N := 12) hx hb hts wi_X7 tyX7 tyX7_ok nmX7 hown X.1 X.2.1 X.2.2.1 X.2.2.2.1 0 rfl rfl 1 (by decide) (hts _ q2_236) (fun _ h9 => h9) rfl hin rfl (by decide +kernel) rfl rfl (by rw [List.length_map, List.length_range]; decide) dX7_init_61 (fun H locs hP hD hS => ?_)
  have X : Hx D [] A s H locs [(h, .inr (7, (List.range 12).map (va_up (va_up (va_up (va_up (va_up (va_up (va_up (va_up (va_up (va_up (va_up (va_up (dfl kdX7) 2 (.int (0 : Int32))) 3 (.int (0 : Int32))) 4 (.int (0 : Int32))) 5 (.int (0 : Int32))) 6 (.int (0 : Int32))) 7 (.int (4 : Int32))) 8 (.long (0 : Int64))) 9 (.double FP.dconst0)) 10 (.int (0 : Int32))) 11 (.int (0 : Int32))) 0 (.ref r0)) 1 (.ref r1))))] := Hx_set X obj_set hP hD hS
  have e1 : (List.range 12).map (va_up (va_up (va_up (va_up (va_up (va_up (va_up (va_up (va_up (va_up (va_up (va_up (dfl kdX7) 2 (.int (0 : Int32))) 3 (.int (0 : Int32))) 4 (.int (0 : Int32))) 5 (.int (0 : Int32))) 6 (.int (0 : Int32))) 7 (.int (4 : Int32))) 8 (.long (0 : Int64))) 9 (.double FP.dconst0)) 10 (.int (0 : Int32))) 11 (.int (0 : Int32))) 0 (.ref r0)) 1 (.ref r1)) = (List.range 12).map (fld kdX7 (fun k => ([r0, r1, 0, 0, 0, 0, 0, 0, 0, 0, 0, 0] : List Nat).getD k 0) g0X7) := by rfl
  have e2 : ([] : va_W) = ksX7.map (arF akX7 lnX7 (fun k => ([r0, r1, 0, 0, 0, 0, 0, 0, 0, 0, 0, 0] : List Nat).getD k 0) (fun _ => m.cls) g0X7) := by rfl
  have X := X
  have hP9 : va_P D.1 vwCl (wX7 h (fun k => ([r0, r1, 0, 0, 0, 0, 0, 0, 0, 0, 0, 0] : List Nat).getD k 0) (fun _ => m.cls) g0X7) H := obj_P e1 e2 X.2.1
  have hD9 : va_D A (wX7 h (fun k => ([r0, r1, 0, 0, 0, 0, 0, 0, 0, 0, 0, 0] : List Nat).getD k 0) (fun _ => m.cls) g0X7) := obj_D e1 e2 X.2.2.1
  have hK9 : va_K D.1 vwCl (tX7 (fun _ => m.cls)) s := X.1
  exact W.vret hx hb hr (fun t ht hW => ⟨⟨((fun k => ([r0, r1, 0, 0, 0, 0, 0, 0, 0, 0, 0, 0] : List Nat).getD k 0), (fun _ => m.cls)), rfl, ⟨rfl, rfl⟩, by rw [ht]; exact hP9, va_K.moved hW.alike hK9, hD9⟩, X.2.2.2.1.F ht⟩) X.2.2.2.1.2.2 dX7_init_64 hlk

/-! ### X2_init -/
theorem dX2_init_0 : decode cX2_init 0 = .ok (.aload_n 0, 1) := by decide +kernel
theorem dX2_init_1 : decode cX2_init 1 = .ok (.invokespecial 3, 3) := by decide +kernel
theorem dX2_init_4 : decode cX2_init 4 = .ok (.aload_n 0, 1) := by decide +kernel
theorem dX2_init_5 : decode cX2_init 5 = .ok (.iconst (-1), 1) := by decide +kernel
theorem dX2_init_6 : decode cX2_init 6 = .ok (.putfield 9, 3) := by decide +kernel
theorem dX2_init_9 : decode cX2_init 9 = .ok (.aload_n 0, 1) := by decide +kernel
theorem dX2_init_10 : decode cX2_init 10 = .ok (.aload_n 1, 1) := by decide +kernel
theorem dX2_init_11 : decode cX2_init 11 = .ok (.putfield 15, 3) := by decide +kernel
theorem dX2_init_14 : decode cX2_init 14 = .ok (.return_, 1) := by decide +kernel
def g0X2 : Gs := (sI g00 1 (-1 : Int32))
theorem dfX2 : ∀ j, j < 2 → defaultValue (tyX2 j) = vp_V ((List.range 2).map (dfl kdX2)) j := by decide +kernel
set_option maxHeartbeats 4000000 in
set_option maxRecDepth 100000 in
theorem n_X2_init (l : Launch) (D : Dx) (h : Nat) (r0 : Nat) (sz : Nat) : Met l yX2_init (ws_ yX2_init cX2_init 2 none) { frames := 1, cells := 0, slots := 0, locals := 40 } (PC D [] [.ref h, .ref r0] [(h, .inr (2, (List.range 2).map (dfl kdX2)))] sz) (QN D (fun u : AY => u.1 0 = r0) (va_A [(h, .inr (2, (List.range 2).map (dfl kdX2)))] sz) (fun u => wX2 h u.1 u.2 g0X2) (fun u => tX2 u.2)) 0 0 (va_A [(h, .inr (2, (List.range 2).map (dfl kdX2)))] sz) := by
  refine Met.ofW (cc := cX2_init) (maxL := 2) (ret := none) (by decide) rfl ?_
  intro p e s m args below meth c s₁ B hml hv
  obtain ⟨rfl, hsz, hP, hK, hD, hN⟩ := hv
  subst hsz
  have C : Cx p s m _ meth c cX2_init none 2 RX2 lw_all := Cx_of B hml
  have X := Hx_start hP hK hD hN
  have hin : meth.name = "<init>" := (name_of_methodNamed B.named B.method).1
  obtain ⟨hx, hb, hr, -, hown, hts, hlk⟩ := id C
  generalize va_A [(h, .inr (2, (List.range 2).map (dfl kdX2)))] s.heap.size = A at X ⊢
  have hl := lv_entry ([.ref h, .ref r0]) (n := 2) (Nat.le_of_ble_eq_true rfl)
  rw [lg_entry_eq]
  generalize (lg_sl ([.ref h, .ref r0]) ++ List.replicate (2 - (lg_sl ([.ref h, .ref r0])).length) Slot.unset).toArray = ls at hl ⊢
  have hl : lv_has ls 2 [(0, .ref h), (1, .ref r0)] := hl
  refine lv_aload_n hx hb dX2_init_0 rfl (lv_at hl 0 rfl) ?_
  refine W.objInit hx hb hown (hts _ q3_43) (hts _ q1_31) (hts _ q1_32) rfl (by rw [hml]; exact hl.1) rfl dX2_init_1 (Nat.le_of_ble_eq_true rfl) (Nat.le_of_ble_eq_true rfl) ?_
  refine W.eq (g2 := F0 m 4 ls []) rfl ?_
  refine lv_aload_n hx hb dX2_init_4 rfl (lv_at hl 0 rfl) ?_
  refine lv_iconst (v := (-1 : Int32)) hx hb dX2_init_5 (by decide) ?_
  refine va_put (D := D.1) (ci := 2) (v := .int (-1 : Int32)) (ty := tyX2 1) (C := RX2) (T := TX2) (N := 2) hx hb hts wi_X2 tyX2 tyX2_ok nmX2 hown X.1 X.2.1 X.2.2.1 X.2.2.2.1 0 rfl rfl 1 (by decide) (hts _ q3_45) (fun _ h9 => h9) rfl (by decide +kernel) rfl rfl (by rw [List.length_map, List.length_range]; decide) dX2_init_6 (fun H locs hP hD hS => ?_)
  have X : Hx D [] A s H locs [(h, .inr (2, (List.range 2).map (va_up (dfl kdX2) 1 (.int (-1 : Int32)))))] := Hx_set X obj_set hP hD hS
  refine lv_aload_n hx hb dX2_init_9 rfl (lv_at hl 0 rfl) ?_
  refine lv_aload_n hx hb dX2_init_10 rfl (lv_at hl 1 rfl) ?_
  refine va_putF (D := D.1) (ci := 2) (v := .ref r0) (ty := tyX2 0) (C := RX2) (T := TX2) (N := 2) hx hb hts wi_X2 tyX2 tyX2_ok nmX2 hown X.1 X.2.1 X.2.2.1 X.2.2.2.1 0 rfl rfl 0 (by decide) (hts _ q3_44) (fun _ h9 => h9) rfl hin rfl (by decide +kernel) rfl rfl (by rw [List.length_map, List.length_range]; decide) dX2_init_11 (fun H locs hP hD hS => ?_)
  have X : Hx D [] A s H locs [(h, .inr (2, (List.range 2).map (va_up (va_up (dfl kdX2) 1 (.int (-1 : Int32))) 0 (.ref r0))))] := Hx_set X obj_set hP hD hS
  have e1 : (List.range 2).map (va_up (va_up (dfl kdX2) 1 (.int (-1 : Int32))) 0 (.ref r0)) = (List.range 2).map (fld kdX2 (fun k => ([r0, 0] : List Nat).getD k 0) g0X2) := by rfl
  have e2 : ([] : va_W) = ksX2.map (arF akX2 lnX2 (fun k => ([r0, 0] : List Nat).getD k 0) (fun _ => m.cls) g0X2) := by rfl
  have X := X
  have hP9 : va_P D.1 vwCl (wX2 h (fun k => ([r0, 0] : List Nat).getD k 0) (fun _ => m.cls) g0X2) H := obj_P e1 e2 X.2.1
  have hD9 : va_D A (wX2 h (fun k => ([r0, 0] : List Nat).getD k 0) (fun _ => m.cls) g0X2) := obj_D e1 e2 X.2.2.1
  have hK9 : va_K D.1 vwCl (tX2 (fun _ => m.cls)) s := X.1
  exact W.vret hx hb hr (fun t ht hW => ⟨⟨((fun k => ([r0, 0] : List Nat).getD k 0), (fun _ => m.cls)), rfl, rfl, by rw [ht]; exact hP9, va_K.moved hW.alike hK9, hD9⟩, X.2.2.2.1.F ht⟩) X.2.2.2.1.2.2 dX2_init_14 hlk
