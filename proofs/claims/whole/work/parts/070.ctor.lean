/-! constructors -/
def dfl (kd : Nat → Nat) (k : Nat) : Value := match kd k with
  | 0 => .int 0
  | 1 => .long 0
  | 2 => .double 0
  | _ => .null
def g00 : Gs := (fun _ => 0, fun _ => 0, fun _ => 0, fun _ _ => 0, fun _ _ => 0, fun _ _ => 0, fun _ => none)
def QN (D : Dx) {S : Type} (post : S → Prop) (A : Nat → Prop) (w : S → va_W) (t : S → List (ClassId × FieldType)) : Array Value → State → Outcome → State → Prop :=
  va_Qv post (fun u st => va_P D.1 vwCl (w u) st.heap ∧ va_K D.1 vwCl (t u) st ∧ va_D A (w u)) A
abbrev AY : Type := (Nat → Nat) × (Nat → ClassId)
theorem obj_set {h ci n k : Nat} {F : Nat → Value} {v : Value} {r : va_W} : List.set ((h, .inr (ci, (List.range n).map F)) :: r) 0 (h, .inr (ci, ((List.range n).map F).set k v)) = (h, .inr (ci, (List.range n).map (va_up F k v))) :: r := by
  rw [fl_set]; rfl
theorem obj_eq {ci n : Nat} {kd : Nat → Nat} {ks : List Nat} {ak ln : Nat → Nat} {h : Nat} {a : Nat → Nat} {y : Nat → ClassId} {g : Gs} {F : Nat → Value} {r : va_W} (h1 : (List.range n).map F = (List.range n).map (fld kd a g)) (h2 : r = ks.map (arF ak ln a y g)) : (h, .inr (ci, (List.range n).map F)) :: r = wG ci n kd ks ak ln h a y g := by
  subst h2; unfold wG; rw [h1]
theorem rn_v {p : Program} {l : Launch} {e : Env} {R : Room} {s : State} {m : MethodId} {args : Array Value} {below : List Frame} {meth : Method} {c : Code} {H : Heap} {locs : List Loc} {cc : ByteArray} {nL : Nat} {own : String} {D : Dx} {A : Nat → Prop} {cells slots pc : Nat} {ls : Array Slot} {S : Type} {post : S → Prop} {w : S → va_W} {t : S → List (ClassId × FieldType)} (u : S) (hp : post u) (C : Cx p s m args meth c cc none nL own lw_all) (X : Hx D (t u) A s H locs (w u)) (hdg : decode cc pc = .ok (.return_, 1)) : W p l e R s m args below meth c H locs cells slots (MQ below (QN D post A w t) args s cells slots A) (F0 m pc ls []) :=
  W.vret C.1 C.2.1 C.2.2.1 (fun t ht hW => ⟨⟨u, rfl, hp, by rw [ht]; exact X.2.1, va_K.moved hW.alike X.1, X.2.2.1⟩, X.2.2.2.1.F ht⟩) X.2.2.2.1.2.2 hdg C.2.2.2.2.2.2
theorem q1_39 : Cond.constantDouble RX6 15 (4611686018427387904) ∈ lw_all := lw_in (tc_1 (List.mem_of_getElem? (i := 39) rfl)) rfl
theorem q1_38 : Cond.methodLink RX6 3 objectInit ∈ lw_all := lw_in (tc_1 (List.mem_of_getElem? (i := 38) rfl)) rfl
theorem q1_31 : Cond.instanceMethod objectInit ∈ lw_all := lw_in (tc_1 (List.mem_of_getElem? (i := 31) rfl)) rfl
theorem q1_32 : Cond.code objectInit ⟨#[0xb1]⟩ 1 none ∈ lw_all := lw_in (tc_1 (List.mem_of_getElem? (i := 32) rfl)) rfl
theorem q1_46 : Cond.arrayClass .double ∈ lw_all := lw_in (tc_1 (List.mem_of_getElem? (i := 46) rfl)) rfl
theorem q1_202 : Cond.methodLink RX0 3 objectInit ∈ lw_all := lw_in (tc_1 (List.mem_of_getElem? (i := 202) rfl)) rfl
theorem q1_125 : Cond.arrayClass .int ∈ lw_all := lw_in (tc_1 (List.mem_of_getElem? (i := 125) rfl)) rfl
theorem q1_124 : Cond.arrayClass .long ∈ lw_all := lw_in (tc_1 (List.mem_of_getElem? (i := 124) rfl)) rfl
theorem q2_0 : Cond.fieldLink RX0 49 "TurningHall$Code" "from" "[I" ∈ lw_all := lw_in (tc_2 (List.mem_of_getElem? (i := 0) rfl)) rfl
theorem q2_5 : Cond.fieldLink RX0 52 "TurningHall$Code" "to" "[I" ∈ lw_all := lw_in (tc_2 (List.mem_of_getElem? (i := 5) rfl)) rfl
theorem q2_10 : Cond.fieldLink RX0 55 "TurningHall$Code" "owner" "[I" ∈ lw_all := lw_in (tc_2 (List.mem_of_getElem? (i := 10) rfl)) rfl
theorem q2_13 : Cond.fieldLink RX0 58 "TurningHall$Code" "sign" "[I" ∈ lw_all := lw_in (tc_2 (List.mem_of_getElem? (i := 13) rfl)) rfl
theorem q2_16 : Cond.fieldLink RX0 61 "TurningHall$Code" "thingsAhead" "[I" ∈ lw_all := lw_in (tc_2 (List.mem_of_getElem? (i := 16) rfl)) rfl
theorem q2_19 : Cond.fieldLink RX0 64 "TurningHall$Code" "camsAhead" "[I" ∈ lw_all := lw_in (tc_2 (List.mem_of_getElem? (i := 19) rfl)) rfl
theorem q2_22 : Cond.fieldLink RX0 67 "TurningHall$Code" "result" "[I" ∈ lw_all := lw_in (tc_2 (List.mem_of_getElem? (i := 22) rfl)) rfl
theorem q1_52 : Cond.methodLink RX9 3 objectInit ∈ lw_all := lw_in (tc_1 (List.mem_of_getElem? (i := 52) rfl)) rfl
theorem q1_181 : Cond.methodLink RX10 1 objectInit ∈ lw_all := lw_in (tc_1 (List.mem_of_getElem? (i := 181) rfl)) rfl
theorem q1_132 : Cond.methodLink RX1 3 objectInit ∈ lw_all := lw_in (tc_1 (List.mem_of_getElem? (i := 132) rfl)) rfl
theorem q1_163 : Cond.methodLink RX3 3 objectInit ∈ lw_all := lw_in (tc_1 (List.mem_of_getElem? (i := 163) rfl)) rfl
theorem q1_45 : Cond.arrayClass .byte ∈ lw_all := lw_in (tc_1 (List.mem_of_getElem? (i := 45) rfl)) rfl
theorem q2_222 : Cond.methodLink RX8 3 objectInit ∈ lw_all := lw_in (tc_2 (List.mem_of_getElem? (i := 222) rfl)) rfl
theorem q2_235 : Cond.methodLink RX7 3 objectInit ∈ lw_all := lw_in (tc_2 (List.mem_of_getElem? (i := 235) rfl)) rfl
theorem q3_44 : Cond.methodLink RX2 3 objectInit ∈ lw_all := lw_in (tc_3 (List.mem_of_getElem? (i := 44) rfl)) rfl
theorem q6_147 : Cond.methodLink RX12 3 objectInit ∈ lw_all := lw_in (tc_6 (List.mem_of_getElem? (i := 147) rfl)) rfl
theorem q6_148 : Cond.constantLong RX12 23 (1885434484) ∈ lw_all := lw_in (tc_6 (List.mem_of_getElem? (i := 148) rfl)) rfl
theorem q6_149 : Cond.constantLong RX12 25 (1936224119) ∈ lw_all := lw_in (tc_6 (List.mem_of_getElem? (i := 149) rfl)) rfl
theorem q6_150 : Cond.constantLong RX12 27 (6513005) ∈ lw_all := lw_in (tc_6 (List.mem_of_getElem? (i := 150) rfl)) rfl
theorem q6_151 : Cond.constantLong RX12 29 (1650814060) ∈ lw_all := lw_in (tc_6 (List.mem_of_getElem? (i := 151) rfl)) rfl
theorem q6_152 : Cond.constantLong RX12 31 (1952998766) ∈ lw_all := lw_in (tc_6 (List.mem_of_getElem? (i := 152) rfl)) rfl
theorem q6_153 : Cond.constantLong RX12 33 (2003330414) ∈ lw_all := lw_in (tc_6 (List.mem_of_getElem? (i := 153) rfl)) rfl
theorem q6_154 : Cond.constantLong RX12 35 (7302244) ∈ lw_all := lw_in (tc_6 (List.mem_of_getElem? (i := 154) rfl)) rfl
theorem q6_155 : Cond.constantLong RX12 37 (1937007984) ∈ lw_all := lw_in (tc_6 (List.mem_of_getElem? (i := 155) rfl)) rfl
theorem q6_156 : Cond.constantLong RX12 39 (499984329587) ∈ lw_all := lw_in (tc_6 (List.mem_of_getElem? (i := 156) rfl)) rfl
theorem q6_157 : Cond.constantLong RX12 41 (439905906546) ∈ lw_all := lw_in (tc_6 (List.mem_of_getElem? (i := 157) rfl)) rfl
theorem q6_158 : Cond.constantLong RX12 43 (1667590508) ∈ lw_all := lw_in (tc_6 (List.mem_of_getElem? (i := 158) rfl)) rfl
theorem q6_159 : Cond.constantLong RX12 45 (1919512180) ∈ lw_all := lw_in (tc_6 (List.mem_of_getElem? (i := 159) rfl)) rfl
theorem q6_160 : Cond.constantLong RX12 47 (6382195) ∈ lw_all := lw_in (tc_6 (List.mem_of_getElem? (i := 160) rfl)) rfl
theorem q6_161 : Cond.constantLong RX12 49 (465557353332) ∈ lw_all := lw_in (tc_6 (List.mem_of_getElem? (i := 161) rfl)) rfl
theorem q6_162 : Cond.constantLong RX12 51 (1836020596) ∈ lw_all := lw_in (tc_6 (List.mem_of_getElem? (i := 162) rfl)) rfl
theorem q6_163 : Cond.constantLong RX12 53 (6775652) ∈ lw_all := lw_in (tc_6 (List.mem_of_getElem? (i := 163) rfl)) rfl
theorem q6_164 : Cond.constantLong RX12 55 (1953658213) ∈ lw_all := lw_in (tc_6 (List.mem_of_getElem? (i := 164) rfl)) rfl
theorem q6_165 : Cond.constantLong RX12 57 (439721161573) ∈ lw_all := lw_in (tc_6 (List.mem_of_getElem? (i := 165) rfl)) rfl
theorem q6_166 : Cond.constantLong RX12 59 (500136506472) ∈ lw_all := lw_in (tc_6 (List.mem_of_getElem? (i := 166) rfl)) rfl
theorem q6_167 : Cond.constantLong RX12 61 (1652126821) ∈ lw_all := lw_in (tc_6 (List.mem_of_getElem? (i := 167) rfl)) rfl
theorem q6_168 : Cond.constantLong RX12 63 (495673373300) ∈ lw_all := lw_in (tc_6 (List.mem_of_getElem? (i := 168) rfl)) rfl
theorem q6_169 : Cond.constantLong RX12 65 (1667785074) ∈ lw_all := lw_in (tc_6 (List.mem_of_getElem? (i := 169) rfl)) rfl
theorem q6_170 : Cond.constantLong RX12 67 (6909556) ∈ lw_all := lw_in (tc_6 (List.mem_of_getElem? (i := 170) rfl)) rfl
theorem q6_171 : Cond.constantLong RX12 69 (1819242087) ∈ lw_all := lw_in (tc_6 (List.mem_of_getElem? (i := 171) rfl)) rfl
theorem q6_172 : Cond.constantLong RX12 71 (439905902964) ∈ lw_all := lw_in (tc_6 (List.mem_of_getElem? (i := 172) rfl)) rfl
theorem q6_173 : Cond.constantLong RX12 73 (110429873532005) ∈ lw_all := lw_in (tc_6 (List.mem_of_getElem? (i := 173) rfl)) rfl
theorem q2_147 : Cond.arrayClass .boolean ∈ lw_all := lw_in (tc_2 (List.mem_of_getElem? (i := 147) rfl)) rfl
abbrev R_X6_init : Room := { frames := 1, cells := 1, slots := 2098, locals := 40 }
theorem dX6_init_0 : decode cX6_init 0 = .ok (.aload_n 0, 1) := by decide +kernel
theorem dX6_init_1 : decode cX6_init 1 = .ok (.invokespecial 3, 3) := by decide +kernel
theorem dX6_init_4 : decode cX6_init 4 = .ok (.aload_n 0, 1) := by decide +kernel
theorem dX6_init_5 : decode cX6_init 5 = .ok (.sipush 2098, 3) := by decide +kernel
theorem dX6_init_8 : decode cX6_init 8 = .ok (.newarray .double, 2) := by decide +kernel
theorem dX6_init_10 : decode cX6_init 10 = .ok (.putfield 11, 3) := by decide +kernel
theorem dX6_init_13 : decode cX6_init 13 = .ok (.dconst 1, 1) := by decide +kernel
theorem dX6_init_14 : decode cX6_init 14 = .ok (.dstore_n 1, 1) := by decide +kernel
theorem dX6_init_15 : decode cX6_init 15 = .ok (.sipush 1074, 3) := by decide +kernel
theorem dX6_init_18 : decode cX6_init 18 = .ok (.istore_n 3, 1) := by decide +kernel
theorem dX6_init_19 : decode cX6_init 19 = .ok (.iload_n 3, 1) := by decide +kernel
theorem dX6_init_20 : decode cX6_init 20 = .ok (.sipush 2098, 3) := by decide +kernel
theorem dX6_init_23 : decode cX6_init 23 = .ok (.if_icmp .ge 22, 3) := by decide +kernel
theorem dX6_init_26 : decode cX6_init 26 = .ok (.aload_n 0, 1) := by decide +kernel
theorem dX6_init_27 : decode cX6_init 27 = .ok (.getfield 11, 3) := by decide +kernel
theorem dX6_init_30 : decode cX6_init 30 = .ok (.iload_n 3, 1) := by decide +kernel
theorem dX6_init_31 : decode cX6_init 31 = .ok (.dload_n 1, 1) := by decide +kernel
theorem dX6_init_32 : decode cX6_init 32 = .ok (.dastore, 1) := by decide +kernel
theorem dX6_init_33 : decode cX6_init 33 = .ok (.dload_n 1, 1) := by decide +kernel
theorem dX6_init_34 : decode cX6_init 34 = .ok (.ldc2_w 15, 3) := by decide +kernel
theorem dX6_init_37 : decode cX6_init 37 = .ok (.dmul, 1) := by decide +kernel
theorem dX6_init_38 : decode cX6_init 38 = .ok (.dstore_n 1, 1) := by decide +kernel
theorem dX6_init_39 : decode cX6_init 39 = .ok (.iinc 3 1, 3) := by decide +kernel
theorem dX6_init_42 : decode cX6_init 42 = .ok (.goto (-23), 3) := by decide +kernel
theorem dX6_init_45 : decode cX6_init 45 = .ok (.dconst 1, 1) := by decide +kernel
theorem dX6_init_46 : decode cX6_init 46 = .ok (.dstore_n 1, 1) := by decide +kernel
theorem dX6_init_47 : decode cX6_init 47 = .ok (.sipush 1074, 3) := by decide +kernel
theorem dX6_init_50 : decode cX6_init 50 = .ok (.istore_n 3, 1) := by decide +kernel
theorem dX6_init_51 : decode cX6_init 51 = .ok (.iload_n 3, 1) := by decide +kernel
theorem dX6_init_52 : decode cX6_init 52 = .ok (.ifCond .lt 22, 3) := by decide +kernel
theorem dX6_init_55 : decode cX6_init 55 = .ok (.aload_n 0, 1) := by decide +kernel
theorem dX6_init_56 : decode cX6_init 56 = .ok (.getfield 11, 3) := by decide +kernel
theorem dX6_init_59 : decode cX6_init 59 = .ok (.iload_n 3, 1) := by decide +kernel
theorem dX6_init_60 : decode cX6_init 60 = .ok (.dload_n 1, 1) := by decide +kernel
theorem dX6_init_61 : decode cX6_init 61 = .ok (.dastore, 1) := by decide +kernel
theorem dX6_init_62 : decode cX6_init 62 = .ok (.dload_n 1, 1) := by decide +kernel
theorem dX6_init_63 : decode cX6_init 63 = .ok (.ldc2_w 17, 3) := by decide +kernel
theorem dX6_init_66 : decode cX6_init 66 = .ok (.dmul, 1) := by decide +kernel
theorem dX6_init_67 : decode cX6_init 67 = .ok (.dstore_n 1, 1) := by decide +kernel
theorem dX6_init_68 : decode cX6_init 68 = .ok (.iinc 3 (-1), 3) := by decide +kernel
theorem dX6_init_71 : decode cX6_init 71 = .ok (.goto (-20), 3) := by decide +kernel
theorem dX6_init_74 : decode cX6_init 74 = .ok (.return_, 1) := by decide +kernel
def h_X6_init_51 (n : Nat) (rec : (Gs → UInt64 → Int32 → Option (Gs)) × (Gs → UInt64 → Int32 → Option (Gs))) (gT : Gs) (v1 : UInt64) (v3 : Int32) : Option (Gs) :=
  if v3 < 0 then (some gT) else (grd (inB v3 2098) (grd (n64 (FP.dmul v1 (4602678819172646912 : UInt64))) (rec.2 (sDA gT 0 (vf_upd (gDA gT 0) v3.toNatClampNeg v1)) (FP.dmul v1 (4602678819172646912 : UInt64)) (v3 + (-1 : Int32)))))
def h_X6_init_19 (n : Nat) (rec : (Gs → UInt64 → Int32 → Option (Gs)) × (Gs → UInt64 → Int32 → Option (Gs))) (gT : Gs) (v1 : UInt64) (v3 : Int32) : Option (Gs) :=
  if (2098 : Int32) ≤ v3 then (rec.2 gT FP.dconst1 (1074 : Int32)) else (grd (inB v3 2098) (grd (n64 (FP.dmul v1 (4611686018427387904 : UInt64))) (rec.1 (sDA gT 0 (vf_upd (gDA gT 0) v3.toNatClampNeg v1)) (FP.dmul v1 (4611686018427387904 : UInt64)) (v3 + (1 : Int32)))))
def L_X6_init (n : Nat) : Nat → ((Gs → UInt64 → Int32 → Option (Gs)) × (Gs → UInt64 → Int32 → Option (Gs)))
  | 0 => ((fun _ _ _ => none), (fun _ _ _ => none))
  | k + 1 => (h_X6_init_19 n (L_X6_init n k), h_X6_init_51 n (L_X6_init n k))
def f_X6_init (n : Nat) (gT : Gs) : Option (Gs) :=
  (L_X6_init n n).1 gT FP.dconst1 (1074 : Int32)
def S_X6_init_51 (l : Launch) (D : Dx) (hT : Nat) (aT : Nat → Nat) (yT : Nat → ClassId) (fn : Gs → UInt64 → Int32 → Option (Gs)) : Prop :=
  ∀ {p : Program} {e : Env} {s : State} {m : MethodId} {args : Array Value} {below : List Frame} {meth : Method} {c : Code} {H : Heap} {locs : List Loc} {A : Nat → Prop} {ls : Array Slot} {gT : Gs} {v1 : UInt64} {v3 : Int32} {q : Gs}, Cx p s m args meth c cX6_init none 4 RX6 lw_all → Hx D (tX6 yT) A s H locs (wX6 hT aT yT gT) → lv_has ls 4 [(0, .ref hT), (1, .double v1), (3, .int v3)] → fn gT v1 v3 = some q → W p l e R_X6_init s m args below meth c H locs 1 2098 (MQ below (QN D (fun _ : AY => True) A (fun u => wX6 hT u.1 u.2 q) (fun u => tX6 u.2)) args s 1 2098 A) (F0 m 51 ls [])
def S_X6_init_19 (l : Launch) (D : Dx) (hT : Nat) (aT : Nat → Nat) (yT : Nat → ClassId) (fn : Gs → UInt64 → Int32 → Option (Gs)) : Prop :=
  ∀ {p : Program} {e : Env} {s : State} {m : MethodId} {args : Array Value} {below : List Frame} {meth : Method} {c : Code} {H : Heap} {locs : List Loc} {A : Nat → Prop} {ls : Array Slot} {gT : Gs} {v1 : UInt64} {v3 : Int32} {q : Gs}, Cx p s m args meth c cX6_init none 4 RX6 lw_all → Hx D (tX6 yT) A s H locs (wX6 hT aT yT gT) → lv_has ls 4 [(0, .ref hT), (1, .double v1), (3, .int v3)] → fn gT v1 v3 = some q → W p l e R_X6_init s m args below meth c H locs 1 2098 (MQ below (QN D (fun _ : AY => True) A (fun u => wX6 hT u.1 u.2 q) (fun u => tX6 u.2)) args s 1 2098 A) (F0 m 19 ls [])
def SH_X6_init (l : Launch) (D : Dx) (hT : Nat) (aT : Nat → Nat) (yT : Nat → ClassId) (rec : (Gs → UInt64 → Int32 → Option (Gs)) × (Gs → UInt64 → Int32 → Option (Gs))) : Prop := S_X6_init_19 l D hT aT yT rec.1 ∧ S_X6_init_51 l D hT aT yT rec.2
set_option maxHeartbeats 4000000 in
set_option maxRecDepth 100000 in
theorem k_X6_init_51 (l : Launch) (D : Dx) (hT : Nat) (aT : Nat → Nat) (yT : Nat → ClassId) (n : Nat) (rec : (Gs → UInt64 → Int32 → Option (Gs)) × (Gs → UInt64 → Int32 → Option (Gs))) (IH : SH_X6_init l D hT aT yT rec) : S_X6_init_51 l D hT aT yT (h_X6_init_51 n rec) := by
  intro p e s m args below meth c H locs A ls gT v1 v3 q C X hl hF
  obtain ⟨hx, hb, hr, hml, hown, hts, hlk⟩ := id C
  unfold h_X6_init_51 at hF
  refine lv_iload_n hx hb dX6_init_51 rfl (lv_at hl 2 rfl) ?_
  refine lv_if_lt (tgt := 74) hx hb dX6_init_52 (by decide) (fun c => ?_) (fun c => ?_)
  · replace hF := iT c hF
    have hq := Option.some.inj hF
    subst hq
    exact rn_v (S := AY) (post := fun _ => True) (w := fun u => wX6 hT u.1 u.2 gT) (t := fun u => tX6 u.2) (aT, yT) trivial C X dX6_init_74
  · replace hF := iF c hF
    refine lv_aload_n hx hb dX6_init_55 rfl (lv_at hl 0 rfl) ?_
    refine va_get (D := D.1) (ci := 6) (v := .ref (aT 0)) (C := RX6) (T := TX6) (N := 1) hx hb hts wi_X6 hown X.1 X.2.1 0 rfl rfl 0 (by decide) (hts _ q1_41) (fun _ h9 => h9) (fl_get (by decide)) dX6_init_56 ?_
    refine lv_iload_n hx hb dX6_init_59 rfl (lv_at hl 2 rfl) ?_
    refine lv_dload_n hx hb dX6_init_60 rfl (lv_at hl 1 rfl) ?_
    obtain ⟨h_1, hF⟩ := grd_some hF
    refine va_dast (D := D.1) (f := gDA gT 0) hx hb X.1 X.2.1 X.2.2.1 X.2.2.2.1 1 0 rfl rfl (inB_ok h_1) dX6_init_61 (fun H locs hP hD hS => ?_)
    have X : Hx D (tX6 yT) A s H locs (wX6 hT aT yT (sDA gT 0 (vf_upd (gDA gT 0) v3.toNatClampNeg v1))) := Hx_set X (wG_sDA (i := 0) (k := 0) ndX6 rfl rfl) hP hD hS
    refine lv_dload_n hx hb dX6_init_62 rfl (lv_at hl 1 rfl) ?_
    refine lv_ldc2d hx hb hown (hts _ q1_40) dX6_init_63 ?_
    obtain ⟨h_2, hF⟩ := grd_some hF
    refine lv_dmul hx hb dX6_init_66 (n64_ok h_2) ?_
    refine lv_dstore_n (lv' := [(1, .double (FP.dmul v1 (4602678819172646912 : UInt64))), (0, .ref hT), (3, .int v3)]) hx hb dX6_init_67 rfl hl (by decide) rfl (fun ls hl => ?_)
    refine lv_iinc (v := v3 + (-1 : Int32)) (lv' := [(3, .int (v3 + (-1 : Int32))), (1, .double (FP.dmul v1 (4602678819172646912 : UInt64))), (0, .ref hT)]) hx hb dX6_init_68 hl (k := 2) rfl rfl (by decide) rfl (fun ls hl => ?_)
    refine lv_goto (tgt := 51) hx hb dX6_init_71 (by decide) ?_
    exact IH.2 C X (lv_sub hl [2, 1, 0] rfl) hF
set_option maxHeartbeats 4000000 in
set_option maxRecDepth 100000 in
theorem k_X6_init_19 (l : Launch) (D : Dx) (hT : Nat) (aT : Nat → Nat) (yT : Nat → ClassId) (n : Nat) (rec : (Gs → UInt64 → Int32 → Option (Gs)) × (Gs → UInt64 → Int32 → Option (Gs))) (IH : SH_X6_init l D hT aT yT rec) : S_X6_init_19 l D hT aT yT (h_X6_init_19 n rec) := by
  intro p e s m args below meth c H locs A ls gT v1 v3 q C X hl hF
  obtain ⟨hx, hb, hr, hml, hown, hts, hlk⟩ := id C
  unfold h_X6_init_19 at hF
  refine lv_iload_n hx hb dX6_init_19 rfl (lv_at hl 2 rfl) ?_
  refine lv_sipush (v := (2098 : Int32)) hx hb dX6_init_20 (by decide) ?_
  refine lv_icmp_ge (tgt := 45) hx hb dX6_init_23 (by decide) (fun c => ?_) (fun c => ?_)
  · replace hF := iT c hF
    refine lv_dconst1 hx hb dX6_init_45 ?_
    refine lv_dstore_n (lv' := [(1, .double FP.dconst1), (0, .ref hT), (3, .int v3)]) hx hb dX6_init_46 rfl hl (by decide) rfl (fun ls hl => ?_)
    refine lv_sipush (v := (1074 : Int32)) hx hb dX6_init_47 (by decide) ?_
    refine lv_istore_n (lv' := [(3, .int (1074 : Int32)), (1, .double FP.dconst1), (0, .ref hT)]) hx hb dX6_init_50 rfl hl (by decide) rfl (fun ls hl => ?_)
    exact IH.2 C X (lv_sub hl [2, 1, 0] rfl) hF
  · replace hF := iF c hF
    refine lv_aload_n hx hb dX6_init_26 rfl (lv_at hl 0 rfl) ?_
    refine va_get (D := D.1) (ci := 6) (v := .ref (aT 0)) (C := RX6) (T := TX6) (N := 1) hx hb hts wi_X6 hown X.1 X.2.1 0 rfl rfl 0 (by decide) (hts _ q1_41) (fun _ h9 => h9) (fl_get (by decide)) dX6_init_27 ?_
    refine lv_iload_n hx hb dX6_init_30 rfl (lv_at hl 2 rfl) ?_
    refine lv_dload_n hx hb dX6_init_31 rfl (lv_at hl 1 rfl) ?_
    obtain ⟨h_3, hF⟩ := grd_some hF
    refine va_dast (D := D.1) (f := gDA gT 0) hx hb X.1 X.2.1 X.2.2.1 X.2.2.2.1 1 0 rfl rfl (inB_ok h_3) dX6_init_32 (fun H locs hP hD hS => ?_)
    have X : Hx D (tX6 yT) A s H locs (wX6 hT aT yT (sDA gT 0 (vf_upd (gDA gT 0) v3.toNatClampNeg v1))) := Hx_set X (wG_sDA (i := 0) (k := 0) ndX6 rfl rfl) hP hD hS
    refine lv_dload_n hx hb dX6_init_33 rfl (lv_at hl 1 rfl) ?_
    refine lv_ldc2d hx hb hown (hts _ q1_39) dX6_init_34 ?_
    obtain ⟨h_4, hF⟩ := grd_some hF
    refine lv_dmul hx hb dX6_init_37 (n64_ok h_4) ?_
    refine lv_dstore_n (lv' := [(1, .double (FP.dmul v1 (4611686018427387904 : UInt64))), (0, .ref hT), (3, .int v3)]) hx hb dX6_init_38 rfl hl (by decide) rfl (fun ls hl => ?_)
    refine lv_iinc (v := v3 + (1 : Int32)) (lv' := [(3, .int (v3 + (1 : Int32))), (1, .double (FP.dmul v1 (4611686018427387904 : UInt64))), (0, .ref hT)]) hx hb dX6_init_39 hl (k := 2) rfl rfl (by decide) rfl (fun ls hl => ?_)
    refine lv_goto (tgt := 19) hx hb dX6_init_42 (by decide) ?_
    exact IH.1 C X (lv_sub hl [2, 1, 0] rfl) hF
theorem kL_X6_init (l : Launch) (D : Dx) (hT : Nat) (aT : Nat → Nat) (yT : Nat → ClassId) (n : Nat) : ∀ k, SH_X6_init l D hT aT yT (L_X6_init n k)
  | 0 => ⟨(fun _ _ _ h => by cases h), (fun _ _ _ h => by cases h)⟩
  | k + 1 => ⟨k_X6_init_19 l D hT aT yT n _ (kL_X6_init l D hT aT yT n k), k_X6_init_51 l D hT aT yT n _ (kL_X6_init l D hT aT yT n k)⟩
theorem dfX6 : ∀ j, j < 1 → defaultValue (tyX6 j) = vp_V ((List.range 1).map (dfl kdX6)) j := by decide +kernel
set_option maxHeartbeats 4000000 in
set_option maxRecDepth 100000 in
theorem n_X6_init (l : Launch) (D : Dx) (n : Nat) (h : Nat) (q : Gs) (hF : f_X6_init n g00 = some q) (sz : Nat) : Met l yX6_init (ws_ yX6_init cX6_init 4 none) R_X6_init (PC D [] [.ref h] [(h, .inr (6, (List.range 1).map (dfl kdX6)))] sz) (QN D (fun _ : AY => True) (va_A [(h, .inr (6, (List.range 1).map (dfl kdX6)))] sz) (fun u => wX6 h u.1 u.2 q) (fun u => tX6 u.2)) 1 2098 (va_A [(h, .inr (6, (List.range 1).map (dfl kdX6)))] sz) := by
  refine Met.ofW (cc := cX6_init) (maxL := 4) (ret := none) (by decide) rfl ?_
  intro p e s m args below meth c s₁ B hml hv
  obtain ⟨rfl, hsz, hP, hK, hD, hN⟩ := hv
  subst hsz
  have C : Cx p s m _ meth c cX6_init none 4 RX6 lw_all := Cx_of B hml
  have X := Hx_start hP hK hD hN
  have hin : meth.name = "<init>" := (name_of_methodNamed B.named B.method).1
  obtain ⟨hx, hb, hr, -, hown, hts, hlk⟩ := id C
  generalize va_A [(h, .inr (6, (List.range 1).map (dfl kdX6)))] s.heap.size = A at X ⊢
  have hl := lv_entry ([.ref h]) (n := 4) (Nat.le_of_ble_eq_true rfl)
  rw [lg_entry_eq]
  generalize (lg_sl ([.ref h]) ++ List.replicate (4 - (lg_sl ([.ref h])).length) Slot.unset).toArray = ls at hl ⊢
  have hl : lv_has ls 4 [(0, .ref h)] := hl
  refine lv_aload_n hx hb dX6_init_0 rfl (lv_at hl 0 rfl) ?_
  refine W.objInit hx hb hown (hts _ q1_38) (hts _ q1_31) (hts _ q1_32) rfl (by rw [hml]; exact hl.1) rfl dX6_init_1 (Nat.le_of_ble_eq_true rfl) (Nat.le_of_ble_eq_true rfl) ?_
  refine W.eq (g2 := F0 m 4 ls []) rfl ?_
  refine lv_aload_n hx hb dX6_init_4 rfl (lv_at hl 0 rfl) ?_
  refine lv_sipush (v := (2098 : Int32)) hx hb dX6_init_5 (by decide) ?_
  refine va_newa (a0 := (2098, .inr (.inr (.inr (.inl (fun _ => 0)))))) (N' := 2098) hx hb (hts _ q1_46) rfl X.1 X.2.1 X.2.2.1 X.2.2.2.1 X.2.2.2.2.1 (fun _ => rfl) (by decide) (by decide) (by decide) (Nat.le_of_ble_eq_true rfl) (Nat.le_of_ble_eq_true rfl) dX6_init_8 (fun q1 y1 H hK hP hD hS => ?_)
  have X : Hx D [(y1, .double)] A s H locs [(h, .inr (6, (List.range 1).map (dfl kdX6))), (q1, .inl (y1, 2098, .inr (.inr (.inr (.inl (fun _ => 0))))))] := ⟨hK, hP, hD, hS, X.2.2.2.2⟩
  refine W.widen (k := 1) (n := 2098) (Nat.le_of_ble_eq_true rfl) (Nat.le_of_ble_eq_true rfl) ?_
  refine va_putF (D := D.1) (ci := 6) (v := .ref q1) (ty := tyX6 0) (C := RX6) (T := TX6) (N := 1) hx hb hts wi_X6 tyX6 tyX6_ok nmX6 hown X.1 X.2.1 X.2.2.1 X.2.2.2.1 0 rfl rfl 0 (by decide) (hts _ q1_41) (fun _ h9 => h9) rfl hin rfl (by decide +kernel) rfl rfl (by rw [List.length_map, List.length_range]; decide) dX6_init_10 (fun H locs hP hD hS => ?_)
  have X : Hx D [(y1, .double)] A s H locs [(h, .inr (6, (List.range 1).map (va_up (dfl kdX6) 0 (.ref q1)))), (q1, .inl (y1, 2098, .inr (.inr (.inr (.inl (fun _ => 0))))))] := Hx_set X obj_set hP hD hS
  have e1 : (List.range 1).map (va_up (dfl kdX6) 0 (.ref q1)) = (List.range 1).map (fld kdX6 (fun _ => q1) g00) := by rfl
  have e2 : ([(q1, .inl (y1, 2098, .inr (.inr (.inr (.inl (fun _ => 0))))))] : va_W) = ksX6.map (arF akX6 lnX6 (fun _ => q1) (fun _ => y1) g00) := by rfl
  have X : Hx D (tX6 (fun _ => y1)) A s H locs (wX6 h (fun _ => q1) (fun _ => y1) g00) := ⟨X.1, (obj_eq e1 e2) ▸ X.2.1, (obj_eq e1 e2) ▸ X.2.2.1, X.2.2.2⟩
  unfold f_X6_init at hF
  refine lv_dconst1 hx hb dX6_init_13 ?_
  refine lv_dstore_n (lv' := [(1, .double FP.dconst1), (0, .ref h)]) hx hb dX6_init_14 rfl hl (by decide) rfl (fun ls hl => ?_)
  refine lv_sipush (v := (1074 : Int32)) hx hb dX6_init_15 (by decide) ?_
  refine lv_istore_n (lv' := [(3, .int (1074 : Int32)), (1, .double FP.dconst1), (0, .ref h)]) hx hb dX6_init_18 rfl hl (by decide) rfl (fun ls hl => ?_)
  exact (kL_X6_init l D h (fun _ => q1) (fun _ => y1) n n).1 C X (lv_sub hl [2, 1, 0] rfl) hF

/-! ### X0_init -/
theorem dX0_init_0 : decode cX0_init 0 = .ok (.aload_n 0, 1) := by decide +kernel
theorem dX0_init_1 : decode cX0_init 1 = .ok (.invokespecial 3, 3) := by decide +kernel
theorem dX0_init_4 : decode cX0_init 4 = .ok (.aload_n 0, 1) := by decide +kernel
theorem dX0_init_5 : decode cX0_init 5 = .ok (.sipush 840, 3) := by decide +kernel
theorem dX0_init_8 : decode cX0_init 8 = .ok (.newarray .int, 2) := by decide +kernel
theorem dX0_init_10 : decode cX0_init 10 = .ok (.putfield 9, 3) := by decide +kernel
theorem dX0_init_13 : decode cX0_init 13 = .ok (.aload_n 0, 1) := by decide +kernel
theorem dX0_init_14 : decode cX0_init 14 = .ok (.sipush 840, 3) := by decide +kernel
theorem dX0_init_17 : decode cX0_init 17 = .ok (.newarray .int, 2) := by decide +kernel
theorem dX0_init_19 : decode cX0_init 19 = .ok (.putfield 15, 3) := by decide +kernel
theorem dX0_init_22 : decode cX0_init 22 = .ok (.aload_n 0, 1) := by decide +kernel
theorem dX0_init_23 : decode cX0_init 23 = .ok (.sipush 840, 3) := by decide +kernel
theorem dX0_init_26 : decode cX0_init 26 = .ok (.newarray .int, 2) := by decide +kernel
theorem dX0_init_28 : decode cX0_init 28 = .ok (.putfield 18, 3) := by decide +kernel
theorem dX0_init_31 : decode cX0_init 31 = .ok (.aload_n 0, 1) := by decide +kernel
theorem dX0_init_32 : decode cX0_init 32 = .ok (.sipush 840, 3) := by decide +kernel
theorem dX0_init_35 : decode cX0_init 35 = .ok (.newarray .int, 2) := by decide +kernel
theorem dX0_init_37 : decode cX0_init 37 = .ok (.putfield 21, 3) := by decide +kernel
theorem dX0_init_40 : decode cX0_init 40 = .ok (.aload_n 0, 1) := by decide +kernel
theorem dX0_init_41 : decode cX0_init 41 = .ok (.sipush 840, 3) := by decide +kernel
theorem dX0_init_44 : decode cX0_init 44 = .ok (.newarray .int, 2) := by decide +kernel
theorem dX0_init_46 : decode cX0_init 46 = .ok (.putfield 24, 3) := by decide +kernel
theorem dX0_init_49 : decode cX0_init 49 = .ok (.aload_n 0, 1) := by decide +kernel
theorem dX0_init_50 : decode cX0_init 50 = .ok (.sipush 840, 3) := by decide +kernel
theorem dX0_init_53 : decode cX0_init 53 = .ok (.newarray .int, 2) := by decide +kernel
theorem dX0_init_55 : decode cX0_init 55 = .ok (.putfield 27, 3) := by decide +kernel
theorem dX0_init_58 : decode cX0_init 58 = .ok (.aload_n 0, 1) := by decide +kernel
theorem dX0_init_59 : decode cX0_init 59 = .ok (.sipush 840, 3) := by decide +kernel
theorem dX0_init_62 : decode cX0_init 62 = .ok (.newarray .long, 2) := by decide +kernel
theorem dX0_init_64 : decode cX0_init 64 = .ok (.putfield 30, 3) := by decide +kernel
theorem dX0_init_67 : decode cX0_init 67 = .ok (.aload_n 0, 1) := by decide +kernel
theorem dX0_init_68 : decode cX0_init 68 = .ok (.sipush 840, 3) := by decide +kernel
theorem dX0_init_71 : decode cX0_init 71 = .ok (.newarray .double, 2) := by decide +kernel
theorem dX0_init_73 : decode cX0_init 73 = .ok (.putfield 34, 3) := by decide +kernel
theorem dX0_init_76 : decode cX0_init 76 = .ok (.aload_n 0, 1) := by decide +kernel
theorem dX0_init_77 : decode cX0_init 77 = .ok (.iconst 0, 1) := by decide +kernel
theorem dX0_init_78 : decode cX0_init 78 = .ok (.putfield 38, 3) := by decide +kernel
theorem dX0_init_81 : decode cX0_init 81 = .ok (.aload_n 0, 1) := by decide +kernel
theorem dX0_init_82 : decode cX0_init 82 = .ok (.iconst 0, 1) := by decide +kernel
theorem dX0_init_83 : decode cX0_init 83 = .ok (.putfield 42, 3) := by decide +kernel
theorem dX0_init_86 : decode cX0_init 86 = .ok (.aload_n 0, 1) := by decide +kernel
theorem dX0_init_87 : decode cX0_init 87 = .ok (.iconst 0, 1) := by decide +kernel
theorem dX0_init_88 : decode cX0_init 88 = .ok (.putfield 45, 3) := by decide +kernel
theorem dX0_init_91 : decode cX0_init 91 = .ok (.aload_n 0, 1) := by decide +kernel
theorem dX0_init_92 : decode cX0_init 92 = .ok (.bipush 92, 2) := by decide +kernel
theorem dX0_init_94 : decode cX0_init 94 = .ok (.newarray .int, 2) := by decide +kernel
theorem dX0_init_96 : decode cX0_init 96 = .ok (.putfield 49, 3) := by decide +kernel
theorem dX0_init_99 : decode cX0_init 99 = .ok (.aload_n 0, 1) := by decide +kernel
theorem dX0_init_100 : decode cX0_init 100 = .ok (.bipush 92, 2) := by decide +kernel
theorem dX0_init_102 : decode cX0_init 102 = .ok (.newarray .int, 2) := by decide +kernel
theorem dX0_init_104 : decode cX0_init 104 = .ok (.putfield 52, 3) := by decide +kernel
theorem dX0_init_107 : decode cX0_init 107 = .ok (.aload_n 0, 1) := by decide +kernel
theorem dX0_init_108 : decode cX0_init 108 = .ok (.bipush 92, 2) := by decide +kernel
theorem dX0_init_110 : decode cX0_init 110 = .ok (.newarray .int, 2) := by decide +kernel
theorem dX0_init_112 : decode cX0_init 112 = .ok (.putfield 55, 3) := by decide +kernel
theorem dX0_init_115 : decode cX0_init 115 = .ok (.aload_n 0, 1) := by decide +kernel
theorem dX0_init_116 : decode cX0_init 116 = .ok (.bipush 92, 2) := by decide +kernel
theorem dX0_init_118 : decode cX0_init 118 = .ok (.newarray .int, 2) := by decide +kernel
theorem dX0_init_120 : decode cX0_init 120 = .ok (.putfield 58, 3) := by decide +kernel
theorem dX0_init_123 : decode cX0_init 123 = .ok (.aload_n 0, 1) := by decide +kernel
theorem dX0_init_124 : decode cX0_init 124 = .ok (.bipush 92, 2) := by decide +kernel
theorem dX0_init_126 : decode cX0_init 126 = .ok (.newarray .int, 2) := by decide +kernel
theorem dX0_init_128 : decode cX0_init 128 = .ok (.putfield 61, 3) := by decide +kernel
theorem dX0_init_131 : decode cX0_init 131 = .ok (.aload_n 0, 1) := by decide +kernel
theorem dX0_init_132 : decode cX0_init 132 = .ok (.bipush 92, 2) := by decide +kernel
theorem dX0_init_134 : decode cX0_init 134 = .ok (.newarray .int, 2) := by decide +kernel
theorem dX0_init_136 : decode cX0_init 136 = .ok (.putfield 64, 3) := by decide +kernel
theorem dX0_init_139 : decode cX0_init 139 = .ok (.aload_n 0, 1) := by decide +kernel
theorem dX0_init_140 : decode cX0_init 140 = .ok (.bipush 92, 2) := by decide +kernel
theorem dX0_init_142 : decode cX0_init 142 = .ok (.newarray .int, 2) := by decide +kernel
theorem dX0_init_144 : decode cX0_init 144 = .ok (.putfield 67, 3) := by decide +kernel
theorem dX0_init_147 : decode cX0_init 147 = .ok (.aload_n 0, 1) := by decide +kernel
theorem dX0_init_148 : decode cX0_init 148 = .ok (.iconst 0, 1) := by decide +kernel
theorem dX0_init_149 : decode cX0_init 149 = .ok (.putfield 70, 3) := by decide +kernel
theorem dX0_init_152 : decode cX0_init 152 = .ok (.return_, 1) := by decide +kernel
def g0X0 : Gs := g00
theorem dfX0 : ∀ j, j < 19 → defaultValue (tyX0 j) = vp_V ((List.range 19).map (dfl kdX0)) j := by decide +kernel
set_option maxHeartbeats 4000000 in
set_option maxRecDepth 100000 in
theorem n_X0_init (l : Launch) (D : Dx) (h : Nat) (sz : Nat) : Met l yX0_init (ws_ yX0_init cX0_init 1 none) { frames := 1, cells := 15, slots := 7364, locals := 40 } (PC D [] [.ref h] [(h, .inr (0, (List.range 19).map (dfl kdX0)))] sz) (QN D (fun u : AY => True) (va_A [(h, .inr (0, (List.range 19).map (dfl kdX0)))] sz) (fun u => wX0 h u.1 u.2 g0X0) (fun u => tX0 u.2)) 15 7364 (va_A [(h, .inr (0, (List.range 19).map (dfl kdX0)))] sz) := by
  refine Met.ofW (cc := cX0_init) (maxL := 1) (ret := none) (by decide) rfl ?_
  intro p e s m args below meth c s₁ B hml hv
  obtain ⟨rfl, hsz, hP, hK, hD, hN⟩ := hv
  subst hsz
  have C : Cx p s m _ meth c cX0_init none 1 RX0 lw_all := Cx_of B hml
  have X := Hx_start hP hK hD hN
  have hin : meth.name = "<init>" := (name_of_methodNamed B.named B.method).1
  obtain ⟨hx, hb, hr, -, hown, hts, hlk⟩ := id C
  generalize va_A [(h, .inr (0, (List.range 19).map (dfl kdX0)))] s.heap.size = A at X ⊢
  have hl := lv_entry ([.ref h]) (n := 1) (Nat.le_of_ble_eq_true rfl)
  rw [lg_entry_eq]
  generalize (lg_sl ([.ref h]) ++ List.replicate (1 - (lg_sl ([.ref h])).length) Slot.unset).toArray = ls at hl ⊢
  have hl : lv_has ls 1 [(0, .ref h)] := hl
  refine lv_aload_n hx hb dX0_init_0 rfl (lv_at hl 0 rfl) ?_
  refine W.objInit hx hb hown (hts _ q1_202) (hts _ q1_31) (hts _ q1_32) rfl (by rw [hml]; exact hl.1) rfl dX0_init_1 (Nat.le_of_ble_eq_true rfl) (Nat.le_of_ble_eq_true rfl) ?_
  refine W.eq (g2 := F0 m 4 ls []) rfl ?_
  refine lv_aload_n hx hb dX0_init_4 rfl (lv_at hl 0 rfl) ?_
  refine lv_sipush (v := (840 : Int32)) hx hb dX0_init_5 (by decide) ?_
  refine va_newa (a0 := (840, .inl (fun _ => 0))) (N' := 840) hx hb (hts _ q1_125) rfl X.1 X.2.1 X.2.2.1 X.2.2.2.1 X.2.2.2.2.1 (fun _ => rfl) (by decide) (by decide) (by decide) (Nat.le_of_ble_eq_true rfl) (Nat.le_of_ble_eq_true rfl) dX0_init_8 (fun q1 y1 H hK hP hD hS => ?_)
  have X : Hx D [(y1, .int)] A s H locs [(h, .inr (0, (List.range 19).map (dfl kdX0))), (q1, .inl (y1, 840, .inl (fun _ => 0)))] := ⟨hK, hP, hD, hS, X.2.2.2.2⟩
  refine W.widen (k := 1) (n := 840) (Nat.le_of_ble_eq_true rfl) (Nat.le_of_ble_eq_true rfl) ?_
  refine va_putF (D := D.1) (ci := 0) (v := .ref q1) (ty := tyX0 0) (C := RX0) (T := TX0) (N := 19) hx hb hts wi_X0 tyX0 tyX0_ok nmX0 hown X.1 X.2.1 X.2.2.1 X.2.2.2.1 0 rfl rfl 0 (by decide) (hts _ q1_203) (fun _ h9 => h9) rfl hin rfl (by decide +kernel) rfl rfl (by rw [List.length_map, List.length_range]; decide) dX0_init_10 (fun H locs hP hD hS => ?_)
  have X : Hx D [(y1, .int)] A s H locs [(h, .inr (0, (List.range 19).map (va_up (dfl kdX0) 0 (.ref q1)))), (q1, .inl (y1, 840, .inl (fun _ => 0)))] := Hx_set X obj_set hP hD hS
  refine lv_aload_n hx hb dX0_init_13 rfl (lv_at hl 0 rfl) ?_
  refine lv_sipush (v := (840 : Int32)) hx hb dX0_init_14 (by decide) ?_
  refine va_newa (a0 := (840, .inl (fun _ => 0))) (N' := 840) hx hb (hts _ q1_125) rfl X.1 X.2.1 X.2.2.1 X.2.2.2.1 X.2.2.2.2.1 (fun _ => rfl) (by decide) (by decide) (by decide) (Nat.le_of_ble_eq_true rfl) (Nat.le_of_ble_eq_true rfl) dX0_init_17 (fun q2 y2 H hK hP hD hS => ?_)
  have X : Hx D [(y1, .int), (y2, .int)] A s H locs [(h, .inr (0, (List.range 19).map (va_up (dfl kdX0) 0 (.ref q1)))), (q1, .inl (y1, 840, .inl (fun _ => 0))), (q2, .inl (y2, 840, .inl (fun _ => 0)))] := ⟨hK, hP, hD, hS, X.2.2.2.2⟩
  refine W.widen (k := 2) (n := 1680) (Nat.le_of_ble_eq_true rfl) (Nat.le_of_ble_eq_true rfl) ?_
  refine va_putF (D := D.1) (ci := 0) (v := .ref q2) (ty := tyX0 1) (C := RX0) (T := TX0) (N := 19) hx hb hts wi_X0 tyX0 tyX0_ok nmX0 hown X.1 X.2.1 X.2.2.1 X.2.2.2.1 0 rfl rfl 1 (by decide) (hts _ q1_207) (fun _ h9 => h9) rfl hin rfl (by decide +kernel) rfl rfl (by rw [List.length_map, List.length_range]; decide) dX0_init_19 (fun H locs hP hD hS => ?_)
  have X : Hx D [(y1, .int), (y2, .int)] A s H locs [(h, .inr (0, (List.range 19).map (va_up (va_up (dfl kdX0) 0 (.ref q1)) 1 (.ref q2)))), (q1, .inl (y1, 840, .inl (fun _ => 0))), (q2, .inl (y2, 840, .inl (fun _ => 0)))] := Hx_set X obj_set hP hD hS
  refine lv_aload_n hx hb dX0_init_22 rfl (lv_at hl 0 rfl) ?_
  refine lv_sipush (v := (840 : Int32)) hx hb dX0_init_23 (by decide) ?_
  refine va_newa (a0 := (840, .inl (fun _ => 0))) (N' := 840) hx hb (hts _ q1_125) rfl X.1 X.2.1 X.2.2.1 X.2.2.2.1 X.2.2.2.2.1 (fun _ => rfl) (by decide) (by decide) (by decide) (Nat.le_of_ble_eq_true rfl) (Nat.le_of_ble_eq_true rfl) dX0_init_26 (fun q3 y3 H hK hP hD hS => ?_)
  have X : Hx D [(y1, .int), (y2, .int), (y3, .int)] A s H locs [(h, .inr (0, (List.range 19).map (va_up (va_up (dfl kdX0) 0 (.ref q1)) 1 (.ref q2)))), (q1, .inl (y1, 840, .inl (fun _ => 0))), (q2, .inl (y2, 840, .inl (fun _ => 0))), (q3, .inl (y3, 840, .inl (fun _ => 0)))] := ⟨hK, hP, hD, hS, X.2.2.2.2⟩
  refine W.widen (k := 3) (n := 2520) (Nat.le_of_ble_eq_true rfl) (Nat.le_of_ble_eq_true rfl) ?_
  refine va_putF (D := D.1) (ci := 0) (v := .ref q3) (ty := tyX0 2) (C := RX0) (T := TX0) (N := 19) hx hb hts wi_X0 tyX0 tyX0_ok nmX0 hown X.1 X.2.1 X.2.2.1 X.2.2.2.1 0 rfl rfl 2 (by decide) (hts _ q1_210) (fun _ h9 => h9) rfl hin rfl (by decide +kernel) rfl rfl (by rw [List.length_map, List.length_range]; decide) dX0_init_28 (fun H locs hP hD hS => ?_)
  have X : Hx D [(y1, .int), (y2, .int), (y3, .int)] A s H locs [(h, .inr (0, (List.range 19).map (va_up (va_up (va_up (dfl kdX0) 0 (.ref q1)) 1 (.ref q2)) 2 (.ref q3)))), (q1, .inl (y1, 840, .inl (fun _ => 0))), (q2, .inl (y2, 840, .inl (fun _ => 0))), (q3, .inl (y3, 840, .inl (fun _ => 0)))] := Hx_set X obj_set hP hD hS
  refine lv_aload_n hx hb dX0_init_31 rfl (lv_at hl 0 rfl) ?_
  refine lv_sipush (v := (840 : Int32)) hx hb dX0_init_32 (by decide) ?_
  refine va_newa (a0 := (840, .inl (fun _ => 0))) (N' := 840) hx hb (hts _ q1_125) rfl X.1 X.2.1 X.2.2.1 X.2.2.2.1 X.2.2.2.2.1 (fun _ => rfl) (by decide) (by decide) (by decide) (Nat.le_of_ble_eq_true rfl) (Nat.le_of_ble_eq_true rfl) dX0_init_35 (fun q4 y4 H hK hP hD hS => ?_)
  have X : Hx D [(y1, .int), (y2, .int), (y3, .int), (y4, .int)] A s H locs [(h, .inr (0, (List.range 19).map (va_up (va_up (va_up (dfl kdX0) 0 (.ref q1)) 1 (.ref q2)) 2 (.ref q3)))), (q1, .inl (y1, 840, .inl (fun _ => 0))), (q2, .inl (y2, 840, .inl (fun _ => 0))), (q3, .inl (y3, 840, .inl (fun _ => 0))), (q4, .inl (y4, 840, .inl (fun _ => 0)))] := ⟨hK, hP, hD, hS, X.2.2.2.2⟩
  refine W.widen (k := 4) (n := 3360) (Nat.le_of_ble_eq_true rfl) (Nat.le_of_ble_eq_true rfl) ?_
  refine va_putF (D := D.1) (ci := 0) (v := .ref q4) (ty := tyX0 3) (C := RX0) (T := TX0) (N := 19) hx hb hts wi_X0 tyX0 tyX0_ok nmX0 hown X.1 X.2.1 X.2.2.1 X.2.2.2.1 0 rfl rfl 3 (by decide) (hts _ q1_214) (fun _ h9 => h9) rfl hin rfl (by decide +kernel) rfl rfl (by rw [List.length_map, List.length_range]; decide) dX0_init_37 (fun H locs hP hD hS => ?_)
  have X : Hx D [(y1, .int), (y2, .int), (y3, .int), (y4, .int)] A s H locs [(h, .inr (0, (List.range 19).map (va_up (va_up (va_up (va_up (dfl kdX0) 0 (.ref q1)) 1 (.ref q2)) 2 (.ref q3)) 3 (.ref q4)))), (q1, .inl (y1, 840, .inl (fun _ => 0))), (q2, .inl (y2, 840, .inl (fun _ => 0))), (q3, .inl (y3, 840, .inl (fun _ => 0))), (q4, .inl (y4, 840, .inl (fun _ => 0)))] := Hx_set X obj_set hP hD hS
  refine lv_aload_n hx hb dX0_init_40 rfl (lv_at hl 0 rfl) ?_
  refine lv_sipush (v := (840 : Int32)) hx hb dX0_init_41 (by decide) ?_
  refine va_newa (a0 := (840, .inl (fun _ => 0))) (N' := 840) hx hb (hts _ q1_125) rfl X.1 X.2.1 X.2.2.1 X.2.2.2.1 X.2.2.2.2.1 (fun _ => rfl) (by decide) (by decide) (by decide) (Nat.le_of_ble_eq_true rfl) (Nat.le_of_ble_eq_true rfl) dX0_init_44 (fun q5 y5 H hK hP hD hS => ?_)
  have X : Hx D [(y1, .int), (y2, .int), (y3, .int), (y4, .int), (y5, .int)] A s H locs [(h, .inr (0, (List.range 19).map (va_up (va_up (va_up (va_up (dfl kdX0) 0 (.ref q1)) 1 (.ref q2)) 2 (.ref q3)) 3 (.ref q4)))), (q1, .inl (y1, 840, .inl (fun _ => 0))), (q2, .inl (y2, 840, .inl (fun _ => 0))), (q3, .inl (y3, 840, .inl (fun _ => 0))), (q4, .inl (y4, 840, .inl (fun _ => 0))), (q5, .inl (y5, 840, .inl (fun _ => 0)))] := ⟨hK, hP, hD, hS, X.2.2.2.2⟩
  refine W.widen (k := 5) (n := 4200) (Nat.le_of_ble_eq_true rfl) (Nat.le_of_ble_eq_true rfl) ?_
  refine va_putF (D := D.1) (ci := 0) (v := .ref q5) (ty := tyX0 4) (C := RX0) (T := TX0) (N := 19) hx hb hts wi_X0 tyX0 tyX0_ok nmX0 hown X.1 X.2.1 X.2.2.1 X.2.2.2.1 0 rfl rfl 4 (by decide) (hts _ q1_219) (fun _ h9 => h9) rfl hin rfl (by decide +kernel) rfl rfl (by rw [List.length_map, List.length_range]; decide) dX0_init_46 (fun H locs hP hD hS => ?_)
  have X : Hx D [(y1, .int), (y2, .int), (y3, .int), (y4, .int), (y5, .int)] A s H locs [(h, .inr (0, (List.range 19).map (va_up (va_up (va_up (va_up (va_up (dfl kdX0) 0 (.ref q1)) 1 (.ref q2)) 2 (.ref q3)) 3 (.ref q4)) 4 (.ref q5)))), (q1, .inl (y1, 840, .inl (fun _ => 0))), (q2, .inl (y2, 840, .inl (fun _ => 0))), (q3, .inl (y3, 840, .inl (fun _ => 0))), (q4, .inl (y4, 840, .inl (fun _ => 0))), (q5, .inl (y5, 840, .inl (fun _ => 0)))] := Hx_set X obj_set hP hD hS
  refine lv_aload_n hx hb dX0_init_49 rfl (lv_at hl 0 rfl) ?_
  refine lv_sipush (v := (840 : Int32)) hx hb dX0_init_50 (by decide) ?_
  refine va_newa (a0 := (840, .inl (fun _ => 0))) (N' := 840) hx hb (hts _ q1_125) rfl X.1 X.2.1 X.2.2.1 X.2.2.2.1 X.2.2.2.2.1 (fun _ => rfl) (by decide) (by decide) (by decide) (Nat.le_of_ble_eq_true rfl) (Nat.le_of_ble_eq_true rfl) dX0_init_53 (fun q6 y6 H hK hP hD hS => ?_)
  have X : Hx D [(y1, .int), (y2, .int), (y3, .int), (y4, .int), (y5, .int), (y6, .int)] A s H locs [(h, .inr (0, (List.range 19).map (va_up (va_up (va_up (va_up (va_up (dfl kdX0) 0 (.ref q1)) 1 (.ref q2)) 2 (.ref q3)) 3 (.ref q4)) 4 (.ref q5)))), (q1, .inl (y1, 840, .inl (fun _ => 0))), (q2, .inl (y2, 840, .inl (fun _ => 0))), (q3, .inl (y3, 840, .inl (fun _ => 0))), (q4, .inl (y4, 840, .inl (fun _ => 0))), (q5, .inl (y5, 840, .inl (fun _ => 0))), (q6, .inl (y6, 840, .inl (fun _ => 0)))] := ⟨hK, hP, hD, hS, X.2.2.2.2⟩
  refine W.widen (k := 6) (n := 5040) (Nat.le_of_ble_eq_true rfl) (Nat.le_of_ble_eq_true rfl) ?_
  refine va_putF (D := D.1) (ci := 0) (v := .ref q6) (ty := tyX0 5) (C := RX0) (T := TX0) (N := 19) hx hb hts wi_X0 tyX0 tyX0_ok nmX0 hown X.1 X.2.1 X.2.2.1 X.2.2.2.1 0 rfl rfl 5 (by decide) (hts _ q1_222) (fun _ h9 => h9) rfl hin rfl (by decide +kernel) rfl rfl (by rw [List.length_map, List.length_range]; decide) dX0_init_55 (fun H locs hP hD hS => ?_)
  have X : Hx D [(y1, .int), (y2, .int), (y3, .int), (y4, .int), (y5, .int), (y6, .int)] A s H locs [(h, .inr (0, (List.range 19).map (va_up (va_up (va_up (va_up (va_up (va_up (dfl kdX0) 0 (.ref q1)) 1 (.ref q2)) 2 (.ref q3)) 3 (.ref q4)) 4 (.ref q5)) 5 (.ref q6)))), (q1, .inl (y1, 840, .inl (fun _ => 0))), (q2, .inl (y2, 840, .inl (fun _ => 0))), (q3, .inl (y3, 840, .inl (fun _ => 0))), (q4, .inl (y4, 840, .inl (fun _ => 0))), (q5, .inl (y5, 840, .inl (fun _ => 0))), (q6, .inl (y6, 840, .inl (fun _ => 0)))] := Hx_set X obj_set hP hD hS
  refine lv_aload_n hx hb dX0_init_58 rfl (lv_at hl 0 rfl) ?_
  refine lv_sipush (v := (840 : Int32)) hx hb dX0_init_59 (by decide) ?_
  refine va_newa (a0 := (840, .inr (.inl (fun _ => 0)))) (N' := 840) hx hb (hts _ q1_124) rfl X.1 X.2.1 X.2.2.1 X.2.2.2.1 X.2.2.2.2.1 (fun _ => rfl) (by decide) (by decide) (by decide) (Nat.le_of_ble_eq_true rfl) (Nat.le_of_ble_eq_true rfl) dX0_init_62 (fun q7 y7 H hK hP hD hS => ?_)
  have X : Hx D [(y1, .int), (y2, .int), (y3, .int), (y4, .int), (y5, .int), (y6, .int), (y7, .long)] A s H locs [(h, .inr (0, (List.range 19).map (va_up (va_up (va_up (va_up (va_up (va_up (dfl kdX0) 0 (.ref q1)) 1 (.ref q2)) 2 (.ref q3)) 3 (.ref q4)) 4 (.ref q5)) 5 (.ref q6)))), (q1, .inl (y1, 840, .inl (fun _ => 0))), (q2, .inl (y2, 840, .inl (fun _ => 0))), (q3, .inl (y3, 840, .inl (fun _ => 0))), (q4, .inl (y4, 840, .inl (fun _ => 0))), (q5, .inl (y5, 840, .inl (fun _ => 0))), (q6, .inl (y6, 840, .inl (fun _ => 0))), (q7, .inl (y7, 840, .inr (.inl (fun _ => 0))))] := ⟨hK, hP, hD, hS, X.2.2.2.2⟩
  refine W.widen (k := 7) (n := 5880) (Nat.le_of_ble_eq_true rfl) (Nat.le_of_ble_eq_true rfl) ?_
  refine va_putF (D := D.1) (ci := 0) (v := .ref q7) (ty := tyX0 6) (C := RX0) (T := TX0) (N := 19) hx hb hts wi_X0 tyX0 tyX0_ok nmX0 hown X.1 X.2.1 X.2.2.1 X.2.2.2.1 0 rfl rfl 6 (by decide) (hts _ q1_227) (fun _ h9 => h9) rfl hin rfl (by decide +kernel) rfl rfl (by rw [List.length_map, List.length_range]; decide) dX0_init_64 (fun H locs hP hD hS => ?_)
  have X : Hx D [(y1, .int), (y2, .int), (y3, .int), (y4, .int), (y5, .int), (y6, .int), (y7, .long)] A s H locs [(h, .inr (0, (List.range 19).map (va_up (va_up (va_up (va_up (va_up (va_up (va_up (dfl kdX0) 0 (.ref q1)) 1 (.ref q2)) 2 (.ref q3)) 3 (.ref q4)) 4 (.ref q5)) 5 (.ref q6)) 6 (.ref q7)))), (q1, .inl (y1, 840, .inl (fun _ => 0))), (q2, .inl (y2, 840, .inl (fun _ => 0))), (q3, .inl (y3, 840, .inl (fun _ => 0))), (q4, .inl (y4, 840, .inl (fun _ => 0))), (q5, .inl (y5, 840, .inl (fun _ => 0))), (q6, .inl (y6, 840, .inl (fun _ => 0))), (q7, .inl (y7, 840, .inr (.inl (fun _ => 0))))] := Hx_set X obj_set hP hD hS
  refine lv_aload_n hx hb dX0_init_67 rfl (lv_at hl 0 rfl) ?_
  refine lv_sipush (v := (840 : Int32)) hx hb dX0_init_68 (by decide) ?_
  refine va_newa (a0 := (840, .inr (.inr (.inr (.inl (fun _ => 0)))))) (N' := 840) hx hb (hts _ q1_46) rfl X.1 X.2.1 X.2.2.1 X.2.2.2.1 X.2.2.2.2.1 (fun _ => rfl) (by decide) (by decide) (by decide) (Nat.le_of_ble_eq_true rfl) (Nat.le_of_ble_eq_true rfl) dX0_init_71 (fun q8 y8 H hK hP hD hS => ?_)
  have X : Hx D [(y1, .int), (y2, .int), (y3, .int), (y4, .int), (y5, .int), (y6, .int), (y7, .long), (y8, .double)] A s H locs [(h, .inr (0, (List.range 19).map (va_up (va_up (va_up (va_up (va_up (va_up (va_up (dfl kdX0) 0 (.ref q1)) 1 (.ref q2)) 2 (.ref q3)) 3 (.ref q4)) 4 (.ref q5)) 5 (.ref q6)) 6 (.ref q7)))), (q1, .inl (y1, 840, .inl (fun _ => 0))), (q2, .inl (y2, 840, .inl (fun _ => 0))), (q3, .inl (y3, 840, .inl (fun _ => 0))), (q4, .inl (y4, 840, .inl (fun _ => 0))), (q5, .inl (y5, 840, .inl (fun _ => 0))), (q6, .inl (y6, 840, .inl (fun _ => 0))), (q7, .inl (y7, 840, .inr (.inl (fun _ => 0)))), (q8, .inl (y8, 840, .inr (.inr (.inr (.inl (fun _ => 0))))))] := ⟨hK, hP, hD, hS, X.2.2.2.2⟩
  refine W.widen (k := 8) (n := 6720) (Nat.le_of_ble_eq_true rfl) (Nat.le_of_ble_eq_true rfl) ?_
  refine va_putF (D := D.1) (ci := 0) (v := .ref q8) (ty := tyX0 7) (C := RX0) (T := TX0) (N := 19) hx hb hts wi_X0 tyX0 tyX0_ok nmX0 hown X.1 X.2.1 X.2.2.1 X.2.2.2.1 0 rfl rfl 7 (by decide) (hts _ q1_230) (fun _ h9 => h9) rfl hin rfl (by decide +kernel) rfl rfl (by rw [List.length_map, List.length_range]; decide) dX0_init_73 (fun H locs hP hD hS => ?_)
  have X : Hx D [(y1, .int), (y2, .int), (y3, .int), (y4, .int), (y5, .int), (y6, .int), (y7, .long), (y8, .double)] A s H locs [(h, .inr (0, (List.range 19).map (va_up (va_up (va_up (va_up (va_up (va_up (va_up (va_up (dfl kdX0) 0 (.ref q1)) 1 (.ref q2)) 2 (.ref q3)) 3 (.ref q4)) 4 (.ref q5)) 5 (.ref q6)) 6 (.ref q7)) 7 (.ref q8)))), (q1, .inl (y1, 840, .inl (fun _ => 0))), (q2, .inl (y2, 840, .inl (fun _ => 0))), (q3, .inl (y3, 840, .inl (fun _ => 0))), (q4, .inl (y4, 840, .inl (fun _ => 0))), (q5, .inl (y5, 840, .inl (fun _ => 0))), (q6, .inl (y6, 840, .inl (fun _ => 0))), (q7, .inl (y7, 840, .inr (.inl (fun _ => 0)))), (q8, .inl (y8, 840, .inr (.inr (.inr (.inl (fun _ => 0))))))] := Hx_set X obj_set hP hD hS
  refine lv_aload_n hx hb dX0_init_76 rfl (lv_at hl 0 rfl) ?_
  refine lv_iconst (v := (0 : Int32)) hx hb dX0_init_77 (by decide) ?_
  refine va_put (D := D.1) (ci := 0) (v := .int (0 : Int32)) (ty := tyX0 8) (C := RX0) (T := TX0) (N := 19) hx hb hts wi_X0 tyX0 tyX0_ok nmX0 hown X.1 X.2.1 X.2.2.1 X.2.2.2.1 0 rfl rfl 8 (by decide) (hts _ q1_233) (fun _ h9 => h9) rfl (by decide +kernel) rfl rfl (by rw [List.length_map, List.length_range]; decide) dX0_init_78 (fun H locs hP hD hS => ?_)
  have X : Hx D [(y1, .int), (y2, .int), (y3, .int), (y4, .int), (y5, .int), (y6, .int), (y7, .long), (y8, .double)] A s H locs [(h, .inr (0, (List.range 19).map (va_up (va_up (va_up (va_up (va_up (va_up (va_up (va_up (va_up (dfl kdX0) 0 (.ref q1)) 1 (.ref q2)) 2 (.ref q3)) 3 (.ref q4)) 4 (.ref q5)) 5 (.ref q6)) 6 (.ref q7)) 7 (.ref q8)) 8 (.int (0 : Int32))))), (q1, .inl (y1, 840, .inl (fun _ => 0))), (q2, .inl (y2, 840, .inl (fun _ => 0))), (q3, .inl (y3, 840, .inl (fun _ => 0))), (q4, .inl (y4, 840, .inl (fun _ => 0))), (q5, .inl (y5, 840, .inl (fun _ => 0))), (q6, .inl (y6, 840, .inl (fun _ => 0))), (q7, .inl (y7, 840, .inr (.inl (fun _ => 0)))), (q8, .inl (y8, 840, .inr (.inr (.inr (.inl (fun _ => 0))))))] := Hx_set X obj_set hP hD hS
  refine lv_aload_n hx hb dX0_init_81 rfl (lv_at hl 0 rfl) ?_
  refine lv_iconst (v := (0 : Int32)) hx hb dX0_init_82 (by decide) ?_
  refine va_put (D := D.1) (ci := 0) (v := .int (0 : Int32)) (ty := tyX0 9) (C := RX0) (T := TX0) (N := 19) hx hb hts wi_X0 tyX0 tyX0_ok nmX0 hown X.1 X.2.1 X.2.2.1 X.2.2.2.1 0 rfl rfl 9 (by decide) (hts _ q1_235) (fun _ h9 => h9) rfl (by decide +kernel) rfl rfl (by rw [List.length_map, List.length_range]; decide) dX0_init_83 (fun H locs hP hD hS => ?_)
  have X : Hx D [(y1, .int), (y2, .int), (y3, .int), (y4, .int), (y5, .int), (y6, .int), (y7, .long), (y8, .double)] A s H locs [(h, .inr (0, (List.range 19).map (va_up (va_up (va_up (va_up (va_up (va_up (va_up (va_up (va_up (va_up (dfl kdX0) 0 (.ref q1)) 1 (.ref q2)) 2 (.ref q3)) 3 (.ref q4)) 4 (.ref q5)) 5 (.ref q6)) 6 (.ref q7)) 7 (.ref q8)) 8 (.int (0 : Int32))) 9 (.int (0 : Int32))))), (q1, .inl (y1, 840, .inl (fun _ => 0))), (q2, .inl (y2, 840, .inl (fun _ => 0))), (q3, .inl (y3, 840, .inl (fun _ => 0))), (q4, .inl (y4, 840, .inl (fun _ => 0))), (q5, .inl (y5, 840, .inl (fun _ => 0))), (q6, .inl (y6, 840, .inl (fun _ => 0))), (q7, .inl (y7, 840, .inr (.inl (fun _ => 0)))), (q8, .inl (y8, 840, .inr (.inr (.inr (.inl (fun _ => 0))))))] := Hx_set X obj_set hP hD hS
  refine lv_aload_n hx hb dX0_init_86 rfl (lv_at hl 0 rfl) ?_
  refine lv_iconst (v := (0 : Int32)) hx hb dX0_init_87 (by decide) ?_
  refine va_put (D := D.1) (ci := 0) (v := .int (0 : Int32)) (ty := tyX0 10) (C := RX0) (T := TX0) (N := 19) hx hb hts wi_X0 tyX0 tyX0_ok nmX0 hown X.1 X.2.1 X.2.2.1 X.2.2.2.1 0 rfl rfl 10 (by decide) (hts _ q1_238) (fun _ h9 => h9) rfl (by decide +kernel) rfl rfl (by rw [List.length_map, List.length_range]; decide) dX0_init_88 (fun H locs hP hD hS => ?_)
  have X : Hx D [(y1, .int), (y2, .int), (y3, .int), (y4, .int), (y5, .int), (y6, .int), (y7, .long), (y8, .double)] A s H locs [(h, .inr (0, (List.range 19).map (va_up (va_up (va_up (va_up (va_up (va_up (va_up (va_up (va_up (va_up (va_up (dfl kdX0) 0 (.ref q1)) 1 (.ref q2)) 2 (.ref q3)) 3 (.ref q4)) 4 (.ref q5)) 5 (.ref q6)) 6 (.ref q7)) 7 (.ref q8)) 8 (.int (0 : Int32))) 9 (.int (0 : Int32))) 10 (.int (0 : Int32))))), (q1, .inl (y1, 840, .inl (fun _ => 0))), (q2, .inl (y2, 840, .inl (fun _ => 0))), (q3, .inl (y3, 840, .inl (fun _ => 0))), (q4, .inl (y4, 840, .inl (fun _ => 0))), (q5, .inl (y5, 840, .inl (fun _ => 0))), (q6, .inl (y6, 840, .inl (fun _ => 0))), (q7, .inl (y7, 840, .inr (.inl (fun _ => 0)))), (q8, .inl (y8, 840, .inr (.inr (.inr (.inl (fun _ => 0))))))] := Hx_set X obj_set hP hD hS
  refine lv_aload_n hx hb dX0_init_91 rfl (lv_at hl 0 rfl) ?_
  refine lv_bipush (v := (92 : Int32)) hx hb dX0_init_92 (by decide) ?_
  refine va_newa (a0 := (92, .inl (fun _ => 0))) (N' := 92) hx hb (hts _ q1_125) rfl X.1 X.2.1 X.2.2.1 X.2.2.2.1 X.2.2.2.2.1 (fun _ => rfl) (by decide) (by decide) (by decide) (Nat.le_of_ble_eq_true rfl) (Nat.le_of_ble_eq_true rfl) dX0_init_94 (fun q9 y9 H hK hP hD hS => ?_)
  have X : Hx D [(y1, .int), (y2, .int), (y3, .int), (y4, .int), (y5, .int), (y6, .int), (y7, .long), (y8, .double), (y9, .int)] A s H locs [(h, .inr (0, (List.range 19).map (va_up (va_up (va_up (va_up (va_up (va_up (va_up (va_up (va_up (va_up (va_up (dfl kdX0) 0 (.ref q1)) 1 (.ref q2)) 2 (.ref q3)) 3 (.ref q4)) 4 (.ref q5)) 5 (.ref q6)) 6 (.ref q7)) 7 (.ref q8)) 8 (.int (0 : Int32))) 9 (.int (0 : Int32))) 10 (.int (0 : Int32))))), (q1, .inl (y1, 840, .inl (fun _ => 0))), (q2, .inl (y2, 840, .inl (fun _ => 0))), (q3, .inl (y3, 840, .inl (fun _ => 0))), (q4, .inl (y4, 840, .inl (fun _ => 0))), (q5, .inl (y5, 840, .inl (fun _ => 0))), (q6, .inl (y6, 840, .inl (fun _ => 0))), (q7, .inl (y7, 840, .inr (.inl (fun _ => 0)))), (q8, .inl (y8, 840, .inr (.inr (.inr (.inl (fun _ => 0)))))), (q9, .inl (y9, 92, .inl (fun _ => 0)))] := ⟨hK, hP, hD, hS, X.2.2.2.2⟩
  refine W.widen (k := 9) (n := 6812) (Nat.le_of_ble_eq_true rfl) (Nat.le_of_ble_eq_true rfl) ?_
  refine va_putF (D := D.1) (ci := 0) (v := .ref q9) (ty := tyX0 11) (C := RX0) (T := TX0) (N := 19) hx hb hts wi_X0 tyX0 tyX0_ok nmX0 hown X.1 X.2.1 X.2.2.1 X.2.2.2.1 0 rfl rfl 11 (by decide) (hts _ q2_0) (fun _ h9 => h9) rfl hin rfl (by decide +kernel) rfl rfl (by rw [List.length_map, List.length_range]; decide) dX0_init_96 (fun H locs hP hD hS => ?_)
  have X : Hx D [(y1, .int), (y2, .int), (y3, .int), (y4, .int), (y5, .int), (y6, .int), (y7, .long), (y8, .double), (y9, .int)] A s H locs [(h, .inr (0, (List.range 19).map (va_up (va_up (va_up (va_up (va_up (va_up (va_up (va_up (va_up (va_up (va_up (va_up (dfl kdX0) 0 (.ref q1)) 1 (.ref q2)) 2 (.ref q3)) 3 (.ref q4)) 4 (.ref q5)) 5 (.ref q6)) 6 (.ref q7)) 7 (.ref q8)) 8 (.int (0 : Int32))) 9 (.int (0 : Int32))) 10 (.int (0 : Int32))) 11 (.ref q9)))), (q1, .inl (y1, 840, .inl (fun _ => 0))), (q2, .inl (y2, 840, .inl (fun _ => 0))), (q3, .inl (y3, 840, .inl (fun _ => 0))), (q4, .inl (y4, 840, .inl (fun _ => 0))), (q5, .inl (y5, 840, .inl (fun _ => 0))), (q6, .inl (y6, 840, .inl (fun _ => 0))), (q7, .inl (y7, 840, .inr (.inl (fun _ => 0)))), (q8, .inl (y8, 840, .inr (.inr (.inr (.inl (fun _ => 0)))))), (q9, .inl (y9, 92, .inl (fun _ => 0)))] := Hx_set X obj_set hP hD hS
  refine lv_aload_n hx hb dX0_init_99 rfl (lv_at hl 0 rfl) ?_
  refine lv_bipush (v := (92 : Int32)) hx hb dX0_init_100 (by decide) ?_
  refine va_newa (a0 := (92, .inl (fun _ => 0))) (N' := 92) hx hb (hts _ q1_125) rfl X.1 X.2.1 X.2.2.1 X.2.2.2.1 X.2.2.2.2.1 (fun _ => rfl) (by decide) (by decide) (by decide) (Nat.le_of_ble_eq_true rfl) (Nat.le_of_ble_eq_true rfl) dX0_init_102 (fun q10 y10 H hK hP hD hS => ?_)
  have X : Hx D [(y1, .int), (y2, .int), (y3, .int), (y4, .int), (y5, .int), (y6, .int), (y7, .long), (y8, .double), (y9, .int), (y10, .int)] A s H locs [(h, .inr (0, (List.range 19).map (va_up (va_up (va_up (va_up (va_up (va_up (va_up (va_up (va_up (va_up (va_up (va_up (dfl kdX0) 0 (.ref q1)) 1 (.ref q2)) 2 (.ref q3)) 3 (.ref q4)) 4 (.ref q5)) 5 (.ref q6)) 6 (.ref q7)) 7 (.ref q8)) 8 (.int (0 : Int32))) 9 (.int (0 : Int32))) 10 (.int (0 : Int32))) 11 (.ref q9)))), (q1, .inl (y1, 840, .inl (fun _ => 0))), (q2, .inl (y2, 840, .inl (fun _ => 0))), (q3, .inl (y3, 840, .inl (fun _ => 0))), (q4, .inl (y4, 840, .inl (fun _ => 0))), (q5, .inl (y5, 840, .inl (fun _ => 0))), (q6, .inl (y6, 840, .inl (fun _ => 0))), (q7, .inl (y7, 840, .inr (.inl (fun _ => 0)))), (q8, .inl (y8, 840, .inr (.inr (.inr (.inl (fun _ => 0)))))), (q9, .inl (y9, 92, .inl (fun _ => 0))), (q10, .inl (y10, 92, .inl (fun _ => 0)))] := ⟨hK, hP, hD, hS, X.2.2.2.2⟩
  refine W.widen (k := 10) (n := 6904) (Nat.le_of_ble_eq_true rfl) (Nat.le_of_ble_eq_true rfl) ?_
  refine va_putF (D := D.1) (ci := 0) (v := .ref q10) (ty := tyX0 12) (C := RX0) (T := TX0) (N := 19) hx hb hts wi_X0 tyX0 tyX0_ok nmX0 hown X.1 X.2.1 X.2.2.1 X.2.2.2.1 0 rfl rfl 12 (by decide) (hts _ q2_5) (fun _ h9 => h9) rfl hin rfl (by decide +kernel) rfl rfl (by rw [List.length_map, List.length_range]; decide) dX0_init_104 (fun H locs hP hD hS => ?_)
  have X : Hx D [(y1, .int), (y2, .int), (y3, .int), (y4, .int), (y5, .int), (y6, .int), (y7, .long), (y8, .double), (y9, .int), (y10, .int)] A s H locs [(h, .inr (0, (List.range 19).map (va_up (va_up (va_up (va_up (va_up (va_up (va_up (va_up (va_up (va_up (va_up (va_up (va_up (dfl kdX0) 0 (.ref q1)) 1 (.ref q2)) 2 (.ref q3)) 3 (.ref q4)) 4 (.ref q5)) 5 (.ref q6)) 6 (.ref q7)) 7 (.ref q8)) 8 (.int (0 : Int32))) 9 (.int (0 : Int32))) 10 (.int (0 : Int32))) 11 (.ref q9)) 12 (.ref q10)))), (q1, .inl (y1, 840, .inl (fun _ => 0))), (q2, .inl (y2, 840, .inl (fun _ => 0))), (q3, .inl (y3, 840, .inl (fun _ => 0))), (q4, .inl (y4, 840, .inl (fun _ => 0))), (q5, .inl (y5, 840, .inl (fun _ => 0))), (q6, .inl (y6, 840, .inl (fun _ => 0))), (q7, .inl (y7, 840, .inr (.inl (fun _ => 0)))), (q8, .inl (y8, 840, .inr (.inr (.inr (.inl (fun _ => 0)))))), (q9, .inl (y9, 92, .inl (fun _ => 0))), (q10, .inl (y10, 92, .inl (fun _ => 0)))] := Hx_set X obj_set hP hD hS
  refine lv_aload_n hx hb dX0_init_107 rfl (lv_at hl 0 rfl) ?_
  refine lv_bipush (v := (92 : Int32)) hx hb dX0_init_108 (by decide) ?_
  refine va_newa (a0 := (92, .inl (fun _ => 0))) (N' := 92) hx hb (hts _ q1_125) rfl X.1 X.2.1 X.2.2.1 X.2.2.2.1 X.2.2.2.2.1 (fun _ => rfl) (by decide) (by decide) (by decide) (Nat.le_of_ble_eq_true rfl) (Nat.le_of_ble_eq_true rfl) dX0_init_110 (fun q11 y11 H hK hP hD hS => ?_)
  have X : Hx D [(y1, .int), (y2, .int), (y3, .int), (y4, .int), (y5, .int), (y6, .int), (y7, .long), (y8, .double), (y9, .int), (y10, .int), (y11, .int)] A s H locs [(h, .inr (0, (List.range 19).map (va_up (va_up (va_up (va_up (va_up (va_up (va_up (va_up (va_up (va_up (va_up (va_up (va_up (dfl kdX0) 0 (.ref q1)) 1 (.ref q2)) 2 (.ref q3)) 3 (.ref q4)) 4 (.ref q5)) 5 (.ref q6)) 6 (.ref q7)) 7 (.ref q8)) 8 (.int (0 : Int32))) 9 (.int (0 : Int32))) 10 (.int (0 : Int32))) 11 (.ref q9)) 12 (.ref q10)))), (q1, .inl (y1, 840, .inl (fun _ => 0))), (q2, .inl (y2, 840, .inl (fun _ => 0))), (q3, .inl (y3, 840, .inl (fun _ => 0))), (q4, .inl (y4, 840, .inl (fun _ => 0))), (q5, .inl (y5, 840, .inl (fun _ => 0))), (q6, .inl (y6, 840, .inl (fun _ => 0))), (q7, .inl (y7, 840, .inr (.inl (fun _ => 0)))), (q8, .inl (y8, 840, .inr (.inr (.inr (.inl (fun _ => 0)))))), (q9, .inl (y9, 92, .inl (fun _ => 0))), (q10, .inl (y10, 92, .inl (fun _ => 0))), (q11, .inl (y11, 92, .inl (fun _ => 0)))] := ⟨hK, hP, hD, hS, X.2.2.2.2⟩
  refine W.widen (k := 11) (n := 6996) (Nat.le_of_ble_eq_true rfl) (Nat.le_of_ble_eq_true rfl) ?_
  refine va_putF (D := D.1) (ci := 0) (v := .ref q11) (ty := tyX0 13) (C := RX0) (T := TX0) (N := 19) hx hb hts wi_X0 tyX0 tyX0_ok nmX0 hown X.1 X.2.1 X.2.2.1 X.2.2.2.1 0 rfl rfl 13 (by decide) (hts _ q2_10) (fun _ h9 => h9) rfl hin rfl (by decide +kernel) rfl rfl (by rw [List.length_map, List.length_range]; decide) dX0_init_112 (fun H locs hP hD hS => ?_)
  have X : Hx D [(y1, .int), (y2, .int), (y3, .int), (y4, .int), (y5, .int), (y6, .int), (y7, .long), (y8, .double), (y9, .int), (y10, .int), (y11, .int)] A s H locs [(h, .inr (0, (List.range 19).map (va_up (va_up (va_up (va_up (va_up (va_up (va_up (va_up (va_up (va_up (va_up (va_up (va_up (va_up (dfl kdX0) 0 (.ref q1)) 1 (.ref q2)) 2 (.ref q3)) 3 (.ref q4)) 4 (.ref q5)) 5 (.ref q6)) 6 (.ref q7)) 7 (.ref q8)) 8 (.int (0 : Int32))) 9 (.int (0 : Int32))) 10 (.int (0 : Int32))) 11 (.ref q9)) 12 (.ref q10)) 13 (.ref q11)))), (q1, .inl (y1, 840, .inl (fun _ => 0))), (q2, .inl (y2, 840, .inl (fun _ => 0))), (q3, .inl (y3, 840, .inl (fun _ => 0))), (q4, .inl (y4, 840, .inl (fun _ => 0))), (q5, .inl (y5, 840, .inl (fun _ => 0))), (q6, .inl (y6, 840, .inl (fun _ => 0))), (q7, .inl (y7, 840, .inr (.inl (fun _ => 0)))), (q8, .inl (y8, 840, .inr (.inr (.inr (.inl (fun _ => 0)))))), (q9, .inl (y9, 92, .inl (fun _ => 0))), (q10, .inl (y10, 92, .inl (fun _ => 0))), (q11, .inl (y11, 92, .inl (fun _ => 0)))] := Hx_set X obj_set hP hD hS
  refine lv_aload_n hx hb dX0_init_115 rfl (lv_at hl 0 rfl) ?_
  refine lv_bipush (v := (92 : Int32)) hx hb dX0_init_116 (by decide) ?_
  refine va_newa (a0 := (92, .inl (fun _ => 0))) (N' := 92) hx hb (hts _ q1_125) rfl X.1 X.2.1 X.2.2.1 X.2.2.2.1 X.2.2.2.2.1 (fun _ => rfl) (by decide) (by decide) (by decide) (Nat.le_of_ble_eq_true rfl) (Nat.le_of_ble_eq_true rfl) dX0_init_118 (fun q12 y12 H hK hP hD hS => ?_)
  have X : Hx D [(y1, .int), (y2, .int), (y3, .int), (y4, .int), (y5, .int), (y6, .int), (y7, .long), (y8, .double), (y9, .int), (y10, .int), (y11, .int), (y12, .int)] A s H locs [(h, .inr (0, (List.range 19).map (va_up (va_up (va_up (va_up (va_up (va_up (va_up (va_up (va_up (va_up (va_up (va_up (va_up (va_up (dfl kdX0) 0 (.ref q1)) 1 (.ref q2)) 2 (.ref q3)) 3 (.ref q4)) 4 (.ref q5)) 5 (.ref q6)) 6 (.ref q7)) 7 (.ref q8)) 8 (.int (0 : Int32))) 9 (.int (0 : Int32))) 10 (.int (0 : Int32))) 11 (.ref q9)) 12 (.ref q10)) 13 (.ref q11)))), (q1, .inl (y1, 840, .inl (fun _ => 0))), (q2, .inl (y2, 840, .inl (fun _ => 0))), (q3, .inl (y3, 840, .inl (fun _ => 0))), (q4, .inl (y4, 840, .inl (fun _ => 0))), (q5, .inl (y5, 840, .inl (fun _ => 0))), (q6, .inl (y6, 840, .inl (fun _ => 0))), (q7, .inl (y7, 840, .inr (.inl (fun _ => 0)))), (q8, .inl (y8, 840, .inr (.inr (.inr (.inl (fun _ => 0)))))), (q9, .inl (y9, 92, .inl (fun _ => 0))), (q10, .inl (y10, 92, .inl (fun _ => 0))), (q11, .inl (y11, 92, .inl (fun _ => 0))), (q12, .inl (y12, 92, .inl (fun _ => 0)))] := ⟨hK, hP, hD, hS, X.2.2.2.2⟩
  refine W.widen (k := 12) (n := 7088) (Nat.le_of_ble_eq_true rfl) (Nat.le_of_ble_eq_true rfl) ?_
  refine va_putF (D := D.1) (ci := 0) (v := .ref q12) (ty := tyX0 14) (C := RX0) (T := TX0) (N := 19) hx hb hts wi_X0 tyX0 tyX0_ok nmX0 hown X.1 X.2.1 X.2.2.1 X.2.2.2.1 0 rfl rfl 14 (by decide) (hts _ q2_13) (fun _ h9 => h9) rfl hin rfl (by decide +kernel) rfl rfl (by rw [List.length_map, List.length_range]; decide) dX0_init_120 (fun H locs hP hD hS => ?_)
  have X : Hx D [(y1, .int), (y2, .int), (y3, .int), (y4, .int), (y5, .int), (y6, .int), (y7, .long), (y8, .double), (y9, .int), (y10, .int), (y11, .int), (y12, .int)] A s H locs [(h, .inr (0, (List.range 19).map (va_up (va_up (va_up (va_up (va_up (va_up (va_up (va_up (va_up (va_up (va_up (va_up (va_up (va_up (va_up (dfl kdX0) 0 (.ref q1)) 1 (.ref q2)) 2 (.ref q3)) 3 (.ref q4)) 4 (.ref q5)) 5 (.ref q6)) 6 (.ref q7)) 7 (.ref q8)) 8 (.int (0 : Int32))) 9 (.int (0 : Int32))) 10 (.int (0 : Int32))) 11 (.ref q9)) 12 (.ref q10)) 13 (.ref q11)) 14 (.ref q12)))), (q1, .inl (y1, 840, .inl (fun _ => 0))), (q2, .inl (y2, 840, .inl (fun _ => 0))), (q3, .inl (y3, 840, .inl (fun _ => 0))), (q4, .inl (y4, 840, .inl (fun _ => 0))), (q5, .inl (y5, 840, .inl (fun _ => 0))), (q6, .inl (y6, 840, .inl (fun _ => 0))), (q7, .inl (y7, 840, .inr (.inl (fun _ => 0)))), (q8, .inl (y8, 840, .inr (.inr (.inr (.inl (fun _ => 0)))))), (q9, .inl (y9, 92, .inl (fun _ => 0))), (q10, .inl (y10, 92, .inl (fun _ => 0))), (q11, .inl (y11, 92, .inl (fun _ => 0))), (q12, .inl (y12, 92, .inl (fun _ => 0)))] := Hx_set X obj_set hP hD hS
  refine lv_aload_n hx hb dX0_init_123 rfl (lv_at hl 0 rfl) ?_
  refine lv_bipush (v := (92 : Int32)) hx hb dX0_init_124 (by decide) ?_
  refine va_newa (a0 := (92, .inl (fun _ => 0))) (N' := 92) hx hb (hts _ q1_125) rfl X.1 X.2.1 X.2.2.1 X.2.2.2.1 X.2.2.2.2.1 (fun _ => rfl) (by decide) (by decide) (by decide) (Nat.le_of_ble_eq_true rfl) (Nat.le_of_ble_eq_true rfl) dX0_init_126 (fun q13 y13 H hK hP hD hS => ?_)
  have X : Hx D [(y1, .int), (y2, .int), (y3, .int), (y4, .int), (y5, .int), (y6, .int), (y7, .long), (y8, .double), (y9, .int), (y10, .int), (y11, .int), (y12, .int), (y13, .int)] A s H locs [(h, .inr (0, (List.range 19).map (va_up (va_up (va_up (va_up (va_up (va_up (va_up (va_up (va_up (va_up (va_up (va_up (va_up (va_up (va_up (dfl kdX0) 0 (.ref q1)) 1 (.ref q2)) 2 (.ref q3)) 3 (.ref q4)) 4 (.ref q5)) 5 (.ref q6)) 6 (.ref q7)) 7 (.ref q8)) 8 (.int (0 : Int32))) 9 (.int (0 : Int32))) 10 (.int (0 : Int32))) 11 (.ref q9)) 12 (.ref q10)) 13 (.ref q11)) 14 (.ref q12)))), (q1, .inl (y1, 840, .inl (fun _ => 0))), (q2, .inl (y2, 840, .inl (fun _ => 0))), (q3, .inl (y3, 840, .inl (fun _ => 0))), (q4, .inl (y4, 840, .inl (fun _ => 0))), (q5, .inl (y5, 840, .inl (fun _ => 0))), (q6, .inl (y6, 840, .inl (fun _ => 0))), (q7, .inl (y7, 840, .inr (.inl (fun _ => 0)))), (q8, .inl (y8, 840, .inr (.inr (.inr (.inl (fun _ => 0)))))), (q9, .inl (y9, 92, .inl (fun _ => 0))), (q10, .inl (y10, 92, .inl (fun _ => 0))), (q11, .inl (y11, 92, .inl (fun _ => 0))), (q12, .inl (y12, 92, .inl (fun _ => 0))), (q13, .inl (y13, 92, .inl (fun _ => 0)))] := ⟨hK, hP, hD, hS, X.2.2.2.2⟩
  refine W.widen (k := 13) (n := 7180) (Nat.le_of_ble_eq_true rfl) (Nat.le_of_ble_eq_true rfl) ?_
  refine va_putF (D := D.1) (ci := 0) (v := .ref q13) (ty := tyX0 15) (C := RX0) (T := TX0) (N := 19) hx hb hts wi_X0 tyX0 tyX0_ok nmX0 hown X.1 X.2.1 X.2.2.1 X.2.2.2.1 0 rfl rfl 15 (by decide) (hts _ q2_16) (fun _ h9 => h9) rfl hin rfl (by decide +kernel) rfl rfl (by rw [List.length_map, List.length_range]; decide) dX0_init_128 (fun H locs hP hD hS => ?_)
  have X : Hx D [(y1, .int), (y2, .int), (y3, .int), (y4, .int), (y5, .int), (y6, .int), (y7, .long), (y8, .double), (y9, .int), (y10, .int), (y11, .int), (y12, .int), (y13, .int)] A s H locs [(h, .inr (0, (List.range 19).map (va_up (va_up (va_up (va_up (va_up (va_up (va_up (va_up (va_up (va_up (va_up (va_up (va_up (va_up (va_up (va_up (dfl kdX0) 0 (.ref q1)) 1 (.ref q2)) 2 (.ref q3)) 3 (.ref q4)) 4 (.ref q5)) 5 (.ref q6)) 6 (.ref q7)) 7 (.ref q8)) 8 (.int (0 : Int32))) 9 (.int (0 : Int32))) 10 (.int (0 : Int32))) 11 (.ref q9)) 12 (.ref q10)) 13 (.ref q11)) 14 (.ref q12)) 15 (.ref q13)))), (q1, .inl (y1, 840, .inl (fun _ => 0))), (q2, .inl (y2, 840, .inl (fun _ => 0))), (q3, .inl (y3, 840, .inl (fun _ => 0))), (q4, .inl (y4, 840, .inl (fun _ => 0))), (q5, .inl (y5, 840, .inl (fun _ => 0))), (q6, .inl (y6, 840, .inl (fun _ => 0))), (q7, .inl (y7, 840, .inr (.inl (fun _ => 0)))), (q8, .inl (y8, 840, .inr (.inr (.inr (.inl (fun _ => 0)))))), (q9, .inl (y9, 92, .inl (fun _ => 0))), (q10, .inl (y10, 92, .inl (fun _ => 0))), (q11, .inl (y11, 92, .inl (fun _ => 0))), (q12, .inl (y12, 92, .inl (fun _ => 0))), (q13, .inl (y13, 92, .inl (fun _ => 0)))] := Hx_set X obj_set hP hD hS
  refine lv_aload_n hx hb dX0_init_131 rfl (lv_at hl 0 rfl) ?_
  refine lv_bipush (v := (92 : Int32)) hx hb dX0_init_132 (by decide) ?_
  refine va_newa (a0 := (92, .inl (fun _ => 0))) (N' := 92) hx hb (hts _ q1_125) rfl X.1 X.2.1 X.2.2.1 X.2.2.2.1 X.2.2.2.2.1 (fun _ => rfl) (by decide) (by decide) (by decide) (Nat.le_of_ble_eq_true rfl) (Nat.le_of_ble_eq_true rfl) dX0_init_134 (fun q14 y14 H hK hP hD hS => ?_)
  have X : Hx D [(y1, .int), (y2, .int), (y3, .int), (y4, .int), (y5, .int), (y6, .int), (y7, .long), (y8, .double), (y9, .int), (y10, .int), (y11, .int), (y12, .int), (y13, .int), (y14, .int)] A s H locs [(h, .inr (0, (List.range 19).map (va_up (va_up (va_up (va_up (va_up (va_up (va_up (va_up (va_up (va_up (va_up (va_up (va_up (va_up (va_up (va_up (dfl kdX0) 0 (.ref q1)) 1 (.ref q2)) 2 (.ref q3)) 3 (.ref q4)) 4 (.ref q5)) 5 (.ref q6)) 6 (.ref q7)) 7 (.ref q8)) 8 (.int (0 : Int32))) 9 (.int (0 : Int32))) 10 (.int (0 : Int32))) 11 (.ref q9)) 12 (.ref q10)) 13 (.ref q11)) 14 (.ref q12)) 15 (.ref q13)))), (q1, .inl (y1, 840, .inl (fun _ => 0))), (q2, .inl (y2, 840, .inl (fun _ => 0))), (q3, .inl (y3, 840, .inl (fun _ => 0))), (q4, .inl (y4, 840, .inl (fun _ => 0))), (q5, .inl (y5, 840, .inl (fun _ => 0))), (q6, .inl (y6, 840, .inl (fun _ => 0))), (q7, .inl (y7, 840, .inr (.inl (fun _ => 0)))), (q8, .inl (y8, 840, .inr (.inr (.inr (.inl (fun _ => 0)))))), (q9, .inl (y9, 92, .inl (fun _ => 0))), (q10, .inl (y10, 92, .inl (fun _ => 0))), (q11, .inl (y11, 92, .inl (fun _ => 0))), (q12, .inl (y12, 92, .inl (fun _ => 0))), (q13, .inl (y13, 92, .inl (fun _ => 0))), (q14, .inl (y14, 92, .inl (fun _ => 0)))] := ⟨hK, hP, hD, hS, X.2.2.2.2⟩
  refine W.widen (k := 14) (n := 7272) (Nat.le_of_ble_eq_true rfl) (Nat.le_of_ble_eq_true rfl) ?_
  refine va_putF (D := D.1) (ci := 0) (v := .ref q14) (ty := tyX0 16) (C := RX0) (T := TX0) (N := 19) hx hb hts wi_X0 tyX0 tyX0_ok nmX0 hown X.1 X.2.1 X.2.2.1 X.2.2.2.1 0 rfl rfl 16 (by decide) (hts _ q2_19) (fun _ h9 => h9) rfl hin rfl (by decide +kernel) rfl rfl (by rw [List.length_map, List.length_range]; decide) dX0_init_136 (fun H locs hP hD hS => ?_)
  have X : Hx D [(y1, .int), (y2, .int), (y3, .int), (y4, .int), (y5, .int), (y6, .int), (y7, .long), (y8, .double), (y9, .int), (y10, .int), (y11, .int), (y12, .int), (y13, .int), (y14, .int)] A s H locs [(h, .inr (0, (List.range 19).map (va_up (va_up (va_up (va_up (va_up (va_up (va_up (va_up (va_up (va_up (va_up (va_up (va_up (va_up (va_up (va_up (va_up (dfl kdX0) 0 (.ref q1)) 1 (.ref q2)) 2 (.ref q3)) 3 (.ref q4)) 4 (.ref q5)) 5 (.ref q6)) 6 (.ref q7)) 7 (.ref q8)) 8 (.int (0 : Int32))) 9 (.int (0 : Int32))) 10 (.int (0 : Int32))) 11 (.ref q9)) 12 (.ref q10)) 13 (.ref q11)) 14 (.ref q12)) 15 (.ref q13)) 16 (.ref q14)))), (q1, .inl (y1, 840, .inl (fun _ => 0))), (q2, .inl (y2, 840, .inl (fun _ => 0))), (q3, .inl (y3, 840, .inl (fun _ => 0))), (q4, .inl (y4, 840, .inl (fun _ => 0))), (q5, .inl (y5, 840, .inl (fun _ => 0))), (q6, .inl (y6, 840, .inl (fun _ => 0))), (q7, .inl (y7, 840, .inr (.inl (fun _ => 0)))), (q8, .inl (y8, 840, .inr (.inr (.inr (.inl (fun _ => 0)))))), (q9, .inl (y9, 92, .inl (fun _ => 0))), (q10, .inl (y10, 92, .inl (fun _ => 0))), (q11, .inl (y11, 92, .inl (fun _ => 0))), (q12, .inl (y12, 92, .inl (fun _ => 0))), (q13, .inl (y13, 92, .inl (fun _ => 0))), (q14, .inl (y14, 92, .inl (fun _ => 0)))] := Hx_set X obj_set hP hD hS
  refine lv_aload_n hx hb dX0_init_139 rfl (lv_at hl 0 rfl) ?_
  refine lv_bipush (v := (92 : Int32)) hx hb dX0_init_140 (by decide) ?_
  refine va_newa (a0 := (92, .inl (fun _ => 0))) (N' := 92) hx hb (hts _ q1_125) rfl X.1 X.2.1 X.2.2.1 X.2.2.2.1 X.2.2.2.2.1 (fun _ => rfl) (by decide) (by decide) (by decide) (Nat.le_of_ble_eq_true rfl) (Nat.le_of_ble_eq_true rfl) dX0_init_142 (fun q15 y15 H hK hP hD hS => ?_)
  have X : Hx D [(y1, .int), (y2, .int), (y3, .int), (y4, .int), (y5, .int), (y6, .int), (y7, .long), (y8, .double), (y9, .int), (y10, .int), (y11, .int), (y12, .int), (y13, .int), (y14, .int), (y15, .int)] A s H locs [(h, .inr (0, (List.range 19).map (va_up (va_up (va_up (va_up (va_up (va_up (va_up (va_up (va_up (va_up (va_up (va_up (va_up (va_up (va_up (va_up (va_up (dfl kdX0) 0 (.ref q1)) 1 (.ref q2)) 2 (.ref q3)) 3 (.ref q4)) 4 (.ref q5)) 5 (.ref q6)) 6 (.ref q7)) 7 (.ref q8)) 8 (.int (0 : Int32))) 9 (.int (0 : Int32))) 10 (.int (0 : Int32))) 11 (.ref q9)) 12 (.ref q10)) 13 (.ref q11)) 14 (.ref q12)) 15 (.ref q13)) 16 (.ref q14)))), (q1, .inl (y1, 840, .inl (fun _ => 0))), (q2, .inl (y2, 840, .inl (fun _ => 0))), (q3, .inl (y3, 840, .inl (fun _ => 0))), (q4, .inl (y4, 840, .inl (fun _ => 0))), (q5, .inl (y5, 840, .inl (fun _ => 0))), (q6, .inl (y6, 840, .inl (fun _ => 0))), (q7, .inl (y7, 840, .inr (.inl (fun _ => 0)))), (q8, .inl (y8, 840, .inr (.inr (.inr (.inl (fun _ => 0)))))), (q9, .inl (y9, 92, .inl (fun _ => 0))), (q10, .inl (y10, 92, .inl (fun _ => 0))), (q11, .inl (y11, 92, .inl (fun _ => 0))), (q12, .inl (y12, 92, .inl (fun _ => 0))), (q13, .inl (y13, 92, .inl (fun _ => 0))), (q14, .inl (y14, 92, .inl (fun _ => 0))), (q15, .inl (y15, 92, .inl (fun _ => 0)))] := ⟨hK, hP, hD, hS, X.2.2.2.2⟩
  refine W.widen (k := 15) (n := 7364) (Nat.le_of_ble_eq_true rfl) (Nat.le_of_ble_eq_true rfl) ?_
  refine va_putF (D := D.1) (ci := 0) (v := .ref q15) (ty := tyX0 17) (C := RX0) (T := TX0) (N := 19) hx hb hts wi_X0 tyX0 tyX0_ok nmX0 hown X.1 X.2.1 X.2.2.1 X.2.2.2.1 0 rfl rfl 17 (by decide) (hts _ q2_22) (fun _ h9 => h9) rfl hin rfl (by decide +kernel) rfl rfl (by rw [List.length_map, List.length_range]; decide) dX0_init_144 (fun H locs hP hD hS => ?_)
  have X : Hx D [(y1, .int), (y2, .int), (y3, .int), (y4, .int), (y5, .int), (y6, .int), (y7, .long), (y8, .double), (y9, .int), (y10, .int), (y11, .int), (y12, .int), (y13, .int), (y14, .int), (y15, .int)] A s H locs [(h, .inr (0, (List.range 19).map (va_up (va_up (va_up (va_up (va_up (va_up (va_up (va_up (va_up (va_up (va_up (va_up (va_up (va_up (va_up (va_up (va_up (va_up (dfl kdX0) 0 (.ref q1)) 1 (.ref q2)) 2 (.ref q3)) 3 (.ref q4)) 4 (.ref q5)) 5 (.ref q6)) 6 (.ref q7)) 7 (.ref q8)) 8 (.int (0 : Int32))) 9 (.int (0 : Int32))) 10 (.int (0 : Int32))) 11 (.ref q9)) 12 (.ref q10)) 13 (.ref q11)) 14 (.ref q12)) 15 (.ref q13)) 16 (.ref q14)) 17 (.ref q15)))), (q1, .inl (y1, 840, .inl (fun _ => 0))), (q2, .inl (y2, 840, .inl (fun _ => 0))), (q3, .inl (y3, 840, .inl (fun _ => 0))), (q4, .inl (y4, 840, .inl (fun _ => 0))), (q5, .inl (y5, 840, .inl (fun _ => 0))), (q6, .inl (y6, 840, .inl (fun _ => 0))), (q7, .inl (y7, 840, .inr (.inl (fun _ => 0)))), (q8, .inl (y8, 840, .inr (.inr (.inr (.inl (fun _ => 0)))))), (q9, .inl (y9, 92, .inl (fun _ => 0))), (q10, .inl (y10, 92, .inl (fun _ => 0))), (q11, .inl (y11, 92, .inl (fun _ => 0))), (q12, .inl (y12, 92, .inl (fun _ => 0))), (q13, .inl (y13, 92, .inl (fun _ => 0))), (q14, .inl (y14, 92, .inl (fun _ => 0))), (q15, .inl (y15, 92, .inl (fun _ => 0)))] := Hx_set X obj_set hP hD hS
  refine lv_aload_n hx hb dX0_init_147 rfl (lv_at hl 0 rfl) ?_
  refine lv_iconst (v := (0 : Int32)) hx hb dX0_init_148 (by decide) ?_
  refine va_put (D := D.1) (ci := 0) (v := .int (0 : Int32)) (ty := tyX0 18) (C := RX0) (T := TX0) (N := 19) hx hb hts wi_X0 tyX0 tyX0_ok nmX0 hown X.1 X.2.1 X.2.2.1 X.2.2.2.1 0 rfl rfl 18 (by decide) (hts _ q2_26) (fun _ h9 => h9) rfl (by decide +kernel) rfl rfl (by rw [List.length_map, List.length_range]; decide) dX0_init_149 (fun H locs hP hD hS => ?_)
  have X : Hx D [(y1, .int), (y2, .int), (y3, .int), (y4, .int), (y5, .int), (y6, .int), (y7, .long), (y8, .double), (y9, .int), (y10, .int), (y11, .int), (y12, .int), (y13, .int), (y14, .int), (y15, .int)] A s H locs [(h, .inr (0, (List.range 19).map (va_up (va_up (va_up (va_up (va_up (va_up (va_up (va_up (va_up (va_up (va_up (va_up (va_up (va_up (va_up (va_up (va_up (va_up (va_up (dfl kdX0) 0 (.ref q1)) 1 (.ref q2)) 2 (.ref q3)) 3 (.ref q4)) 4 (.ref q5)) 5 (.ref q6)) 6 (.ref q7)) 7 (.ref q8)) 8 (.int (0 : Int32))) 9 (.int (0 : Int32))) 10 (.int (0 : Int32))) 11 (.ref q9)) 12 (.ref q10)) 13 (.ref q11)) 14 (.ref q12)) 15 (.ref q13)) 16 (.ref q14)) 17 (.ref q15)) 18 (.int (0 : Int32))))), (q1, .inl (y1, 840, .inl (fun _ => 0))), (q2, .inl (y2, 840, .inl (fun _ => 0))), (q3, .inl (y3, 840, .inl (fun _ => 0))), (q4, .inl (y4, 840, .inl (fun _ => 0))), (q5, .inl (y5, 840, .inl (fun _ => 0))), (q6, .inl (y6, 840, .inl (fun _ => 0))), (q7, .inl (y7, 840, .inr (.inl (fun _ => 0)))), (q8, .inl (y8, 840, .inr (.inr (.inr (.inl (fun _ => 0)))))), (q9, .inl (y9, 92, .inl (fun _ => 0))), (q10, .inl (y10, 92, .inl (fun _ => 0))), (q11, .inl (y11, 92, .inl (fun _ => 0))), (q12, .inl (y12, 92, .inl (fun _ => 0))), (q13, .inl (y13, 92, .inl (fun _ => 0))), (q14, .inl (y14, 92, .inl (fun _ => 0))), (q15, .inl (y15, 92, .inl (fun _ => 0)))] := Hx_set X obj_set hP hD hS
  have e1 : (List.range 19).map (va_up (va_up (va_up (va_up (va_up (va_up (va_up (va_up (va_up (va_up (va_up (va_up (va_up (va_up (va_up (va_up (va_up (va_up (va_up (dfl kdX0) 0 (.ref q1)) 1 (.ref q2)) 2 (.ref q3)) 3 (.ref q4)) 4 (.ref q5)) 5 (.ref q6)) 6 (.ref q7)) 7 (.ref q8)) 8 (.int (0 : Int32))) 9 (.int (0 : Int32))) 10 (.int (0 : Int32))) 11 (.ref q9)) 12 (.ref q10)) 13 (.ref q11)) 14 (.ref q12)) 15 (.ref q13)) 16 (.ref q14)) 17 (.ref q15)) 18 (.int (0 : Int32))) = (List.range 19).map (fld kdX0 (fun k => ([q1, q2, q3, q4, q5, q6, q7, q8, 0, 0, 0, q9, q10, q11, q12, q13, q14, q15, 0] : List Nat).getD k 0) g0X0) := by rfl
  have e2 : ([(q1, .inl (y1, 840, .inl (fun _ => 0))), (q2, .inl (y2, 840, .inl (fun _ => 0))), (q3, .inl (y3, 840, .inl (fun _ => 0))), (q4, .inl (y4, 840, .inl (fun _ => 0))), (q5, .inl (y5, 840, .inl (fun _ => 0))), (q6, .inl (y6, 840, .inl (fun _ => 0))), (q7, .inl (y7, 840, .inr (.inl (fun _ => 0)))), (q8, .inl (y8, 840, .inr (.inr (.inr (.inl (fun _ => 0)))))), (q9, .inl (y9, 92, .inl (fun _ => 0))), (q10, .inl (y10, 92, .inl (fun _ => 0))), (q11, .inl (y11, 92, .inl (fun _ => 0))), (q12, .inl (y12, 92, .inl (fun _ => 0))), (q13, .inl (y13, 92, .inl (fun _ => 0))), (q14, .inl (y14, 92, .inl (fun _ => 0))), (q15, .inl (y15, 92, .inl (fun _ => 0)))] : va_W) = ksX0.map (arF akX0 lnX0 (fun k => ([q1, q2, q3, q4, q5, q6, q7, q8, 0, 0, 0, q9, q10, q11, q12, q13, q14, q15, 0] : List Nat).getD k 0) (fun k => ([y1, y2, y3, y4, y5, y6, y7, y8, y1, y1, y1, y9, y10, y11, y12, y13, y14, y15, y1] : List ClassId).getD k y1) g0X0) := by rfl
  have X := X
  have hP9 : va_P D.1 vwCl (wX0 h (fun k => ([q1, q2, q3, q4, q5, q6, q7, q8, 0, 0, 0, q9, q10, q11, q12, q13, q14, q15, 0] : List Nat).getD k 0) (fun k => ([y1, y2, y3, y4, y5, y6, y7, y8, y1, y1, y1, y9, y10, y11, y12, y13, y14, y15, y1] : List ClassId).getD k y1) g0X0) H := (obj_eq e1 e2) ▸ X.2.1
  have hD9 : va_D A (wX0 h (fun k => ([q1, q2, q3, q4, q5, q6, q7, q8, 0, 0, 0, q9, q10, q11, q12, q13, q14, q15, 0] : List Nat).getD k 0) (fun k => ([y1, y2, y3, y4, y5, y6, y7, y8, y1, y1, y1, y9, y10, y11, y12, y13, y14, y15, y1] : List ClassId).getD k y1) g0X0) := (obj_eq e1 e2) ▸ X.2.2.1
  have hK9 : va_K D.1 vwCl (tX0 (fun k => ([y1, y2, y3, y4, y5, y6, y7, y8, y1, y1, y1, y9, y10, y11, y12, y13, y14, y15, y1] : List ClassId).getD k y1)) s := X.1
  exact W.vret hx hb hr (fun t ht hW => ⟨⟨((fun k => ([q1, q2, q3, q4, q5, q6, q7, q8, 0, 0, 0, q9, q10, q11, q12, q13, q14, q15, 0] : List Nat).getD k 0), (fun k => ([y1, y2, y3, y4, y5, y6, y7, y8, y1, y1, y1, y9, y10, y11, y12, y13, y14, y15, y1] : List ClassId).getD k y1)), rfl, trivial, by rw [ht]; exact hP9, va_K.moved hW.alike hK9, hD9⟩, X.2.2.2.1.F ht⟩) X.2.2.2.1.2.2 dX0_init_152 hlk

/-! ### X9_init -/
theorem dX9_init_0 : decode cX9_init 0 = .ok (.aload_n 0, 1) := by decide +kernel
theorem dX9_init_1 : decode cX9_init 1 = .ok (.invokespecial 3, 3) := by decide +kernel
theorem dX9_init_4 : decode cX9_init 4 = .ok (.aload_n 0, 1) := by decide +kernel
theorem dX9_init_5 : decode cX9_init 5 = .ok (.bipush 40, 2) := by decide +kernel
theorem dX9_init_7 : decode cX9_init 7 = .ok (.newarray .long, 2) := by decide +kernel
theorem dX9_init_9 : decode cX9_init 9 = .ok (.putfield 9, 3) := by decide +kernel
theorem dX9_init_12 : decode cX9_init 12 = .ok (.aload_n 0, 1) := by decide +kernel
theorem dX9_init_13 : decode cX9_init 13 = .ok (.bipush 40, 2) := by decide +kernel
theorem dX9_init_15 : decode cX9_init 15 = .ok (.newarray .double, 2) := by decide +kernel
theorem dX9_init_17 : decode cX9_init 17 = .ok (.putfield 15, 3) := by decide +kernel
theorem dX9_init_20 : decode cX9_init 20 = .ok (.aload_n 0, 1) := by decide +kernel
theorem dX9_init_21 : decode cX9_init 21 = .ok (.bipush 40, 2) := by decide +kernel
theorem dX9_init_23 : decode cX9_init 23 = .ok (.newarray .long, 2) := by decide +kernel
theorem dX9_init_25 : decode cX9_init 25 = .ok (.putfield 19, 3) := by decide +kernel
theorem dX9_init_28 : decode cX9_init 28 = .ok (.aload_n 0, 1) := by decide +kernel
theorem dX9_init_29 : decode cX9_init 29 = .ok (.bipush 40, 2) := by decide +kernel
theorem dX9_init_31 : decode cX9_init 31 = .ok (.newarray .double, 2) := by decide +kernel
theorem dX9_init_33 : decode cX9_init 33 = .ok (.putfield 22, 3) := by decide +kernel
theorem dX9_init_36 : decode cX9_init 36 = .ok (.aload_n 0, 1) := by decide +kernel
theorem dX9_init_37 : decode cX9_init 37 = .ok (.sipush 1280, 3) := by decide +kernel
theorem dX9_init_40 : decode cX9_init 40 = .ok (.newarray .long, 2) := by decide +kernel
theorem dX9_init_42 : decode cX9_init 42 = .ok (.putfield 25, 3) := by decide +kernel
theorem dX9_init_45 : decode cX9_init 45 = .ok (.aload_n 0, 1) := by decide +kernel
theorem dX9_init_46 : decode cX9_init 46 = .ok (.sipush 1280, 3) := by decide +kernel
theorem dX9_init_49 : decode cX9_init 49 = .ok (.newarray .double, 2) := by decide +kernel
theorem dX9_init_51 : decode cX9_init 51 = .ok (.putfield 28, 3) := by decide +kernel
theorem dX9_init_54 : decode cX9_init 54 = .ok (.aload_n 0, 1) := by decide +kernel
theorem dX9_init_55 : decode cX9_init 55 = .ok (.bipush 52, 2) := by decide +kernel
theorem dX9_init_57 : decode cX9_init 57 = .ok (.newarray .int, 2) := by decide +kernel
theorem dX9_init_59 : decode cX9_init 59 = .ok (.putfield 31, 3) := by decide +kernel
theorem dX9_init_62 : decode cX9_init 62 = .ok (.aload_n 0, 1) := by decide +kernel
theorem dX9_init_63 : decode cX9_init 63 = .ok (.bipush 52, 2) := by decide +kernel
theorem dX9_init_65 : decode cX9_init 65 = .ok (.newarray .int, 2) := by decide +kernel
theorem dX9_init_67 : decode cX9_init 67 = .ok (.putfield 35, 3) := by decide +kernel
theorem dX9_init_70 : decode cX9_init 70 = .ok (.aload_n 0, 1) := by decide +kernel
theorem dX9_init_71 : decode cX9_init 71 = .ok (.bipush 52, 2) := by decide +kernel
theorem dX9_init_73 : decode cX9_init 73 = .ok (.newarray .int, 2) := by decide +kernel
theorem dX9_init_75 : decode cX9_init 75 = .ok (.putfield 38, 3) := by decide +kernel
theorem dX9_init_78 : decode cX9_init 78 = .ok (.aload_n 0, 1) := by decide +kernel
theorem dX9_init_79 : decode cX9_init 79 = .ok (.bipush 12, 2) := by decide +kernel
theorem dX9_init_81 : decode cX9_init 81 = .ok (.newarray .int, 2) := by decide +kernel
theorem dX9_init_83 : decode cX9_init 83 = .ok (.putfield 41, 3) := by decide +kernel
theorem dX9_init_86 : decode cX9_init 86 = .ok (.aload_n 0, 1) := by decide +kernel
theorem dX9_init_87 : decode cX9_init 87 = .ok (.bipush 64, 2) := by decide +kernel
theorem dX9_init_89 : decode cX9_init 89 = .ok (.newarray .long, 2) := by decide +kernel
theorem dX9_init_91 : decode cX9_init 91 = .ok (.putfield 44, 3) := by decide +kernel
theorem dX9_init_94 : decode cX9_init 94 = .ok (.aload_n 0, 1) := by decide +kernel
theorem dX9_init_95 : decode cX9_init 95 = .ok (.bipush 64, 2) := by decide +kernel
theorem dX9_init_97 : decode cX9_init 97 = .ok (.newarray .int, 2) := by decide +kernel
theorem dX9_init_99 : decode cX9_init 99 = .ok (.putfield 47, 3) := by decide +kernel
theorem dX9_init_102 : decode cX9_init 102 = .ok (.aload_n 0, 1) := by decide +kernel
theorem dX9_init_103 : decode cX9_init 103 = .ok (.iconst 0, 1) := by decide +kernel
theorem dX9_init_104 : decode cX9_init 104 = .ok (.putfield 50, 3) := by decide +kernel
theorem dX9_init_107 : decode cX9_init 107 = .ok (.aload_n 0, 1) := by decide +kernel
theorem dX9_init_108 : decode cX9_init 108 = .ok (.lconst 0, 1) := by decide +kernel
theorem dX9_init_109 : decode cX9_init 109 = .ok (.putfield 54, 3) := by decide +kernel
theorem dX9_init_112 : decode cX9_init 112 = .ok (.aload_n 0, 1) := by decide +kernel
theorem dX9_init_113 : decode cX9_init 113 = .ok (.dconst 0, 1) := by decide +kernel
theorem dX9_init_114 : decode cX9_init 114 = .ok (.putfield 58, 3) := by decide +kernel
theorem dX9_init_117 : decode cX9_init 117 = .ok (.aload_n 0, 1) := by decide +kernel
theorem dX9_init_118 : decode cX9_init 118 = .ok (.iconst 0, 1) := by decide +kernel
theorem dX9_init_119 : decode cX9_init 119 = .ok (.putfield 62, 3) := by decide +kernel
theorem dX9_init_122 : decode cX9_init 122 = .ok (.return_, 1) := by decide +kernel
def g0X9 : Gs := g00
theorem dfX9 : ∀ j, j < 16 → defaultValue (tyX9 j) = vp_V ((List.range 16).map (dfl kdX9)) j := by decide +kernel
set_option maxHeartbeats 4000000 in
set_option maxRecDepth 100000 in
theorem n_X9_init (l : Launch) (D : Dx) (h : Nat) (sz : Nat) : Met l yX9_init (ws_ yX9_init cX9_init 1 none) { frames := 1, cells := 12, slots := 3016, locals := 40 } (PC D [] [.ref h] [(h, .inr (9, (List.range 16).map (dfl kdX9)))] sz) (QN D (fun u : AY => True) (va_A [(h, .inr (9, (List.range 16).map (dfl kdX9)))] sz) (fun u => wX9 h u.1 u.2 g0X9) (fun u => tX9 u.2)) 12 3016 (va_A [(h, .inr (9, (List.range 16).map (dfl kdX9)))] sz) := by
  refine Met.ofW (cc := cX9_init) (maxL := 1) (ret := none) (by decide) rfl ?_
  intro p e s m args below meth c s₁ B hml hv
  obtain ⟨rfl, hsz, hP, hK, hD, hN⟩ := hv
  subst hsz
  have C : Cx p s m _ meth c cX9_init none 1 RX9 lw_all := Cx_of B hml
  have X := Hx_start hP hK hD hN
  have hin : meth.name = "<init>" := (name_of_methodNamed B.named B.method).1
  obtain ⟨hx, hb, hr, -, hown, hts, hlk⟩ := id C
  generalize va_A [(h, .inr (9, (List.range 16).map (dfl kdX9)))] s.heap.size = A at X ⊢
  have hl := lv_entry ([.ref h]) (n := 1) (Nat.le_of_ble_eq_true rfl)
  rw [lg_entry_eq]
  generalize (lg_sl ([.ref h]) ++ List.replicate (1 - (lg_sl ([.ref h])).length) Slot.unset).toArray = ls at hl ⊢
  have hl : lv_has ls 1 [(0, .ref h)] := hl
  refine lv_aload_n hx hb dX9_init_0 rfl (lv_at hl 0 rfl) ?_
  refine W.objInit hx hb hown (hts _ q1_52) (hts _ q1_31) (hts _ q1_32) rfl (by rw [hml]; exact hl.1) rfl dX9_init_1 (Nat.le_of_ble_eq_true rfl) (Nat.le_of_ble_eq_true rfl) ?_
  refine W.eq (g2 := F0 m 4 ls []) rfl ?_
  refine lv_aload_n hx hb dX9_init_4 rfl (lv_at hl 0 rfl) ?_
  refine lv_bipush (v := (40 : Int32)) hx hb dX9_init_5 (by decide) ?_
  refine va_newa (a0 := (40, .inr (.inl (fun _ => 0)))) (N' := 40) hx hb (hts _ q1_124) rfl X.1 X.2.1 X.2.2.1 X.2.2.2.1 X.2.2.2.2.1 (fun _ => rfl) (by decide) (by decide) (by decide) (Nat.le_of_ble_eq_true rfl) (Nat.le_of_ble_eq_true rfl) dX9_init_7 (fun q1 y1 H hK hP hD hS => ?_)
  have X : Hx D [(y1, .long)] A s H locs [(h, .inr (9, (List.range 16).map (dfl kdX9))), (q1, .inl (y1, 40, .inr (.inl (fun _ => 0))))] := ⟨hK, hP, hD, hS, X.2.2.2.2⟩
  refine W.widen (k := 1) (n := 40) (Nat.le_of_ble_eq_true rfl) (Nat.le_of_ble_eq_true rfl) ?_
  refine va_putF (D := D.1) (ci := 9) (v := .ref q1) (ty := tyX9 0) (C := RX9) (T := TX9) (N := 16) hx hb hts wi_X9 tyX9 tyX9_ok nmX9 hown X.1 X.2.1 X.2.2.1 X.2.2.2.1 0 rfl rfl 0 (by decide) (hts _ q1_53) (fun _ h9 => h9) rfl hin rfl (by decide +kernel) rfl rfl (by rw [List.length_map, List.length_range]; decide) dX9_init_9 (fun H locs hP hD hS => ?_)
  have X : Hx D [(y1, .long)] A s H locs [(h, .inr (9, (List.range 16).map (va_up (dfl kdX9) 0 (.ref q1)))), (q1, .inl (y1, 40, .inr (.inl (fun _ => 0))))] := Hx_set X obj_set hP hD hS
  refine lv_aload_n hx hb dX9_init_12 rfl (lv_at hl 0 rfl) ?_
  refine lv_bipush (v := (40 : Int32)) hx hb dX9_init_13 (by decide) ?_
  refine va_newa (a0 := (40, .inr (.inr (.inr (.inl (fun _ => 0)))))) (N' := 40) hx hb (hts _ q1_46) rfl X.1 X.2.1 X.2.2.1 X.2.2.2.1 X.2.2.2.2.1 (fun _ => rfl) (by decide) (by decide) (by decide) (Nat.le_of_ble_eq_true rfl) (Nat.le_of_ble_eq_true rfl) dX9_init_15 (fun q2 y2 H hK hP hD hS => ?_)
  have X : Hx D [(y1, .long), (y2, .double)] A s H locs [(h, .inr (9, (List.range 16).map (va_up (dfl kdX9) 0 (.ref q1)))), (q1, .inl (y1, 40, .inr (.inl (fun _ => 0)))), (q2, .inl (y2, 40, .inr (.inr (.inr (.inl (fun _ => 0))))))] := ⟨hK, hP, hD, hS, X.2.2.2.2⟩
  refine W.widen (k := 2) (n := 80) (Nat.le_of_ble_eq_true rfl) (Nat.le_of_ble_eq_true rfl) ?_
  refine va_putF (D := D.1) (ci := 9) (v := .ref q2) (ty := tyX9 1) (C := RX9) (T := TX9) (N := 16) hx hb hts wi_X9 tyX9 tyX9_ok nmX9 hown X.1 X.2.1 X.2.2.1 X.2.2.2.1 0 rfl rfl 1 (by decide) (hts _ q1_56) (fun _ h9 => h9) rfl hin rfl (by decide +kernel) rfl rfl (by rw [List.length_map, List.length_range]; decide) dX9_init_17 (fun H locs hP hD hS => ?_)
  have X : Hx D [(y1, .long), (y2, .double)] A s H locs [(h, .inr (9, (List.range 16).map (va_up (va_up (dfl kdX9) 0 (.ref q1)) 1 (.ref q2)))), (q1, .inl (y1, 40, .inr (.inl (fun _ => 0)))), (q2, .inl (y2, 40, .inr (.inr (.inr (.inl (fun _ => 0))))))] := Hx_set X obj_set hP hD hS
  refine lv_aload_n hx hb dX9_init_20 rfl (lv_at hl 0 rfl) ?_
  refine lv_bipush (v := (40 : Int32)) hx hb dX9_init_21 (by decide) ?_
  refine va_newa (a0 := (40, .inr (.inl (fun _ => 0)))) (N' := 40) hx hb (hts _ q1_124) rfl X.1 X.2.1 X.2.2.1 X.2.2.2.1 X.2.2.2.2.1 (fun _ => rfl) (by decide) (by decide) (by decide) (Nat.le_of_ble_eq_true rfl) (Nat.le_of_ble_eq_true rfl) dX9_init_23 (fun q3 y3 H hK hP hD hS => ?_)
  have X : Hx D [(y1, .long), (y2, .double), (y3, .long)] A s H locs [(h, .inr (9, (List.range 16).map (va_up (va_up (dfl kdX9) 0 (.ref q1)) 1 (.ref q2)))), (q1, .inl (y1, 40, .inr (.inl (fun _ => 0)))), (q2, .inl (y2, 40, .inr (.inr (.inr (.inl (fun _ => 0)))))), (q3, .inl (y3, 40, .inr (.inl (fun _ => 0))))] := ⟨hK, hP, hD, hS, X.2.2.2.2⟩
  refine W.widen (k := 3) (n := 120) (Nat.le_of_ble_eq_true rfl) (Nat.le_of_ble_eq_true rfl) ?_
  refine va_putF (D := D.1) (ci := 9) (v := .ref q3) (ty := tyX9 2) (C := RX9) (T := TX9) (N := 16) hx hb hts wi_X9 tyX9 tyX9_ok nmX9 hown X.1 X.2.1 X.2.2.1 X.2.2.2.1 0 rfl rfl 2 (by decide) (hts _ q1_59) (fun _ h9 => h9) rfl hin rfl (by decide +kernel) rfl rfl (by rw [List.length_map, List.length_range]; decide) dX9_init_25 (fun H locs hP hD hS => ?_)
  have X : Hx D [(y1, .long), (y2, .double), (y3, .long)] A s H locs [(h, .inr (9, (List.range 16).map (va_up (va_up (va_up (dfl kdX9) 0 (.ref q1)) 1 (.ref q2)) 2 (.ref q3)))), (q1, .inl (y1, 40, .inr (.inl (fun _ => 0)))), (q2, .inl (y2, 40, .inr (.inr (.inr (.inl (fun _ => 0)))))), (q3, .inl (y3, 40, .inr (.inl (fun _ => 0))))] := Hx_set X obj_set hP hD hS
  refine lv_aload_n hx hb dX9_init_28 rfl (lv_at hl 0 rfl) ?_
  refine lv_bipush (v := (40 : Int32)) hx hb dX9_init_29 (by decide) ?_
  refine va_newa (a0 := (40, .inr (.inr (.inr (.inl (fun _ => 0)))))) (N' := 40) hx hb (hts _ q1_46) rfl X.1 X.2.1 X.2.2.1 X.2.2.2.1 X.2.2.2.2.1 (fun _ => rfl) (by decide) (by decide) (by decide) (Nat.le_of_ble_eq_true rfl) (Nat.le_of_ble_eq_true rfl) dX9_init_31 (fun q4 y4 H hK hP hD hS => ?_)
  have X : Hx D [(y1, .long), (y2, .double), (y3, .long), (y4, .double)] A s H locs [(h, .inr (9, (List.range 16).map (va_up (va_up (va_up (dfl kdX9) 0 (.ref q1)) 1 (.ref q2)) 2 (.ref q3)))), (q1, .inl (y1, 40, .inr (.inl (fun _ => 0)))), (q2, .inl (y2, 40, .inr (.inr (.inr (.inl (fun _ => 0)))))), (q3, .inl (y3, 40, .inr (.inl (fun _ => 0)))), (q4, .inl (y4, 40, .inr (.inr (.inr (.inl (fun _ => 0))))))] := ⟨hK, hP, hD, hS, X.2.2.2.2⟩
  refine W.widen (k := 4) (n := 160) (Nat.le_of_ble_eq_true rfl) (Nat.le_of_ble_eq_true rfl) ?_
  refine va_putF (D := D.1) (ci := 9) (v := .ref q4) (ty := tyX9 3) (C := RX9) (T := TX9) (N := 16) hx hb hts wi_X9 tyX9 tyX9_ok nmX9 hown X.1 X.2.1 X.2.2.1 X.2.2.2.1 0 rfl rfl 3 (by decide) (hts _ q1_62) (fun _ h9 => h9) rfl hin rfl (by decide +kernel) rfl rfl (by rw [List.length_map, List.length_range]; decide) dX9_init_33 (fun H locs hP hD hS => ?_)
  have X : Hx D [(y1, .long), (y2, .double), (y3, .long), (y4, .double)] A s H locs [(h, .inr (9, (List.range 16).map (va_up (va_up (va_up (va_up (dfl kdX9) 0 (.ref q1)) 1 (.ref q2)) 2 (.ref q3)) 3 (.ref q4)))), (q1, .inl (y1, 40, .inr (.inl (fun _ => 0)))), (q2, .inl (y2, 40, .inr (.inr (.inr (.inl (fun _ => 0)))))), (q3, .inl (y3, 40, .inr (.inl (fun _ => 0)))), (q4, .inl (y4, 40, .inr (.inr (.inr (.inl (fun _ => 0))))))] := Hx_set X obj_set hP hD hS
  refine lv_aload_n hx hb dX9_init_36 rfl (lv_at hl 0 rfl) ?_
  refine lv_sipush (v := (1280 : Int32)) hx hb dX9_init_37 (by decide) ?_
  refine va_newa (a0 := (1280, .inr (.inl (fun _ => 0)))) (N' := 1280) hx hb (hts _ q1_124) rfl X.1 X.2.1 X.2.2.1 X.2.2.2.1 X.2.2.2.2.1 (fun _ => rfl) (by decide) (by decide) (by decide) (Nat.le_of_ble_eq_true rfl) (Nat.le_of_ble_eq_true rfl) dX9_init_40 (fun q5 y5 H hK hP hD hS => ?_)
  have X : Hx D [(y1, .long), (y2, .double), (y3, .long), (y4, .double), (y5, .long)] A s H locs [(h, .inr (9, (List.range 16).map (va_up (va_up (va_up (va_up (dfl kdX9) 0 (.ref q1)) 1 (.ref q2)) 2 (.ref q3)) 3 (.ref q4)))), (q1, .inl (y1, 40, .inr (.inl (fun _ => 0)))), (q2, .inl (y2, 40, .inr (.inr (.inr (.inl (fun _ => 0)))))), (q3, .inl (y3, 40, .inr (.inl (fun _ => 0)))), (q4, .inl (y4, 40, .inr (.inr (.inr (.inl (fun _ => 0)))))), (q5, .inl (y5, 1280, .inr (.inl (fun _ => 0))))] := ⟨hK, hP, hD, hS, X.2.2.2.2⟩
  refine W.widen (k := 5) (n := 1440) (Nat.le_of_ble_eq_true rfl) (Nat.le_of_ble_eq_true rfl) ?_
  refine va_putF (D := D.1) (ci := 9) (v := .ref q5) (ty := tyX9 4) (C := RX9) (T := TX9) (N := 16) hx hb hts wi_X9 tyX9 tyX9_ok nmX9 hown X.1 X.2.1 X.2.2.1 X.2.2.2.1 0 rfl rfl 4 (by decide) (hts _ q1_65) (fun _ h9 => h9) rfl hin rfl (by decide +kernel) rfl rfl (by rw [List.length_map, List.length_range]; decide) dX9_init_42 (fun H locs hP hD hS => ?_)
  have X : Hx D [(y1, .long), (y2, .double), (y3, .long), (y4, .double), (y5, .long)] A s H locs [(h, .inr (9, (List.range 16).map (va_up (va_up (va_up (va_up (va_up (dfl kdX9) 0 (.ref q1)) 1 (.ref q2)) 2 (.ref q3)) 3 (.ref q4)) 4 (.ref q5)))), (q1, .inl (y1, 40, .inr (.inl (fun _ => 0)))), (q2, .inl (y2, 40, .inr (.inr (.inr (.inl (fun _ => 0)))))), (q3, .inl (y3, 40, .inr (.inl (fun _ => 0)))), (q4, .inl (y4, 40, .inr (.inr (.inr (.inl (fun _ => 0)))))), (q5, .inl (y5, 1280, .inr (.inl (fun _ => 0))))] := Hx_set X obj_set hP hD hS
  refine lv_aload_n hx hb dX9_init_45 rfl (lv_at hl 0 rfl) ?_
  refine lv_sipush (v := (1280 : Int32)) hx hb dX9_init_46 (by decide) ?_
  refine va_newa (a0 := (1280, .inr (.inr (.inr (.inl (fun _ => 0)))))) (N' := 1280) hx hb (hts _ q1_46) rfl X.1 X.2.1 X.2.2.1 X.2.2.2.1 X.2.2.2.2.1 (fun _ => rfl) (by decide) (by decide) (by decide) (Nat.le_of_ble_eq_true rfl) (Nat.le_of_ble_eq_true rfl) dX9_init_49 (fun q6 y6 H hK hP hD hS => ?_)
  have X : Hx D [(y1, .long), (y2, .double), (y3, .long), (y4, .double), (y5, .long), (y6, .double)] A s H locs [(h, .inr (9, (List.range 16).map (va_up (va_up (va_up (va_up (va_up (dfl kdX9) 0 (.ref q1)) 1 (.ref q2)) 2 (.ref q3)) 3 (.ref q4)) 4 (.ref q5)))), (q1, .inl (y1, 40, .inr (.inl (fun _ => 0)))), (q2, .inl (y2, 40, .inr (.inr (.inr (.inl (fun _ => 0)))))), (q3, .inl (y3, 40, .inr (.inl (fun _ => 0)))), (q4, .inl (y4, 40, .inr (.inr (.inr (.inl (fun _ => 0)))))), (q5, .inl (y5, 1280, .inr (.inl (fun _ => 0)))), (q6, .inl (y6, 1280, .inr (.inr (.inr (.inl (fun _ => 0))))))] := ⟨hK, hP, hD, hS, X.2.2.2.2⟩
  refine W.widen (k := 6) (n := 2720) (Nat.le_of_ble_eq_true rfl) (Nat.le_of_ble_eq_true rfl) ?_
  refine va_putF (D := D.1) (ci := 9) (v := .ref q6) (ty := tyX9 5) (C := RX9) (T := TX9) (N := 16) hx hb hts wi_X9 tyX9 tyX9_ok nmX9 hown X.1 X.2.1 X.2.2.1 X.2.2.2.1 0 rfl rfl 5 (by decide) (hts _ q1_67) (fun _ h9 => h9) rfl hin rfl (by decide +kernel) rfl rfl (by rw [List.length_map, List.length_range]; decide) dX9_init_51 (fun H locs hP hD hS => ?_)
  have X : Hx D [(y1, .long), (y2, .double), (y3, .long), (y4, .double), (y5, .long), (y6, .double)] A s H locs [(h, .inr (9, (List.range 16).map (va_up (va_up (va_up (va_up (va_up (va_up (dfl kdX9) 0 (.ref q1)) 1 (.ref q2)) 2 (.ref q3)) 3 (.ref q4)) 4 (.ref q5)) 5 (.ref q6)))), (q1, .inl (y1, 40, .inr (.inl (fun _ => 0)))), (q2, .inl (y2, 40, .inr (.inr (.inr (.inl (fun _ => 0)))))), (q3, .inl (y3, 40, .inr (.inl (fun _ => 0)))), (q4, .inl (y4, 40, .inr (.inr (.inr (.inl (fun _ => 0)))))), (q5, .inl (y5, 1280, .inr (.inl (fun _ => 0)))), (q6, .inl (y6, 1280, .inr (.inr (.inr (.inl (fun _ => 0))))))] := Hx_set X obj_set hP hD hS
  refine lv_aload_n hx hb dX9_init_54 rfl (lv_at hl 0 rfl) ?_
  refine lv_bipush (v := (52 : Int32)) hx hb dX9_init_55 (by decide) ?_
  refine va_newa (a0 := (52, .inl (fun _ => 0))) (N' := 52) hx hb (hts _ q1_125) rfl X.1 X.2.1 X.2.2.1 X.2.2.2.1 X.2.2.2.2.1 (fun _ => rfl) (by decide) (by decide) (by decide) (Nat.le_of_ble_eq_true rfl) (Nat.le_of_ble_eq_true rfl) dX9_init_57 (fun q7 y7 H hK hP hD hS => ?_)
  have X : Hx D [(y1, .long), (y2, .double), (y3, .long), (y4, .double), (y5, .long), (y6, .double), (y7, .int)] A s H locs [(h, .inr (9, (List.range 16).map (va_up (va_up (va_up (va_up (va_up (va_up (dfl kdX9) 0 (.ref q1)) 1 (.ref q2)) 2 (.ref q3)) 3 (.ref q4)) 4 (.ref q5)) 5 (.ref q6)))), (q1, .inl (y1, 40, .inr (.inl (fun _ => 0)))), (q2, .inl (y2, 40, .inr (.inr (.inr (.inl (fun _ => 0)))))), (q3, .inl (y3, 40, .inr (.inl (fun _ => 0)))), (q4, .inl (y4, 40, .inr (.inr (.inr (.inl (fun _ => 0)))))), (q5, .inl (y5, 1280, .inr (.inl (fun _ => 0)))), (q6, .inl (y6, 1280, .inr (.inr (.inr (.inl (fun _ => 0)))))), (q7, .inl (y7, 52, .inl (fun _ => 0)))] := ⟨hK, hP, hD, hS, X.2.2.2.2⟩
  refine W.widen (k := 7) (n := 2772) (Nat.le_of_ble_eq_true rfl) (Nat.le_of_ble_eq_true rfl) ?_
  refine va_putF (D := D.1) (ci := 9) (v := .ref q7) (ty := tyX9 6) (C := RX9) (T := TX9) (N := 16) hx hb hts wi_X9 tyX9 tyX9_ok nmX9 hown X.1 X.2.1 X.2.2.1 X.2.2.2.1 0 rfl rfl 6 (by decide) (hts _ q1_69) (fun _ h9 => h9) rfl hin rfl (by decide +kernel) rfl rfl (by rw [List.length_map, List.length_range]; decide) dX9_init_59 (fun H locs hP hD hS => ?_)
  have X : Hx D [(y1, .long), (y2, .double), (y3, .long), (y4, .double), (y5, .long), (y6, .double), (y7, .int)] A s H locs [(h, .inr (9, (List.range 16).map (va_up (va_up (va_up (va_up (va_up (va_up (va_up (dfl kdX9) 0 (.ref q1)) 1 (.ref q2)) 2 (.ref q3)) 3 (.ref q4)) 4 (.ref q5)) 5 (.ref q6)) 6 (.ref q7)))), (q1, .inl (y1, 40, .inr (.inl (fun _ => 0)))), (q2, .inl (y2, 40, .inr (.inr (.inr (.inl (fun _ => 0)))))), (q3, .inl (y3, 40, .inr (.inl (fun _ => 0)))), (q4, .inl (y4, 40, .inr (.inr (.inr (.inl (fun _ => 0)))))), (q5, .inl (y5, 1280, .inr (.inl (fun _ => 0)))), (q6, .inl (y6, 1280, .inr (.inr (.inr (.inl (fun _ => 0)))))), (q7, .inl (y7, 52, .inl (fun _ => 0)))] := Hx_set X obj_set hP hD hS
  refine lv_aload_n hx hb dX9_init_62 rfl (lv_at hl 0 rfl) ?_
  refine lv_bipush (v := (52 : Int32)) hx hb dX9_init_63 (by decide) ?_
  refine va_newa (a0 := (52, .inl (fun _ => 0))) (N' := 52) hx hb (hts _ q1_125) rfl X.1 X.2.1 X.2.2.1 X.2.2.2.1 X.2.2.2.2.1 (fun _ => rfl) (by decide) (by decide) (by decide) (Nat.le_of_ble_eq_true rfl) (Nat.le_of_ble_eq_true rfl) dX9_init_65 (fun q8 y8 H hK hP hD hS => ?_)
  have X : Hx D [(y1, .long), (y2, .double), (y3, .long), (y4, .double), (y5, .long), (y6, .double), (y7, .int), (y8, .int)] A s H locs [(h, .inr (9, (List.range 16).map (va_up (va_up (va_up (va_up (va_up (va_up (va_up (dfl kdX9) 0 (.ref q1)) 1 (.ref q2)) 2 (.ref q3)) 3 (.ref q4)) 4 (.ref q5)) 5 (.ref q6)) 6 (.ref q7)))), (q1, .inl (y1, 40, .inr (.inl (fun _ => 0)))), (q2, .inl (y2, 40, .inr (.inr (.inr (.inl (fun _ => 0)))))), (q3, .inl (y3, 40, .inr (.inl (fun _ => 0)))), (q4, .inl (y4, 40, .inr (.inr (.inr (.inl (fun _ => 0)))))), (q5, .inl (y5, 1280, .inr (.inl (fun _ => 0)))), (q6, .inl (y6, 1280, .inr (.inr (.inr (.inl (fun _ => 0)))))), (q7, .inl (y7, 52, .inl (fun _ => 0))), (q8, .inl (y8, 52, .inl (fun _ => 0)))] := ⟨hK, hP, hD, hS, X.2.2.2.2⟩
  refine W.widen (k := 8) (n := 2824) (Nat.le_of_ble_eq_true rfl) (Nat.le_of_ble_eq_true rfl) ?_
  refine va_putF (D := D.1) (ci := 9) (v := .ref q8) (ty := tyX9 7) (C := RX9) (T := TX9) (N := 16) hx hb hts wi_X9 tyX9 tyX9_ok nmX9 hown X.1 X.2.1 X.2.2.1 X.2.2.2.1 0 rfl rfl 7 (by decide) (hts _ q1_71) (fun _ h9 => h9) rfl hin rfl (by decide +kernel) rfl rfl (by rw [List.length_map, List.length_range]; decide) dX9_init_67 (fun H locs hP hD hS => ?_)
  have X : Hx D [(y1, .long), (y2, .double), (y3, .long), (y4, .double), (y5, .long), (y6, .double), (y7, .int), (y8, .int)] A s H locs [(h, .inr (9, (List.range 16).map (va_up (va_up (va_up (va_up (va_up (va_up (va_up (va_up (dfl kdX9) 0 (.ref q1)) 1 (.ref q2)) 2 (.ref q3)) 3 (.ref q4)) 4 (.ref q5)) 5 (.ref q6)) 6 (.ref q7)) 7 (.ref q8)))), (q1, .inl (y1, 40, .inr (.inl (fun _ => 0)))), (q2, .inl (y2, 40, .inr (.inr (.inr (.inl (fun _ => 0)))))), (q3, .inl (y3, 40, .inr (.inl (fun _ => 0)))), (q4, .inl (y4, 40, .inr (.inr (.inr (.inl (fun _ => 0)))))), (q5, .inl (y5, 1280, .inr (.inl (fun _ => 0)))), (q6, .inl (y6, 1280, .inr (.inr (.inr (.inl (fun _ => 0)))))), (q7, .inl (y7, 52, .inl (fun _ => 0))), (q8, .inl (y8, 52, .inl (fun _ => 0)))] := Hx_set X obj_set hP hD hS
  refine lv_aload_n hx hb dX9_init_70 rfl (lv_at hl 0 rfl) ?_
  refine lv_bipush (v := (52 : Int32)) hx hb dX9_init_71 (by decide) ?_
  refine va_newa (a0 := (52, .inl (fun _ => 0))) (N' := 52) hx hb (hts _ q1_125) rfl X.1 X.2.1 X.2.2.1 X.2.2.2.1 X.2.2.2.2.1 (fun _ => rfl) (by decide) (by decide) (by decide) (Nat.le_of_ble_eq_true rfl) (Nat.le_of_ble_eq_true rfl) dX9_init_73 (fun q9 y9 H hK hP hD hS => ?_)
  have X : Hx D [(y1, .long), (y2, .double), (y3, .long), (y4, .double), (y5, .long), (y6, .double), (y7, .int), (y8, .int), (y9, .int)] A s H locs [(h, .inr (9, (List.range 16).map (va_up (va_up (va_up (va_up (va_up (va_up (va_up (va_up (dfl kdX9) 0 (.ref q1)) 1 (.ref q2)) 2 (.ref q3)) 3 (.ref q4)) 4 (.ref q5)) 5 (.ref q6)) 6 (.ref q7)) 7 (.ref q8)))), (q1, .inl (y1, 40, .inr (.inl (fun _ => 0)))), (q2, .inl (y2, 40, .inr (.inr (.inr (.inl (fun _ => 0)))))), (q3, .inl (y3, 40, .inr (.inl (fun _ => 0)))), (q4, .inl (y4, 40, .inr (.inr (.inr (.inl (fun _ => 0)))))), (q5, .inl (y5, 1280, .inr (.inl (fun _ => 0)))), (q6, .inl (y6, 1280, .inr (.inr (.inr (.inl (fun _ => 0)))))), (q7, .inl (y7, 52, .inl (fun _ => 0))), (q8, .inl (y8, 52, .inl (fun _ => 0))), (q9, .inl (y9, 52, .inl (fun _ => 0)))] := ⟨hK, hP, hD, hS, X.2.2.2.2⟩
  refine W.widen (k := 9) (n := 2876) (Nat.le_of_ble_eq_true rfl) (Nat.le_of_ble_eq_true rfl) ?_
  refine va_putF (D := D.1) (ci := 9) (v := .ref q9) (ty := tyX9 8) (C := RX9) (T := TX9) (N := 16) hx hb hts wi_X9 tyX9 tyX9_ok nmX9 hown X.1 X.2.1 X.2.2.1 X.2.2.2.1 0 rfl rfl 8 (by decide) (hts _ q1_73) (fun _ h9 => h9) rfl hin rfl (by decide +kernel) rfl rfl (by rw [List.length_map, List.length_range]; decide) dX9_init_75 (fun H locs hP hD hS => ?_)
  have X : Hx D [(y1, .long), (y2, .double), (y3, .long), (y4, .double), (y5, .long), (y6, .double), (y7, .int), (y8, .int), (y9, .int)] A s H locs [(h, .inr (9, (List.range 16).map (va_up (va_up (va_up (va_up (va_up (va_up (va_up (va_up (va_up (dfl kdX9) 0 (.ref q1)) 1 (.ref q2)) 2 (.ref q3)) 3 (.ref q4)) 4 (.ref q5)) 5 (.ref q6)) 6 (.ref q7)) 7 (.ref q8)) 8 (.ref q9)))), (q1, .inl (y1, 40, .inr (.inl (fun _ => 0)))), (q2, .inl (y2, 40, .inr (.inr (.inr (.inl (fun _ => 0)))))), (q3, .inl (y3, 40, .inr (.inl (fun _ => 0)))), (q4, .inl (y4, 40, .inr (.inr (.inr (.inl (fun _ => 0)))))), (q5, .inl (y5, 1280, .inr (.inl (fun _ => 0)))), (q6, .inl (y6, 1280, .inr (.inr (.inr (.inl (fun _ => 0)))))), (q7, .inl (y7, 52, .inl (fun _ => 0))), (q8, .inl (y8, 52, .inl (fun _ => 0))), (q9, .inl (y9, 52, .inl (fun _ => 0)))] := Hx_set X obj_set hP hD hS
  refine lv_aload_n hx hb dX9_init_78 rfl (lv_at hl 0 rfl) ?_
  refine lv_bipush (v := (12 : Int32)) hx hb dX9_init_79 (by decide) ?_
  refine va_newa (a0 := (12, .inl (fun _ => 0))) (N' := 12) hx hb (hts _ q1_125) rfl X.1 X.2.1 X.2.2.1 X.2.2.2.1 X.2.2.2.2.1 (fun _ => rfl) (by decide) (by decide) (by decide) (Nat.le_of_ble_eq_true rfl) (Nat.le_of_ble_eq_true rfl) dX9_init_81 (fun q10 y10 H hK hP hD hS => ?_)
  have X : Hx D [(y1, .long), (y2, .double), (y3, .long), (y4, .double), (y5, .long), (y6, .double), (y7, .int), (y8, .int), (y9, .int), (y10, .int)] A s H locs [(h, .inr (9, (List.range 16).map (va_up (va_up (va_up (va_up (va_up (va_up (va_up (va_up (va_up (dfl kdX9) 0 (.ref q1)) 1 (.ref q2)) 2 (.ref q3)) 3 (.ref q4)) 4 (.ref q5)) 5 (.ref q6)) 6 (.ref q7)) 7 (.ref q8)) 8 (.ref q9)))), (q1, .inl (y1, 40, .inr (.inl (fun _ => 0)))), (q2, .inl (y2, 40, .inr (.inr (.inr (.inl (fun _ => 0)))))), (q3, .inl (y3, 40, .inr (.inl (fun _ => 0)))), (q4, .inl (y4, 40, .inr (.inr (.inr (.inl (fun _ => 0)))))), (q5, .inl (y5, 1280, .inr (.inl (fun _ => 0)))), (q6, .inl (y6, 1280, .inr (.inr (.inr (.inl (fun _ => 0)))))), (q7, .inl (y7, 52, .inl (fun _ => 0))), (q8, .inl (y8, 52, .inl (fun _ => 0))), (q9, .inl (y9, 52, .inl (fun _ => 0))), (q10, .inl (y10, 12, .inl (fun _ => 0)))] := ⟨hK, hP, hD, hS, X.2.2.2.2⟩
  refine W.widen (k := 10) (n := 2888) (Nat.le_of_ble_eq_true rfl) (Nat.le_of_ble_eq_true rfl) ?_
  refine va_putF (D := D.1) (ci := 9) (v := .ref q10) (ty := tyX9 9) (C := RX9) (T := TX9) (N := 16) hx hb hts wi_X9 tyX9 tyX9_ok nmX9 hown X.1 X.2.1 X.2.2.1 X.2.2.2.1 0 rfl rfl 9 (by decide) (hts _ q1_75) (fun _ h9 => h9) rfl hin rfl (by decide +kernel) rfl rfl (by rw [List.length_map, List.length_range]; decide) dX9_init_83 (fun H locs hP hD hS => ?_)
  have X : Hx D [(y1, .long), (y2, .double), (y3, .long), (y4, .double), (y5, .long), (y6, .double), (y7, .int), (y8, .int), (y9, .int), (y10, .int)] A s H locs [(h, .inr (9, (List.range 16).map (va_up (va_up (va_up (va_up (va_up (va_up (va_up (va_up (va_up (va_up (dfl kdX9) 0 (.ref q1)) 1 (.ref q2)) 2 (.ref q3)) 3 (.ref q4)) 4 (.ref q5)) 5 (.ref q6)) 6 (.ref q7)) 7 (.ref q8)) 8 (.ref q9)) 9 (.ref q10)))), (q1, .inl (y1, 40, .inr (.inl (fun _ => 0)))), (q2, .inl (y2, 40, .inr (.inr (.inr (.inl (fun _ => 0)))))), (q3, .inl (y3, 40, .inr (.inl (fun _ => 0)))), (q4, .inl (y4, 40, .inr (.inr (.inr (.inl (fun _ => 0)))))), (q5, .inl (y5, 1280, .inr (.inl (fun _ => 0)))), (q6, .inl (y6, 1280, .inr (.inr (.inr (.inl (fun _ => 0)))))), (q7, .inl (y7, 52, .inl (fun _ => 0))), (q8, .inl (y8, 52, .inl (fun _ => 0))), (q9, .inl (y9, 52, .inl (fun _ => 0))), (q10, .inl (y10, 12, .inl (fun _ => 0)))] := Hx_set X obj_set hP hD hS
  refine lv_aload_n hx hb dX9_init_86 rfl (lv_at hl 0 rfl) ?_
  refine lv_bipush (v := (64 : Int32)) hx hb dX9_init_87 (by decide) ?_
  refine va_newa (a0 := (64, .inr (.inl (fun _ => 0)))) (N' := 64) hx hb (hts _ q1_124) rfl X.1 X.2.1 X.2.2.1 X.2.2.2.1 X.2.2.2.2.1 (fun _ => rfl) (by decide) (by decide) (by decide) (Nat.le_of_ble_eq_true rfl) (Nat.le_of_ble_eq_true rfl) dX9_init_89 (fun q11 y11 H hK hP hD hS => ?_)
  have X : Hx D [(y1, .long), (y2, .double), (y3, .long), (y4, .double), (y5, .long), (y6, .double), (y7, .int), (y8, .int), (y9, .int), (y10, .int), (y11, .long)] A s H locs [(h, .inr (9, (List.range 16).map (va_up (va_up (va_up (va_up (va_up (va_up (va_up (va_up (va_up (va_up (dfl kdX9) 0 (.ref q1)) 1 (.ref q2)) 2 (.ref q3)) 3 (.ref q4)) 4 (.ref q5)) 5 (.ref q6)) 6 (.ref q7)) 7 (.ref q8)) 8 (.ref q9)) 9 (.ref q10)))), (q1, .inl (y1, 40, .inr (.inl (fun _ => 0)))), (q2, .inl (y2, 40, .inr (.inr (.inr (.inl (fun _ => 0)))))), (q3, .inl (y3, 40, .inr (.inl (fun _ => 0)))), (q4, .inl (y4, 40, .inr (.inr (.inr (.inl (fun _ => 0)))))), (q5, .inl (y5, 1280, .inr (.inl (fun _ => 0)))), (q6, .inl (y6, 1280, .inr (.inr (.inr (.inl (fun _ => 0)))))), (q7, .inl (y7, 52, .inl (fun _ => 0))), (q8, .inl (y8, 52, .inl (fun _ => 0))), (q9, .inl (y9, 52, .inl (fun _ => 0))), (q10, .inl (y10, 12, .inl (fun _ => 0))), (q11, .inl (y11, 64, .inr (.inl (fun _ => 0))))] := ⟨hK, hP, hD, hS, X.2.2.2.2⟩
  refine W.widen (k := 11) (n := 2952) (Nat.le_of_ble_eq_true rfl) (Nat.le_of_ble_eq_true rfl) ?_
  refine va_putF (D := D.1) (ci := 9) (v := .ref q11) (ty := tyX9 10) (C := RX9) (T := TX9) (N := 16) hx hb hts wi_X9 tyX9 tyX9_ok nmX9 hown X.1 X.2.1 X.2.2.1 X.2.2.2.1 0 rfl rfl 10 (by decide) (hts _ q1_77) (fun _ h9 => h9) rfl hin rfl (by decide +kernel) rfl rfl (by rw [List.length_map, List.length_range]; decide) dX9_init_91 (fun H locs hP hD hS => ?_)
  have X : Hx D [(y1, .long), (y2, .double), (y3, .long), (y4, .double), (y5, .long), (y6, .double), (y7, .int), (y8, .int), (y9, .int), (y10, .int), (y11, .long)] A s H locs [(h, .inr (9, (List.range 16).map (va_up (va_up (va_up (va_up (va_up (va_up (va_up (va_up (va_up (va_up (va_up (dfl kdX9) 0 (.ref q1)) 1 (.ref q2)) 2 (.ref q3)) 3 (.ref q4)) 4 (.ref q5)) 5 (.ref q6)) 6 (.ref q7)) 7 (.ref q8)) 8 (.ref q9)) 9 (.ref q10)) 10 (.ref q11)))), (q1, .inl (y1, 40, .inr (.inl (fun _ => 0)))), (q2, .inl (y2, 40, .inr (.inr (.inr (.inl (fun _ => 0)))))), (q3, .inl (y3, 40, .inr (.inl (fun _ => 0)))), (q4, .inl (y4, 40, .inr (.inr (.inr (.inl (fun _ => 0)))))), (q5, .inl (y5, 1280, .inr (.inl (fun _ => 0)))), (q6, .inl (y6, 1280, .inr (.inr (.inr (.inl (fun _ => 0)))))), (q7, .inl (y7, 52, .inl (fun _ => 0))), (q8, .inl (y8, 52, .inl (fun _ => 0))), (q9, .inl (y9, 52, .inl (fun _ => 0))), (q10, .inl (y10, 12, .inl (fun _ => 0))), (q11, .inl (y11, 64, .inr (.inl (fun _ => 0))))] := Hx_set X obj_set hP hD hS
  refine lv_aload_n hx hb dX9_init_94 rfl (lv_at hl 0 rfl) ?_
  refine lv_bipush (v := (64 : Int32)) hx hb dX9_init_95 (by decide) ?_
  refine va_newa (a0 := (64, .inl (fun _ => 0))) (N' := 64) hx hb (hts _ q1_125) rfl X.1 X.2.1 X.2.2.1 X.2.2.2.1 X.2.2.2.2.1 (fun _ => rfl) (by decide) (by decide) (by decide) (Nat.le_of_ble_eq_true rfl) (Nat.le_of_ble_eq_true rfl) dX9_init_97 (fun q12 y12 H hK hP hD hS => ?_)
  have X : Hx D [(y1, .long), (y2, .double), (y3, .long), (y4, .double), (y5, .long), (y6, .double), (y7, .int), (y8, .int), (y9, .int), (y10, .int), (y11, .long), (y12, .int)] A s H locs [(h, .inr (9, (List.range 16).map (va_up (va_up (va_up (va_up (va_up (va_up (va_up (va_up (va_up (va_up (va_up (dfl kdX9) 0 (.ref q1)) 1 (.ref q2)) 2 (.ref q3)) 3 (.ref q4)) 4 (.ref q5)) 5 (.ref q6)) 6 (.ref q7)) 7 (.ref q8)) 8 (.ref q9)) 9 (.ref q10)) 10 (.ref q11)))), (q1, .inl (y1, 40, .inr (.inl (fun _ => 0)))), (q2, .inl (y2, 40, .inr (.inr (.inr (.inl (fun _ => 0)))))), (q3, .inl (y3, 40, .inr (.inl (fun _ => 0)))), (q4, .inl (y4, 40, .inr (.inr (.inr (.inl (fun _ => 0)))))), (q5, .inl (y5, 1280, .inr (.inl (fun _ => 0)))), (q6, .inl (y6, 1280, .inr (.inr (.inr (.inl (fun _ => 0)))))), (q7, .inl (y7, 52, .inl (fun _ => 0))), (q8, .inl (y8, 52, .inl (fun _ => 0))), (q9, .inl (y9, 52, .inl (fun _ => 0))), (q10, .inl (y10, 12, .inl (fun _ => 0))), (q11, .inl (y11, 64, .inr (.inl (fun _ => 0)))), (q12, .inl (y12, 64, .inl (fun _ => 0)))] := ⟨hK, hP, hD, hS, X.2.2.2.2⟩
  refine W.widen (k := 12) (n := 3016) (Nat.le_of_ble_eq_true rfl) (Nat.le_of_ble_eq_true rfl) ?_
  refine va_putF (D := D.1) (ci := 9) (v := .ref q12) (ty := tyX9 11) (C := RX9) (T := TX9) (N := 16) hx hb hts wi_X9 tyX9 tyX9_ok nmX9 hown X.1 X.2.1 X.2.2.1 X.2.2.2.1 0 rfl rfl 11 (by decide) (hts _ q1_79) (fun _ h9 => h9) rfl hin rfl (by decide +kernel) rfl rfl (by rw [List.length_map, List.length_range]; decide) dX9_init_99 (fun H locs hP hD hS => ?_)
  have X : Hx D [(y1, .long), (y2, .double), (y3, .long), (y4, .double), (y5, .long), (y6, .double), (y7, .int), (y8, .int), (y9, .int), (y10, .int), (y11, .long), (y12, .int)] A s H locs [(h, .inr (9, (List.range 16).map (va_up (va_up (va_up (va_up (va_up (va_up (va_up (va_up (va_up (va_up (va_up (va_up (dfl kdX9) 0 (.ref q1)) 1 (.ref q2)) 2 (.ref q3)) 3 (.ref q4)) 4 (.ref q5)) 5 (.ref q6)) 6 (.ref q7)) 7 (.ref q8)) 8 (.ref q9)) 9 (.ref q10)) 10 (.ref q11)) 11 (.ref q12)))), (q1, .inl (y1, 40, .inr (.inl (fun _ => 0)))), (q2, .inl (y2, 40, .inr (.inr (.inr (.inl (fun _ => 0)))))), (q3, .inl (y3, 40, .inr (.inl (fun _ => 0)))), (q4, .inl (y4, 40, .inr (.inr (.inr (.inl (fun _ => 0)))))), (q5, .inl (y5, 1280, .inr (.inl (fun _ => 0)))), (q6, .inl (y6, 1280, .inr (.inr (.inr (.inl (fun _ => 0)))))), (q7, .inl (y7, 52, .inl (fun _ => 0))), (q8, .inl (y8, 52, .inl (fun _ => 0))), (q9, .inl (y9, 52, .inl (fun _ => 0))), (q10, .inl (y10, 12, .inl (fun _ => 0))), (q11, .inl (y11, 64, .inr (.inl (fun _ => 0)))), (q12, .inl (y12, 64, .inl (fun _ => 0)))] := Hx_set X obj_set hP hD hS
  refine lv_aload_n hx hb dX9_init_102 rfl (lv_at hl 0 rfl) ?_
  refine lv_iconst (v := (0 : Int32)) hx hb dX9_init_103 (by decide) ?_
  refine va_put (D := D.1) (ci := 9) (v := .int (0 : Int32)) (ty := tyX9 12) (C := RX9) (T := TX9) (N := 16) hx hb hts wi_X9 tyX9 tyX9_ok nmX9 hown X.1 X.2.1 X.2.2.1 X.2.2.2.1 0 rfl rfl 12 (by decide) (hts _ q1_81) (fun _ h9 => h9) rfl (by decide +kernel) rfl rfl (by rw [List.length_map, List.length_range]; decide) dX9_init_104 (fun H locs hP hD hS => ?_)
  have X : Hx D [(y1, .long), (y2, .double), (y3, .long), (y4, .double), (y5, .long), (y6, .double), (y7, .int), (y8, .int), (y9, .int), (y10, .int), (y11, .long), (y12, .int)] A s H locs [(h, .inr (9, (List.range 16).map (va_up (va_up (va_up (va_up (va_up (va_up (va_up (va_up (va_up (va_up (va_up (va_up (va_up (dfl kdX9) 0 (.ref q1)) 1 (.ref q2)) 2 (.ref q3)) 3 (.ref q4)) 4 (.ref q5)) 5 (.ref q6)) 6 (.ref q7)) 7 (.ref q8)) 8 (.ref q9)) 9 (.ref q10)) 10 (.ref q11)) 11 (.ref q12)) 12 (.int (0 : Int32))))), (q1, .inl (y1, 40, .inr (.inl (fun _ => 0)))), (q2, .inl (y2, 40, .inr (.inr (.inr (.inl (fun _ => 0)))))), (q3, .inl (y3, 40, .inr (.inl (fun _ => 0)))), (q4, .inl (y4, 40, .inr (.inr (.inr (.inl (fun _ => 0)))))), (q5, .inl (y5, 1280, .inr (.inl (fun _ => 0)))), (q6, .inl (y6, 1280, .inr (.inr (.inr (.inl (fun _ => 0)))))), (q7, .inl (y7, 52, .inl (fun _ => 0))), (q8, .inl (y8, 52, .inl (fun _ => 0))), (q9, .inl (y9, 52, .inl (fun _ => 0))), (q10, .inl (y10, 12, .inl (fun _ => 0))), (q11, .inl (y11, 64, .inr (.inl (fun _ => 0)))), (q12, .inl (y12, 64, .inl (fun _ => 0)))] := Hx_set X obj_set hP hD hS
  refine lv_aload_n hx hb dX9_init_107 rfl (lv_at hl 0 rfl) ?_
  refine lv_lconst (v := (0 : Int64)) hx hb dX9_init_108 (by decide) ?_
  refine va_put (D := D.1) (ci := 9) (v := .long (0 : Int64)) (ty := tyX9 13) (C := RX9) (T := TX9) (N := 16) hx hb hts wi_X9 tyX9 tyX9_ok nmX9 hown X.1 X.2.1 X.2.2.1 X.2.2.2.1 0 rfl rfl 13 (by decide) (hts _ q1_83) (fun _ h9 => h9) rfl (by decide +kernel) rfl rfl (by rw [List.length_map, List.length_range]; decide) dX9_init_109 (fun H locs hP hD hS => ?_)
  have X : Hx D [(y1, .long), (y2, .double), (y3, .long), (y4, .double), (y5, .long), (y6, .double), (y7, .int), (y8, .int), (y9, .int), (y10, .int), (y11, .long), (y12, .int)] A s H locs [(h, .inr (9, (List.range 16).map (va_up (va_up (va_up (va_up (va_up (va_up (va_up (va_up (va_up (va_up (va_up (va_up (va_up (va_up (dfl kdX9) 0 (.ref q1)) 1 (.ref q2)) 2 (.ref q3)) 3 (.ref q4)) 4 (.ref q5)) 5 (.ref q6)) 6 (.ref q7)) 7 (.ref q8)) 8 (.ref q9)) 9 (.ref q10)) 10 (.ref q11)) 11 (.ref q12)) 12 (.int (0 : Int32))) 13 (.long (0 : Int64))))), (q1, .inl (y1, 40, .inr (.inl (fun _ => 0)))), (q2, .inl (y2, 40, .inr (.inr (.inr (.inl (fun _ => 0)))))), (q3, .inl (y3, 40, .inr (.inl (fun _ => 0)))), (q4, .inl (y4, 40, .inr (.inr (.inr (.inl (fun _ => 0)))))), (q5, .inl (y5, 1280, .inr (.inl (fun _ => 0)))), (q6, .inl (y6, 1280, .inr (.inr (.inr (.inl (fun _ => 0)))))), (q7, .inl (y7, 52, .inl (fun _ => 0))), (q8, .inl (y8, 52, .inl (fun _ => 0))), (q9, .inl (y9, 52, .inl (fun _ => 0))), (q10, .inl (y10, 12, .inl (fun _ => 0))), (q11, .inl (y11, 64, .inr (.inl (fun _ => 0)))), (q12, .inl (y12, 64, .inl (fun _ => 0)))] := Hx_set X obj_set hP hD hS
  refine lv_aload_n hx hb dX9_init_112 rfl (lv_at hl 0 rfl) ?_
  refine lv_dconst0 hx hb dX9_init_113 ?_
  refine va_put (D := D.1) (ci := 9) (v := .double FP.dconst0) (ty := tyX9 14) (C := RX9) (T := TX9) (N := 16) hx hb hts wi_X9 tyX9 tyX9_ok nmX9 hown X.1 X.2.1 X.2.2.1 X.2.2.2.1 0 rfl rfl 14 (by decide) (hts _ q1_86) (fun _ h9 => h9) rfl (by decide +kernel) rfl rfl (by rw [List.length_map, List.length_range]; decide) dX9_init_114 (fun H locs hP hD hS => ?_)
  have X : Hx D [(y1, .long), (y2, .double), (y3, .long), (y4, .double), (y5, .long), (y6, .double), (y7, .int), (y8, .int), (y9, .int), (y10, .int), (y11, .long), (y12, .int)] A s H locs [(h, .inr (9, (List.range 16).map (va_up (va_up (va_up (va_up (va_up (va_up (va_up (va_up (va_up (va_up (va_up (va_up (va_up (va_up (va_up (dfl kdX9) 0 (.ref q1)) 1 (.ref q2)) 2 (.ref q3)) 3 (.ref q4)) 4 (.ref q5)) 5 (.ref q6)) 6 (.ref q7)) 7 (.ref q8)) 8 (.ref q9)) 9 (.ref q10)) 10 (.ref q11)) 11 (.ref q12)) 12 (.int (0 : Int32))) 13 (.long (0 : Int64))) 14 (.double FP.dconst0)))), (q1, .inl (y1, 40, .inr (.inl (fun _ => 0)))), (q2, .inl (y2, 40, .inr (.inr (.inr (.inl (fun _ => 0)))))), (q3, .inl (y3, 40, .inr (.inl (fun _ => 0)))), (q4, .inl (y4, 40, .inr (.inr (.inr (.inl (fun _ => 0)))))), (q5, .inl (y5, 1280, .inr (.inl (fun _ => 0)))), (q6, .inl (y6, 1280, .inr (.inr (.inr (.inl (fun _ => 0)))))), (q7, .inl (y7, 52, .inl (fun _ => 0))), (q8, .inl (y8, 52, .inl (fun _ => 0))), (q9, .inl (y9, 52, .inl (fun _ => 0))), (q10, .inl (y10, 12, .inl (fun _ => 0))), (q11, .inl (y11, 64, .inr (.inl (fun _ => 0)))), (q12, .inl (y12, 64, .inl (fun _ => 0)))] := Hx_set X obj_set hP hD hS
  refine lv_aload_n hx hb dX9_init_117 rfl (lv_at hl 0 rfl) ?_
  refine lv_iconst (v := (0 : Int32)) hx hb dX9_init_118 (by decide) ?_
  refine va_put (D := D.1) (ci := 9) (v := .int (0 : Int32)) (ty := tyX9 15) (C := RX9) (T := TX9) (N := 16) hx hb hts wi_X9 tyX9 tyX9_ok nmX9 hown X.1 X.2.1 X.2.2.1 X.2.2.2.1 0 rfl rfl 15 (by decide) (hts _ q1_89) (fun _ h9 => h9) rfl (by decide +kernel) rfl rfl (by rw [List.length_map, List.length_range]; decide) dX9_init_119 (fun H locs hP hD hS => ?_)
  have X : Hx D [(y1, .long), (y2, .double), (y3, .long), (y4, .double), (y5, .long), (y6, .double), (y7, .int), (y8, .int), (y9, .int), (y10, .int), (y11, .long), (y12, .int)] A s H locs [(h, .inr (9, (List.range 16).map (va_up (va_up (va_up (va_up (va_up (va_up (va_up (va_up (va_up (va_up (va_up (va_up (va_up (va_up (va_up (va_up (dfl kdX9) 0 (.ref q1)) 1 (.ref q2)) 2 (.ref q3)) 3 (.ref q4)) 4 (.ref q5)) 5 (.ref q6)) 6 (.ref q7)) 7 (.ref q8)) 8 (.ref q9)) 9 (.ref q10)) 10 (.ref q11)) 11 (.ref q12)) 12 (.int (0 : Int32))) 13 (.long (0 : Int64))) 14 (.double FP.dconst0)) 15 (.int (0 : Int32))))), (q1, .inl (y1, 40, .inr (.inl (fun _ => 0)))), (q2, .inl (y2, 40, .inr (.inr (.inr (.inl (fun _ => 0)))))), (q3, .inl (y3, 40, .inr (.inl (fun _ => 0)))), (q4, .inl (y4, 40, .inr (.inr (.inr (.inl (fun _ => 0)))))), (q5, .inl (y5, 1280, .inr (.inl (fun _ => 0)))), (q6, .inl (y6, 1280, .inr (.inr (.inr (.inl (fun _ => 0)))))), (q7, .inl (y7, 52, .inl (fun _ => 0))), (q8, .inl (y8, 52, .inl (fun _ => 0))), (q9, .inl (y9, 52, .inl (fun _ => 0))), (q10, .inl (y10, 12, .inl (fun _ => 0))), (q11, .inl (y11, 64, .inr (.inl (fun _ => 0)))), (q12, .inl (y12, 64, .inl (fun _ => 0)))] := Hx_set X obj_set hP hD hS
  have e1 : (List.range 16).map (va_up (va_up (va_up (va_up (va_up (va_up (va_up (va_up (va_up (va_up (va_up (va_up (va_up (va_up (va_up (va_up (dfl kdX9) 0 (.ref q1)) 1 (.ref q2)) 2 (.ref q3)) 3 (.ref q4)) 4 (.ref q5)) 5 (.ref q6)) 6 (.ref q7)) 7 (.ref q8)) 8 (.ref q9)) 9 (.ref q10)) 10 (.ref q11)) 11 (.ref q12)) 12 (.int (0 : Int32))) 13 (.long (0 : Int64))) 14 (.double FP.dconst0)) 15 (.int (0 : Int32))) = (List.range 16).map (fld kdX9 (fun k => ([q1, q2, q3, q4, q5, q6, q7, q8, q9, q10, q11, q12, 0, 0, 0, 0] : List Nat).getD k 0) g0X9) := by rfl
  have e2 : ([(q1, .inl (y1, 40, .inr (.inl (fun _ => 0)))), (q2, .inl (y2, 40, .inr (.inr (.inr (.inl (fun _ => 0)))))), (q3, .inl (y3, 40, .inr (.inl (fun _ => 0)))), (q4, .inl (y4, 40, .inr (.inr (.inr (.inl (fun _ => 0)))))), (q5, .inl (y5, 1280, .inr (.inl (fun _ => 0)))), (q6, .inl (y6, 1280, .inr (.inr (.inr (.inl (fun _ => 0)))))), (q7, .inl (y7, 52, .inl (fun _ => 0))), (q8, .inl (y8, 52, .inl (fun _ => 0))), (q9, .inl (y9, 52, .inl (fun _ => 0))), (q10, .inl (y10, 12, .inl (fun _ => 0))), (q11, .inl (y11, 64, .inr (.inl (fun _ => 0)))), (q12, .inl (y12, 64, .inl (fun _ => 0)))] : va_W) = ksX9.map (arF akX9 lnX9 (fun k => ([q1, q2, q3, q4, q5, q6, q7, q8, q9, q10, q11, q12, 0, 0, 0, 0] : List Nat).getD k 0) (fun k => ([y1, y2, y3, y4, y5, y6, y7, y8, y9, y10, y11, y12, y1, y1, y1, y1] : List ClassId).getD k y1) g0X9) := by rfl
  have X := X
  have hP9 : va_P D.1 vwCl (wX9 h (fun k => ([q1, q2, q3, q4, q5, q6, q7, q8, q9, q10, q11, q12, 0, 0, 0, 0] : List Nat).getD k 0) (fun k => ([y1, y2, y3, y4, y5, y6, y7, y8, y9, y10, y11, y12, y1, y1, y1, y1] : List ClassId).getD k y1) g0X9) H := (obj_eq e1 e2) ▸ X.2.1
  have hD9 : va_D A (wX9 h (fun k => ([q1, q2, q3, q4, q5, q6, q7, q8, q9, q10, q11, q12, 0, 0, 0, 0] : List Nat).getD k 0) (fun k => ([y1, y2, y3, y4, y5, y6, y7, y8, y9, y10, y11, y12, y1, y1, y1, y1] : List ClassId).getD k y1) g0X9) := (obj_eq e1 e2) ▸ X.2.2.1
  have hK9 : va_K D.1 vwCl (tX9 (fun k => ([y1, y2, y3, y4, y5, y6, y7, y8, y9, y10, y11, y12, y1, y1, y1, y1] : List ClassId).getD k y1)) s := X.1
  exact W.vret hx hb hr (fun t ht hW => ⟨⟨((fun k => ([q1, q2, q3, q4, q5, q6, q7, q8, q9, q10, q11, q12, 0, 0, 0, 0] : List Nat).getD k 0), (fun k => ([y1, y2, y3, y4, y5, y6, y7, y8, y9, y10, y11, y12, y1, y1, y1, y1] : List ClassId).getD k y1)), rfl, trivial, by rw [ht]; exact hP9, va_K.moved hW.alike hK9, hD9⟩, X.2.2.2.1.F ht⟩) X.2.2.2.1.2.2 dX9_init_122 hlk

/-! ### X10_init -/
theorem dX10_init_0 : decode cX10_init 0 = .ok (.aload_n 0, 1) := by decide +kernel
theorem dX10_init_1 : decode cX10_init 1 = .ok (.invokespecial 1, 3) := by decide +kernel
theorem dX10_init_4 : decode cX10_init 4 = .ok (.aload_n 0, 1) := by decide +kernel
theorem dX10_init_5 : decode cX10_init 5 = .ok (.iconst 4, 1) := by decide +kernel
theorem dX10_init_6 : decode cX10_init 6 = .ok (.newarray .int, 2) := by decide +kernel
theorem dX10_init_8 : decode cX10_init 8 = .ok (.putfield 7, 3) := by decide +kernel
theorem dX10_init_11 : decode cX10_init 11 = .ok (.aload_n 0, 1) := by decide +kernel
theorem dX10_init_12 : decode cX10_init 12 = .ok (.iconst 0, 1) := by decide +kernel
theorem dX10_init_13 : decode cX10_init 13 = .ok (.putfield 13, 3) := by decide +kernel
theorem dX10_init_16 : decode cX10_init 16 = .ok (.return_, 1) := by decide +kernel
def g0X10 : Gs := g00
theorem dfX10 : ∀ j, j < 2 → defaultValue (tyX10 j) = vp_V ((List.range 2).map (dfl kdX10)) j := by decide +kernel
set_option maxHeartbeats 4000000 in
set_option maxRecDepth 100000 in
theorem n_X10_init (l : Launch) (D : Dx) (h : Nat) (sz : Nat) : Met l yX10_init (ws_ yX10_init cX10_init 1 none) { frames := 1, cells := 1, slots := 4, locals := 40 } (PC D [] [.ref h] [(h, .inr (10, (List.range 2).map (dfl kdX10)))] sz) (QN D (fun u : AY => True) (va_A [(h, .inr (10, (List.range 2).map (dfl kdX10)))] sz) (fun u => wX10 h u.1 u.2 g0X10) (fun u => tX10 u.2)) 1 4 (va_A [(h, .inr (10, (List.range 2).map (dfl kdX10)))] sz) := by
  refine Met.ofW (cc := cX10_init) (maxL := 1) (ret := none) (by decide) rfl ?_
  intro p e s m args below meth c s₁ B hml hv
  obtain ⟨rfl, hsz, hP, hK, hD, hN⟩ := hv
  subst hsz
  have C : Cx p s m _ meth c cX10_init none 1 RX10 lw_all := Cx_of B hml
  have X := Hx_start hP hK hD hN
  have hin : meth.name = "<init>" := (name_of_methodNamed B.named B.method).1
  obtain ⟨hx, hb, hr, -, hown, hts, hlk⟩ := id C
  generalize va_A [(h, .inr (10, (List.range 2).map (dfl kdX10)))] s.heap.size = A at X ⊢
  have hl := lv_entry ([.ref h]) (n := 1) (Nat.le_of_ble_eq_true rfl)
  rw [lg_entry_eq]
  generalize (lg_sl ([.ref h]) ++ List.replicate (1 - (lg_sl ([.ref h])).length) Slot.unset).toArray = ls at hl ⊢
  have hl : lv_has ls 1 [(0, .ref h)] := hl
  refine lv_aload_n hx hb dX10_init_0 rfl (lv_at hl 0 rfl) ?_
  refine W.objInit hx hb hown (hts _ q1_181) (hts _ q1_31) (hts _ q1_32) rfl (by rw [hml]; exact hl.1) rfl dX10_init_1 (Nat.le_of_ble_eq_true rfl) (Nat.le_of_ble_eq_true rfl) ?_
  refine W.eq (g2 := F0 m 4 ls []) rfl ?_
  refine lv_aload_n hx hb dX10_init_4 rfl (lv_at hl 0 rfl) ?_
  refine lv_iconst (v := (4 : Int32)) hx hb dX10_init_5 (by decide) ?_
  refine va_newa (a0 := (4, .inl (fun _ => 0))) (N' := 4) hx hb (hts _ q1_125) rfl X.1 X.2.1 X.2.2.1 X.2.2.2.1 X.2.2.2.2.1 (fun _ => rfl) (by decide) (by decide) (by decide) (Nat.le_of_ble_eq_true rfl) (Nat.le_of_ble_eq_true rfl) dX10_init_6 (fun q1 y1 H hK hP hD hS => ?_)
  have X : Hx D [(y1, .int)] A s H locs [(h, .inr (10, (List.range 2).map (dfl kdX10))), (q1, .inl (y1, 4, .inl (fun _ => 0)))] := ⟨hK, hP, hD, hS, X.2.2.2.2⟩
  refine W.widen (k := 1) (n := 4) (Nat.le_of_ble_eq_true rfl) (Nat.le_of_ble_eq_true rfl) ?_
  refine va_putF (D := D.1) (ci := 10) (v := .ref q1) (ty := tyX10 0) (C := RX10) (T := TX10) (N := 2) hx hb hts wi_X10 tyX10 tyX10_ok nmX10 hown X.1 X.2.1 X.2.2.1 X.2.2.2.1 0 rfl rfl 0 (by decide) (hts _ q1_182) (fun _ h9 => h9) rfl hin rfl (by decide +kernel) rfl rfl (by rw [List.length_map, List.length_range]; decide) dX10_init_8 (fun H locs hP hD hS => ?_)
  have X : Hx D [(y1, .int)] A s H locs [(h, .inr (10, (List.range 2).map (va_up (dfl kdX10) 0 (.ref q1)))), (q1, .inl (y1, 4, .inl (fun _ => 0)))] := Hx_set X obj_set hP hD hS
  refine lv_aload_n hx hb dX10_init_11 rfl (lv_at hl 0 rfl) ?_
  refine lv_iconst (v := (0 : Int32)) hx hb dX10_init_12 (by decide) ?_
  refine va_put (D := D.1) (ci := 10) (v := .int (0 : Int32)) (ty := tyX10 1) (C := RX10) (T := TX10) (N := 2) hx hb hts wi_X10 tyX10 tyX10_ok nmX10 hown X.1 X.2.1 X.2.2.1 X.2.2.2.1 0 rfl rfl 1 (by decide) (hts _ q1_184) (fun _ h9 => h9) rfl (by decide +kernel) rfl rfl (by rw [List.length_map, List.length_range]; decide) dX10_init_13 (fun H locs hP hD hS => ?_)
  have X : Hx D [(y1, .int)] A s H locs [(h, .inr (10, (List.range 2).map (va_up (va_up (dfl kdX10) 0 (.ref q1)) 1 (.int (0 : Int32))))), (q1, .inl (y1, 4, .inl (fun _ => 0)))] := Hx_set X obj_set hP hD hS
  have e1 : (List.range 2).map (va_up (va_up (dfl kdX10) 0 (.ref q1)) 1 (.int (0 : Int32))) = (List.range 2).map (fld kdX10 (fun k => ([q1, 0] : List Nat).getD k 0) g0X10) := by rfl
  have e2 : ([(q1, .inl (y1, 4, .inl (fun _ => 0)))] : va_W) = ksX10.map (arF akX10 lnX10 (fun k => ([q1, 0] : List Nat).getD k 0) (fun k => ([y1, y1] : List ClassId).getD k y1) g0X10) := by rfl
  have X := X
  have hP9 : va_P D.1 vwCl (wX10 h (fun k => ([q1, 0] : List Nat).getD k 0) (fun k => ([y1, y1] : List ClassId).getD k y1) g0X10) H := (obj_eq e1 e2) ▸ X.2.1
  have hD9 : va_D A (wX10 h (fun k => ([q1, 0] : List Nat).getD k 0) (fun k => ([y1, y1] : List ClassId).getD k y1) g0X10) := (obj_eq e1 e2) ▸ X.2.2.1
  have hK9 : va_K D.1 vwCl (tX10 (fun k => ([y1, y1] : List ClassId).getD k y1)) s := X.1
  exact W.vret hx hb hr (fun t ht hW => ⟨⟨((fun k => ([q1, 0] : List Nat).getD k 0), (fun k => ([y1, y1] : List ClassId).getD k y1)), rfl, trivial, by rw [ht]; exact hP9, va_K.moved hW.alike hK9, hD9⟩, X.2.2.2.1.F ht⟩) X.2.2.2.1.2.2 dX10_init_16 hlk

/-! ### X1_init -/
theorem dX1_init_0 : decode cX1_init 0 = .ok (.aload_n 0, 1) := by decide +kernel
theorem dX1_init_1 : decode cX1_init 1 = .ok (.invokespecial 3, 3) := by decide +kernel
theorem dX1_init_4 : decode cX1_init 4 = .ok (.aload_n 0, 1) := by decide +kernel
theorem dX1_init_5 : decode cX1_init 5 = .ok (.sipush 512, 3) := by decide +kernel
theorem dX1_init_8 : decode cX1_init 8 = .ok (.newarray .long, 2) := by decide +kernel
theorem dX1_init_10 : decode cX1_init 10 = .ok (.putfield 9, 3) := by decide +kernel
theorem dX1_init_13 : decode cX1_init 13 = .ok (.aload_n 0, 1) := by decide +kernel
theorem dX1_init_14 : decode cX1_init 14 = .ok (.sipush 512, 3) := by decide +kernel
theorem dX1_init_17 : decode cX1_init 17 = .ok (.newarray .double, 2) := by decide +kernel
theorem dX1_init_19 : decode cX1_init 19 = .ok (.putfield 15, 3) := by decide +kernel
theorem dX1_init_22 : decode cX1_init 22 = .ok (.aload_n 0, 1) := by decide +kernel
theorem dX1_init_23 : decode cX1_init 23 = .ok (.iconst 0, 1) := by decide +kernel
theorem dX1_init_24 : decode cX1_init 24 = .ok (.putfield 19, 3) := by decide +kernel
theorem dX1_init_27 : decode cX1_init 27 = .ok (.aload_n 0, 1) := by decide +kernel
theorem dX1_init_28 : decode cX1_init 28 = .ok (.iconst 0, 1) := by decide +kernel
theorem dX1_init_29 : decode cX1_init 29 = .ok (.putfield 23, 3) := by decide +kernel
theorem dX1_init_32 : decode cX1_init 32 = .ok (.aload_n 0, 1) := by decide +kernel
theorem dX1_init_33 : decode cX1_init 33 = .ok (.iconst (-1), 1) := by decide +kernel
theorem dX1_init_34 : decode cX1_init 34 = .ok (.putfield 26, 3) := by decide +kernel
theorem dX1_init_37 : decode cX1_init 37 = .ok (.aload_n 0, 1) := by decide +kernel
theorem dX1_init_38 : decode cX1_init 38 = .ok (.aload_n 1, 1) := by decide +kernel
theorem dX1_init_39 : decode cX1_init 39 = .ok (.putfield 29, 3) := by decide +kernel
theorem dX1_init_42 : decode cX1_init 42 = .ok (.aload_n 0, 1) := by decide +kernel
theorem dX1_init_43 : decode cX1_init 43 = .ok (.aload_n 2, 1) := by decide +kernel
theorem dX1_init_44 : decode cX1_init 44 = .ok (.putfield 33, 3) := by decide +kernel
theorem dX1_init_47 : decode cX1_init 47 = .ok (.return_, 1) := by decide +kernel
def g0X1 : Gs := (sI g00 6 (-1 : Int32))
theorem dfX1 : ∀ j, j < 7 → defaultValue (tyX1 j) = vp_V ((List.range 7).map (dfl kdX1)) j := by decide +kernel
set_option maxHeartbeats 4000000 in
set_option maxRecDepth 100000 in
theorem n_X1_init (l : Launch) (D : Dx) (h : Nat) (r0 : Nat) (r1 : Nat) (sz : Nat) : Met l yX1_init (ws_ yX1_init cX1_init 3 none) { frames := 1, cells := 2, slots := 1024, locals := 40 } (PC D [] [.ref h, .ref r0, .ref r1] [(h, .inr (1, (List.range 7).map (dfl kdX1)))] sz) (QN D (fun u : AY => u.1 0 = r0 ∧ u.1 1 = r1) (va_A [(h, .inr (1, (List.range 7).map (dfl kdX1)))] sz) (fun u => wX1 h u.1 u.2 g0X1) (fun u => tX1 u.2)) 2 1024 (va_A [(h, .inr (1, (List.range 7).map (dfl kdX1)))] sz) := by
  refine Met.ofW (cc := cX1_init) (maxL := 3) (ret := none) (by decide) rfl ?_
  intro p e s m args below meth c s₁ B hml hv
  obtain ⟨rfl, hsz, hP, hK, hD, hN⟩ := hv
  subst hsz
  have C : Cx p s m _ meth c cX1_init none 3 RX1 lw_all := Cx_of B hml
  have X := Hx_start hP hK hD hN
  have hin : meth.name = "<init>" := (name_of_methodNamed B.named B.method).1
  obtain ⟨hx, hb, hr, -, hown, hts, hlk⟩ := id C
  generalize va_A [(h, .inr (1, (List.range 7).map (dfl kdX1)))] s.heap.size = A at X ⊢
  have hl := lv_entry ([.ref h, .ref r0, .ref r1]) (n := 3) (Nat.le_of_ble_eq_true rfl)
  rw [lg_entry_eq]
  generalize (lg_sl ([.ref h, .ref r0, .ref r1]) ++ List.replicate (3 - (lg_sl ([.ref h, .ref r0, .ref r1])).length) Slot.unset).toArray = ls at hl ⊢
  have hl : lv_has ls 3 [(0, .ref h), (1, .ref r0), (2, .ref r1)] := hl
  refine lv_aload_n hx hb dX1_init_0 rfl (lv_at hl 0 rfl) ?_
  refine W.objInit hx hb hown (hts _ q1_132) (hts _ q1_31) (hts _ q1_32) rfl (by rw [hml]; exact hl.1) rfl dX1_init_1 (Nat.le_of_ble_eq_true rfl) (Nat.le_of_ble_eq_true rfl) ?_
  refine W.eq (g2 := F0 m 4 ls []) rfl ?_
  refine lv_aload_n hx hb dX1_init_4 rfl (lv_at hl 0 rfl) ?_
  refine lv_sipush (v := (512 : Int32)) hx hb dX1_init_5 (by decide) ?_
  refine va_newa (a0 := (512, .inr (.inl (fun _ => 0)))) (N' := 512) hx hb (hts _ q1_124) rfl X.1 X.2.1 X.2.2.1 X.2.2.2.1 X.2.2.2.2.1 (fun _ => rfl) (by decide) (by decide) (by decide) (Nat.le_of_ble_eq_true rfl) (Nat.le_of_ble_eq_true rfl) dX1_init_8 (fun q1 y1 H hK hP hD hS => ?_)
  have X : Hx D [(y1, .long)] A s H locs [(h, .inr (1, (List.range 7).map (dfl kdX1))), (q1, .inl (y1, 512, .inr (.inl (fun _ => 0))))] := ⟨hK, hP, hD, hS, X.2.2.2.2⟩
  refine W.widen (k := 1) (n := 512) (Nat.le_of_ble_eq_true rfl) (Nat.le_of_ble_eq_true rfl) ?_
  refine va_putF (D := D.1) (ci := 1) (v := .ref q1) (ty := tyX1 2) (C := RX1) (T := TX1) (N := 7) hx hb hts wi_X1 tyX1 tyX1_ok nmX1 hown X.1 X.2.1 X.2.2.1 X.2.2.2.1 0 rfl rfl 2 (by decide) (hts _ q1_135) (fun _ h9 => h9) rfl hin rfl (by decide +kernel) rfl rfl (by rw [List.length_map, List.length_range]; decide) dX1_init_10 (fun H locs hP hD hS => ?_)
  have X : Hx D [(y1, .long)] A s H locs [(h, .inr (1, (List.range 7).map (va_up (dfl kdX1) 2 (.ref q1)))), (q1, .inl (y1, 512, .inr (.inl (fun _ => 0))))] := Hx_set X obj_set hP hD hS
  refine lv_aload_n hx hb dX1_init_13 rfl (lv_at hl 0 rfl) ?_
  refine lv_sipush (v := (512 : Int32)) hx hb dX1_init_14 (by decide) ?_
  refine va_newa (a0 := (512, .inr (.inr (.inr (.inl (fun _ => 0)))))) (N' := 512) hx hb (hts _ q1_46) rfl X.1 X.2.1 X.2.2.1 X.2.2.2.1 X.2.2.2.2.1 (fun _ => rfl) (by decide) (by decide) (by decide) (Nat.le_of_ble_eq_true rfl) (Nat.le_of_ble_eq_true rfl) dX1_init_17 (fun q2 y2 H hK hP hD hS => ?_)
  have X : Hx D [(y1, .long), (y2, .double)] A s H locs [(h, .inr (1, (List.range 7).map (va_up (dfl kdX1) 2 (.ref q1)))), (q1, .inl (y1, 512, .inr (.inl (fun _ => 0)))), (q2, .inl (y2, 512, .inr (.inr (.inr (.inl (fun _ => 0))))))] := ⟨hK, hP, hD, hS, X.2.2.2.2⟩
  refine W.widen (k := 2) (n := 1024) (Nat.le_of_ble_eq_true rfl) (Nat.le_of_ble_eq_true rfl) ?_
  refine va_putF (D := D.1) (ci := 1) (v := .ref q2) (ty := tyX1 3) (C := RX1) (T := TX1) (N := 7) hx hb hts wi_X1 tyX1 tyX1_ok nmX1 hown X.1 X.2.1 X.2.2.1 X.2.2.2.1 0 rfl rfl 3 (by decide) (hts _ q1_137) (fun _ h9 => h9) rfl hin rfl (by decide +kernel) rfl rfl (by rw [List.length_map, List.length_range]; decide) dX1_init_19 (fun H locs hP hD hS => ?_)
  have X : Hx D [(y1, .long), (y2, .double)] A s H locs [(h, .inr (1, (List.range 7).map (va_up (va_up (dfl kdX1) 2 (.ref q1)) 3 (.ref q2)))), (q1, .inl (y1, 512, .inr (.inl (fun _ => 0)))), (q2, .inl (y2, 512, .inr (.inr (.inr (.inl (fun _ => 0))))))] := Hx_set X obj_set hP hD hS
  refine lv_aload_n hx hb dX1_init_22 rfl (lv_at hl 0 rfl) ?_
  refine lv_iconst (v := (0 : Int32)) hx hb dX1_init_23 (by decide) ?_
  refine va_put (D := D.1) (ci := 1) (v := .int (0 : Int32)) (ty := tyX1 4) (C := RX1) (T := TX1) (N := 7) hx hb hts wi_X1 tyX1 tyX1_ok nmX1 hown X.1 X.2.1 X.2.2.1 X.2.2.2.1 0 rfl rfl 4 (by decide) (hts _ q1_139) (fun _ h9 => h9) rfl (by decide +kernel) rfl rfl (by rw [List.length_map, List.length_range]; decide) dX1_init_24 (fun H locs hP hD hS => ?_)
  have X : Hx D [(y1, .long), (y2, .double)] A s H locs [(h, .inr (1, (List.range 7).map (va_up (va_up (va_up (dfl kdX1) 2 (.ref q1)) 3 (.ref q2)) 4 (.int (0 : Int32))))), (q1, .inl (y1, 512, .inr (.inl (fun _ => 0)))), (q2, .inl (y2, 512, .inr (.inr (.inr (.inl (fun _ => 0))))))] := Hx_set X obj_set hP hD hS
  refine lv_aload_n hx hb dX1_init_27 rfl (lv_at hl 0 rfl) ?_
  refine lv_iconst (v := (0 : Int32)) hx hb dX1_init_28 (by decide) ?_
  refine va_put (D := D.1) (ci := 1) (v := .int (0 : Int32)) (ty := tyX1 5) (C := RX1) (T := TX1) (N := 7) hx hb hts wi_X1 tyX1 tyX1_ok nmX1 hown X.1 X.2.1 X.2.2.1 X.2.2.2.1 0 rfl rfl 5 (by decide) (hts _ q1_140) (fun _ h9 => h9) rfl (by decide +kernel) rfl rfl (by rw [List.length_map, List.length_range]; decide) dX1_init_29 (fun H locs hP hD hS => ?_)
  have X : Hx D [(y1, .long), (y2, .double)] A s H locs [(h, .inr (1, (List.range 7).map (va_up (va_up (va_up (va_up (dfl kdX1) 2 (.ref q1)) 3 (.ref q2)) 4 (.int (0 : Int32))) 5 (.int (0 : Int32))))), (q1, .inl (y1, 512, .inr (.inl (fun _ => 0)))), (q2, .inl (y2, 512, .inr (.inr (.inr (.inl (fun _ => 0))))))] := Hx_set X obj_set hP hD hS
  refine lv_aload_n hx hb dX1_init_32 rfl (lv_at hl 0 rfl) ?_
  refine lv_iconst (v := (-1 : Int32)) hx hb dX1_init_33 (by decide) ?_
  refine va_put (D := D.1) (ci := 1) (v := .int (-1 : Int32)) (ty := tyX1 6) (C := RX1) (T := TX1) (N := 7) hx hb hts wi_X1 tyX1 tyX1_ok nmX1 hown X.1 X.2.1 X.2.2.1 X.2.2.2.1 0 rfl rfl 6 (by decide) (hts _ q1_142) (fun _ h9 => h9) rfl (by decide +kernel) rfl rfl (by rw [List.length_map, List.length_range]; decide) dX1_init_34 (fun H locs hP hD hS => ?_)
  have X : Hx D [(y1, .long), (y2, .double)] A s H locs [(h, .inr (1, (List.range 7).map (va_up (va_up (va_up (va_up (va_up (dfl kdX1) 2 (.ref q1)) 3 (.ref q2)) 4 (.int (0 : Int32))) 5 (.int (0 : Int32))) 6 (.int (-1 : Int32))))), (q1, .inl (y1, 512, .inr (.inl (fun _ => 0)))), (q2, .inl (y2, 512, .inr (.inr (.inr (.inl (fun _ => 0))))))] := Hx_set X obj_set hP hD hS
  refine lv_aload_n hx hb dX1_init_37 rfl (lv_at hl 0 rfl) ?_
  refine lv_aload_n hx hb dX1_init_38 rfl (lv_at hl 1 rfl) ?_
  refine va_putF (D := D.1) (ci := 1) (v := .ref r0) (ty := tyX1 0) (C := RX1) (T := TX1) (N := 7) hx hb hts wi_X1 tyX1 tyX1_ok nmX1 hown X.1 X.2.1 X.2.2.1 X.2.2.2.1 0 rfl rfl 0 (by decide) (hts _ q1_133) (fun _ h9 => h9) rfl hin rfl (by decide +kernel) rfl rfl (by rw [List.length_map, List.length_range]; decide) dX1_init_39 (fun H locs hP hD hS => ?_)
  have X : Hx D [(y1, .long), (y2, .double)] A s H locs [(h, .inr (1, (List.range 7).map (va_up (va_up (va_up (va_up (va_up (va_up (dfl kdX1) 2 (.ref q1)) 3 (.ref q2)) 4 (.int (0 : Int32))) 5 (.int (0 : Int32))) 6 (.int (-1 : Int32))) 0 (.ref r0)))), (q1, .inl (y1, 512, .inr (.inl (fun _ => 0)))), (q2, .inl (y2, 512, .inr (.inr (.inr (.inl (fun _ => 0))))))] := Hx_set X obj_set hP hD hS
  refine lv_aload_n hx hb dX1_init_42 rfl (lv_at hl 0 rfl) ?_
  refine lv_aload_n hx hb dX1_init_43 rfl (lv_at hl 2 rfl) ?_
  refine va_putF (D := D.1) (ci := 1) (v := .ref r1) (ty := tyX1 1) (C := RX1) (T := TX1) (N := 7) hx hb hts wi_X1 tyX1 tyX1_ok nmX1 hown X.1 X.2.1 X.2.2.1 X.2.2.2.1 0 rfl rfl 1 (by decide) (hts _ q1_134) (fun _ h9 => h9) rfl hin rfl (by decide +kernel) rfl rfl (by rw [List.length_map, List.length_range]; decide) dX1_init_44 (fun H locs hP hD hS => ?_)
  have X : Hx D [(y1, .long), (y2, .double)] A s H locs [(h, .inr (1, (List.range 7).map (va_up (va_up (va_up (va_up (va_up (va_up (va_up (dfl kdX1) 2 (.ref q1)) 3 (.ref q2)) 4 (.int (0 : Int32))) 5 (.int (0 : Int32))) 6 (.int (-1 : Int32))) 0 (.ref r0)) 1 (.ref r1)))), (q1, .inl (y1, 512, .inr (.inl (fun _ => 0)))), (q2, .inl (y2, 512, .inr (.inr (.inr (.inl (fun _ => 0))))))] := Hx_set X obj_set hP hD hS
  have e1 : (List.range 7).map (va_up (va_up (va_up (va_up (va_up (va_up (va_up (dfl kdX1) 2 (.ref q1)) 3 (.ref q2)) 4 (.int (0 : Int32))) 5 (.int (0 : Int32))) 6 (.int (-1 : Int32))) 0 (.ref r0)) 1 (.ref r1)) = (List.range 7).map (fld kdX1 (fun k => ([r0, r1, q1, q2, 0, 0, 0] : List Nat).getD k 0) g0X1) := by rfl
  have e2 : ([(q1, .inl (y1, 512, .inr (.inl (fun _ => 0)))), (q2, .inl (y2, 512, .inr (.inr (.inr (.inl (fun _ => 0))))))] : va_W) = ksX1.map (arF akX1 lnX1 (fun k => ([r0, r1, q1, q2, 0, 0, 0] : List Nat).getD k 0) (fun k => ([y1, y1, y1, y2, y1, y1, y1] : List ClassId).getD k y1) g0X1) := by rfl
  have X := X
  have hP9 : va_P D.1 vwCl (wX1 h (fun k => ([r0, r1, q1, q2, 0, 0, 0] : List Nat).getD k 0) (fun k => ([y1, y1, y1, y2, y1, y1, y1] : List ClassId).getD k y1) g0X1) H := (obj_eq e1 e2) ▸ X.2.1
  have hD9 : va_D A (wX1 h (fun k => ([r0, r1, q1, q2, 0, 0, 0] : List Nat).getD k 0) (fun k => ([y1, y1, y1, y2, y1, y1, y1] : List ClassId).getD k y1) g0X1) := (obj_eq e1 e2) ▸ X.2.2.1
  have hK9 : va_K D.1 vwCl (tX1 (fun k => ([y1, y1, y1, y2, y1, y1, y1] : List ClassId).getD k y1)) s := X.1
  exact W.vret hx hb hr (fun t ht hW => ⟨⟨((fun k => ([r0, r1, q1, q2, 0, 0, 0] : List Nat).getD k 0), (fun k => ([y1, y1, y1, y2, y1, y1, y1] : List ClassId).getD k y1)), rfl, ⟨rfl, rfl⟩, by rw [ht]; exact hP9, va_K.moved hW.alike hK9, hD9⟩, X.2.2.2.1.F ht⟩) X.2.2.2.1.2.2 dX1_init_47 hlk

/-! ### X3_init -/
theorem dX3_init_0 : decode cX3_init 0 = .ok (.aload_n 0, 1) := by decide +kernel
theorem dX3_init_1 : decode cX3_init 1 = .ok (.invokespecial 3, 3) := by decide +kernel
theorem dX3_init_4 : decode cX3_init 4 = .ok (.aload_n 0, 1) := by decide +kernel
theorem dX3_init_5 : decode cX3_init 5 = .ok (.bipush 48, 2) := by decide +kernel
theorem dX3_init_7 : decode cX3_init 7 = .ok (.newarray .byte, 2) := by decide +kernel
theorem dX3_init_9 : decode cX3_init 9 = .ok (.putfield 9, 3) := by decide +kernel
theorem dX3_init_12 : decode cX3_init 12 = .ok (.aload_n 0, 1) := by decide +kernel
theorem dX3_init_13 : decode cX3_init 13 = .ok (.iconst 0, 1) := by decide +kernel
theorem dX3_init_14 : decode cX3_init 14 = .ok (.putfield 15, 3) := by decide +kernel
theorem dX3_init_17 : decode cX3_init 17 = .ok (.aload_n 0, 1) := by decide +kernel
theorem dX3_init_18 : decode cX3_init 18 = .ok (.aload_n 1, 1) := by decide +kernel
theorem dX3_init_19 : decode cX3_init 19 = .ok (.putfield 19, 3) := by decide +kernel
theorem dX3_init_22 : decode cX3_init 22 = .ok (.return_, 1) := by decide +kernel
def g0X3 : Gs := g00
theorem dfX3 : ∀ j, j < 3 → defaultValue (tyX3 j) = vp_V ((List.range 3).map (dfl kdX3)) j := by decide +kernel
set_option maxHeartbeats 4000000 in
set_option maxRecDepth 100000 in
theorem n_X3_init (l : Launch) (D : Dx) (h : Nat) (r0 : Nat) (sz : Nat) : Met l yX3_init (ws_ yX3_init cX3_init 2 none) { frames := 1, cells := 1, slots := 48, locals := 40 } (PC D [] [.ref h, .ref r0] [(h, .inr (3, (List.range 3).map (dfl kdX3)))] sz) (QN D (fun u : AY => u.1 0 = r0) (va_A [(h, .inr (3, (List.range 3).map (dfl kdX3)))] sz) (fun u => wX3 h u.1 u.2 g0X3) (fun u => tX3 u.2)) 1 48 (va_A [(h, .inr (3, (List.range 3).map (dfl kdX3)))] sz) := by
  refine Met.ofW (cc := cX3_init) (maxL := 2) (ret := none) (by decide) rfl ?_
  intro p e s m args below meth c s₁ B hml hv
  obtain ⟨rfl, hsz, hP, hK, hD, hN⟩ := hv
  subst hsz
  have C : Cx p s m _ meth c cX3_init none 2 RX3 lw_all := Cx_of B hml
  have X := Hx_start hP hK hD hN
  have hin : meth.name = "<init>" := (name_of_methodNamed B.named B.method).1
  obtain ⟨hx, hb, hr, -, hown, hts, hlk⟩ := id C
  generalize va_A [(h, .inr (3, (List.range 3).map (dfl kdX3)))] s.heap.size = A at X ⊢
  have hl := lv_entry ([.ref h, .ref r0]) (n := 2) (Nat.le_of_ble_eq_true rfl)
  rw [lg_entry_eq]
  generalize (lg_sl ([.ref h, .ref r0]) ++ List.replicate (2 - (lg_sl ([.ref h, .ref r0])).length) Slot.unset).toArray = ls at hl ⊢
  have hl : lv_has ls 2 [(0, .ref h), (1, .ref r0)] := hl
  refine lv_aload_n hx hb dX3_init_0 rfl (lv_at hl 0 rfl) ?_
  refine W.objInit hx hb hown (hts _ q1_163) (hts _ q1_31) (hts _ q1_32) rfl (by rw [hml]; exact hl.1) rfl dX3_init_1 (Nat.le_of_ble_eq_true rfl) (Nat.le_of_ble_eq_true rfl) ?_
  refine W.eq (g2 := F0 m 4 ls []) rfl ?_
  refine lv_aload_n hx hb dX3_init_4 rfl (lv_at hl 0 rfl) ?_
  refine lv_bipush (v := (48 : Int32)) hx hb dX3_init_5 (by decide) ?_
  refine va_newa (a0 := (48, .inl (fun _ => 0))) (N' := 48) hx hb (hts _ q1_45) rfl X.1 X.2.1 X.2.2.1 X.2.2.2.1 X.2.2.2.2.1 (fun _ => rfl) (by decide) (by decide) (by decide) (Nat.le_of_ble_eq_true rfl) (Nat.le_of_ble_eq_true rfl) dX3_init_7 (fun q1 y1 H hK hP hD hS => ?_)
  have X : Hx D [(y1, .byte)] A s H locs [(h, .inr (3, (List.range 3).map (dfl kdX3))), (q1, .inl (y1, 48, .inl (fun _ => 0)))] := ⟨hK, hP, hD, hS, X.2.2.2.2⟩
  refine W.widen (k := 1) (n := 48) (Nat.le_of_ble_eq_true rfl) (Nat.le_of_ble_eq_true rfl) ?_
  refine va_putF (D := D.1) (ci := 3) (v := .ref q1) (ty := tyX3 1) (C := RX3) (T := TX3) (N := 3) hx hb hts wi_X3 tyX3 tyX3_ok nmX3 hown X.1 X.2.1 X.2.2.1 X.2.2.2.1 0 rfl rfl 1 (by decide) (hts _ q1_165) (fun _ h9 => h9) rfl hin rfl (by decide +kernel) rfl rfl (by rw [List.length_map, List.length_range]; decide) dX3_init_9 (fun H locs hP hD hS => ?_)
  have X : Hx D [(y1, .byte)] A s H locs [(h, .inr (3, (List.range 3).map (va_up (dfl kdX3) 1 (.ref q1)))), (q1, .inl (y1, 48, .inl (fun _ => 0)))] := Hx_set X obj_set hP hD hS
  refine lv_aload_n hx hb dX3_init_12 rfl (lv_at hl 0 rfl) ?_
  refine lv_iconst (v := (0 : Int32)) hx hb dX3_init_13 (by decide) ?_
  refine va_put (D := D.1) (ci := 3) (v := .int (0 : Int32)) (ty := tyX3 2) (C := RX3) (T := TX3) (N := 3) hx hb hts wi_X3 tyX3 tyX3_ok nmX3 hown X.1 X.2.1 X.2.2.1 X.2.2.2.1 0 rfl rfl 2 (by decide) (hts _ q1_167) (fun _ h9 => h9) rfl (by decide +kernel) rfl rfl (by rw [List.length_map, List.length_range]; decide) dX3_init_14 (fun H locs hP hD hS => ?_)
  have X : Hx D [(y1, .byte)] A s H locs [(h, .inr (3, (List.range 3).map (va_up (va_up (dfl kdX3) 1 (.ref q1)) 2 (.int (0 : Int32))))), (q1, .inl (y1, 48, .inl (fun _ => 0)))] := Hx_set X obj_set hP hD hS
  refine lv_aload_n hx hb dX3_init_17 rfl (lv_at hl 0 rfl) ?_
  refine lv_aload_n hx hb dX3_init_18 rfl (lv_at hl 1 rfl) ?_
  refine va_putF (D := D.1) (ci := 3) (v := .ref r0) (ty := tyX3 0) (C := RX3) (T := TX3) (N := 3) hx hb hts wi_X3 tyX3 tyX3_ok nmX3 hown X.1 X.2.1 X.2.2.1 X.2.2.2.1 0 rfl rfl 0 (by decide) (hts _ q1_164) (fun _ h9 => h9) rfl hin rfl (by decide +kernel) rfl rfl (by rw [List.length_map, List.length_range]; decide) dX3_init_19 (fun H locs hP hD hS => ?_)
  have X : Hx D [(y1, .byte)] A s H locs [(h, .inr (3, (List.range 3).map (va_up (va_up (va_up (dfl kdX3) 1 (.ref q1)) 2 (.int (0 : Int32))) 0 (.ref r0)))), (q1, .inl (y1, 48, .inl (fun _ => 0)))] := Hx_set X obj_set hP hD hS
  have e1 : (List.range 3).map (va_up (va_up (va_up (dfl kdX3) 1 (.ref q1)) 2 (.int (0 : Int32))) 0 (.ref r0)) = (List.range 3).map (fld kdX3 (fun k => ([r0, q1, 0] : List Nat).getD k 0) g0X3) := by rfl
  have e2 : ([(q1, .inl (y1, 48, .inl (fun _ => 0)))] : va_W) = ksX3.map (arF akX3 lnX3 (fun k => ([r0, q1, 0] : List Nat).getD k 0) (fun k => ([y1, y1, y1] : List ClassId).getD k y1) g0X3) := by rfl
  have X := X
  have hP9 : va_P D.1 vwCl (wX3 h (fun k => ([r0, q1, 0] : List Nat).getD k 0) (fun k => ([y1, y1, y1] : List ClassId).getD k y1) g0X3) H := (obj_eq e1 e2) ▸ X.2.1
  have hD9 : va_D A (wX3 h (fun k => ([r0, q1, 0] : List Nat).getD k 0) (fun k => ([y1, y1, y1] : List ClassId).getD k y1) g0X3) := (obj_eq e1 e2) ▸ X.2.2.1
  have hK9 : va_K D.1 vwCl (tX3 (fun k => ([y1, y1, y1] : List ClassId).getD k y1)) s := X.1
  exact W.vret hx hb hr (fun t ht hW => ⟨⟨((fun k => ([r0, q1, 0] : List Nat).getD k 0), (fun k => ([y1, y1, y1] : List ClassId).getD k y1)), rfl, rfl, by rw [ht]; exact hP9, va_K.moved hW.alike hK9, hD9⟩, X.2.2.2.1.F ht⟩) X.2.2.2.1.2.2 dX3_init_22 hlk

/-! ### X8_init -/
theorem dX8_init_0 : decode cX8_init 0 = .ok (.aload_n 0, 1) := by decide +kernel
theorem dX8_init_1 : decode cX8_init 1 = .ok (.invokespecial 3, 3) := by decide +kernel
theorem dX8_init_4 : decode cX8_init 4 = .ok (.aload_n 0, 1) := by decide +kernel
theorem dX8_init_5 : decode cX8_init 5 = .ok (.sipush 512, 3) := by decide +kernel
theorem dX8_init_8 : decode cX8_init 8 = .ok (.newarray .int, 2) := by decide +kernel
theorem dX8_init_10 : decode cX8_init 10 = .ok (.putfield 9, 3) := by decide +kernel
theorem dX8_init_13 : decode cX8_init 13 = .ok (.aload_n 0, 1) := by decide +kernel
theorem dX8_init_14 : decode cX8_init 14 = .ok (.iconst 0, 1) := by decide +kernel
theorem dX8_init_15 : decode cX8_init 15 = .ok (.putfield 15, 3) := by decide +kernel
theorem dX8_init_18 : decode cX8_init 18 = .ok (.return_, 1) := by decide +kernel
def g0X8 : Gs := g00
theorem dfX8 : ∀ j, j < 2 → defaultValue (tyX8 j) = vp_V ((List.range 2).map (dfl kdX8)) j := by decide +kernel
set_option maxHeartbeats 4000000 in
set_option maxRecDepth 100000 in
theorem n_X8_init (l : Launch) (D : Dx) (h : Nat) (sz : Nat) : Met l yX8_init (ws_ yX8_init cX8_init 1 none) { frames := 1, cells := 1, slots := 512, locals := 40 } (PC D [] [.ref h] [(h, .inr (8, (List.range 2).map (dfl kdX8)))] sz) (QN D (fun u : AY => True) (va_A [(h, .inr (8, (List.range 2).map (dfl kdX8)))] sz) (fun u => wX8 h u.1 u.2 g0X8) (fun u => tX8 u.2)) 1 512 (va_A [(h, .inr (8, (List.range 2).map (dfl kdX8)))] sz) := by
  refine Met.ofW (cc := cX8_init) (maxL := 1) (ret := none) (by decide) rfl ?_
  intro p e s m args below meth c s₁ B hml hv
  obtain ⟨rfl, hsz, hP, hK, hD, hN⟩ := hv
  subst hsz
  have C : Cx p s m _ meth c cX8_init none 1 RX8 lw_all := Cx_of B hml
  have X := Hx_start hP hK hD hN
  have hin : meth.name = "<init>" := (name_of_methodNamed B.named B.method).1
  obtain ⟨hx, hb, hr, -, hown, hts, hlk⟩ := id C
  generalize va_A [(h, .inr (8, (List.range 2).map (dfl kdX8)))] s.heap.size = A at X ⊢
  have hl := lv_entry ([.ref h]) (n := 1) (Nat.le_of_ble_eq_true rfl)
  rw [lg_entry_eq]
  generalize (lg_sl ([.ref h]) ++ List.replicate (1 - (lg_sl ([.ref h])).length) Slot.unset).toArray = ls at hl ⊢
  have hl : lv_has ls 1 [(0, .ref h)] := hl
  refine lv_aload_n hx hb dX8_init_0 rfl (lv_at hl 0 rfl) ?_
  refine W.objInit hx hb hown (hts _ q2_222) (hts _ q1_31) (hts _ q1_32) rfl (by rw [hml]; exact hl.1) rfl dX8_init_1 (Nat.le_of_ble_eq_true rfl) (Nat.le_of_ble_eq_true rfl) ?_
  refine W.eq (g2 := F0 m 4 ls []) rfl ?_
  refine lv_aload_n hx hb dX8_init_4 rfl (lv_at hl 0 rfl) ?_
  refine lv_sipush (v := (512 : Int32)) hx hb dX8_init_5 (by decide) ?_
  refine va_newa (a0 := (512, .inl (fun _ => 0))) (N' := 512) hx hb (hts _ q1_125) rfl X.1 X.2.1 X.2.2.1 X.2.2.2.1 X.2.2.2.2.1 (fun _ => rfl) (by decide) (by decide) (by decide) (Nat.le_of_ble_eq_true rfl) (Nat.le_of_ble_eq_true rfl) dX8_init_8 (fun q1 y1 H hK hP hD hS => ?_)
  have X : Hx D [(y1, .int)] A s H locs [(h, .inr (8, (List.range 2).map (dfl kdX8))), (q1, .inl (y1, 512, .inl (fun _ => 0)))] := ⟨hK, hP, hD, hS, X.2.2.2.2⟩
  refine W.widen (k := 1) (n := 512) (Nat.le_of_ble_eq_true rfl) (Nat.le_of_ble_eq_true rfl) ?_
  refine va_putF (D := D.1) (ci := 8) (v := .ref q1) (ty := tyX8 0) (C := RX8) (T := TX8) (N := 2) hx hb hts wi_X8 tyX8 tyX8_ok nmX8 hown X.1 X.2.1 X.2.2.1 X.2.2.2.1 0 rfl rfl 0 (by decide) (hts _ q2_223) (fun _ h9 => h9) rfl hin rfl (by decide +kernel) rfl rfl (by rw [List.length_map, List.length_range]; decide) dX8_init_10 (fun H locs hP hD hS => ?_)
  have X : Hx D [(y1, .int)] A s H locs [(h, .inr (8, (List.range 2).map (va_up (dfl kdX8) 0 (.ref q1)))), (q1, .inl (y1, 512, .inl (fun _ => 0)))] := Hx_set X obj_set hP hD hS
  refine lv_aload_n hx hb dX8_init_13 rfl (lv_at hl 0 rfl) ?_
  refine lv_iconst (v := (0 : Int32)) hx hb dX8_init_14 (by decide) ?_
  refine va_put (D := D.1) (ci := 8) (v := .int (0 : Int32)) (ty := tyX8 1) (C := RX8) (T := TX8) (N := 2) hx hb hts wi_X8 tyX8 tyX8_ok nmX8 hown X.1 X.2.1 X.2.2.1 X.2.2.2.1 0 rfl rfl 1 (by decide) (hts _ q2_224) (fun _ h9 => h9) rfl (by decide +kernel) rfl rfl (by rw [List.length_map, List.length_range]; decide) dX8_init_15 (fun H locs hP hD hS => ?_)
  have X : Hx D [(y1, .int)] A s H locs [(h, .inr (8, (List.range 2).map (va_up (va_up (dfl kdX8) 0 (.ref q1)) 1 (.int (0 : Int32))))), (q1, .inl (y1, 512, .inl (fun _ => 0)))] := Hx_set X obj_set hP hD hS
  have e1 : (List.range 2).map (va_up (va_up (dfl kdX8) 0 (.ref q1)) 1 (.int (0 : Int32))) = (List.range 2).map (fld kdX8 (fun k => ([q1, 0] : List Nat).getD k 0) g0X8) := by rfl
  have e2 : ([(q1, .inl (y1, 512, .inl (fun _ => 0)))] : va_W) = ksX8.map (arF akX8 lnX8 (fun k => ([q1, 0] : List Nat).getD k 0) (fun k => ([y1, y1] : List ClassId).getD k y1) g0X8) := by rfl
  have X := X
  have hP9 : va_P D.1 vwCl (wX8 h (fun k => ([q1, 0] : List Nat).getD k 0) (fun k => ([y1, y1] : List ClassId).getD k y1) g0X8) H := (obj_eq e1 e2) ▸ X.2.1
  have hD9 : va_D A (wX8 h (fun k => ([q1, 0] : List Nat).getD k 0) (fun k => ([y1, y1] : List ClassId).getD k y1) g0X8) := (obj_eq e1 e2) ▸ X.2.2.1
  have hK9 : va_K D.1 vwCl (tX8 (fun k => ([y1, y1] : List ClassId).getD k y1)) s := X.1
  exact W.vret hx hb hr (fun t ht hW => ⟨⟨((fun k => ([q1, 0] : List Nat).getD k 0), (fun k => ([y1, y1] : List ClassId).getD k y1)), rfl, trivial, by rw [ht]; exact hP9, va_K.moved hW.alike hK9, hD9⟩, X.2.2.2.1.F ht⟩) X.2.2.2.1.2.2 dX8_init_18 hlk

/-! ### X7_init -/
theorem dX7_init_0 : decode cX7_init 0 = .ok (.aload_n 0, 1) := by decide +kernel
theorem dX7_init_1 : decode cX7_init 1 = .ok (.invokespecial 3, 3) := by decide +kernel
theorem dX7_init_4 : decode cX7_init 4 = .ok (.aload_n 0, 1) := by decide +kernel
theorem dX7_init_5 : decode cX7_init 5 = .ok (.iconst 0, 1) := by decide +kernel
theorem dX7_init_6 : decode cX7_init 6 = .ok (.putfield 9, 3) := by decide +kernel
theorem dX7_init_9 : decode cX7_init 9 = .ok (.aload_n 0, 1) := by decide +kernel
theorem dX7_init_10 : decode cX7_init 10 = .ok (.iconst 0, 1) := by decide +kernel
theorem dX7_init_11 : decode cX7_init 11 = .ok (.putfield 15, 3) := by decide +kernel
theorem dX7_init_14 : decode cX7_init 14 = .ok (.aload_n 0, 1) := by decide +kernel
theorem dX7_init_15 : decode cX7_init 15 = .ok (.iconst 0, 1) := by decide +kernel
theorem dX7_init_16 : decode cX7_init 16 = .ok (.putfield 18, 3) := by decide +kernel
theorem dX7_init_19 : decode cX7_init 19 = .ok (.aload_n 0, 1) := by decide +kernel
theorem dX7_init_20 : decode cX7_init 20 = .ok (.iconst 0, 1) := by decide +kernel
theorem dX7_init_21 : decode cX7_init 21 = .ok (.putfield 21, 3) := by decide +kernel
theorem dX7_init_24 : decode cX7_init 24 = .ok (.aload_n 0, 1) := by decide +kernel
theorem dX7_init_25 : decode cX7_init 25 = .ok (.iconst 0, 1) := by decide +kernel
theorem dX7_init_26 : decode cX7_init 26 = .ok (.putfield 24, 3) := by decide +kernel
theorem dX7_init_29 : decode cX7_init 29 = .ok (.aload_n 0, 1) := by decide +kernel
theorem dX7_init_30 : decode cX7_init 30 = .ok (.iconst 4, 1) := by decide +kernel
theorem dX7_init_31 : decode cX7_init 31 = .ok (.putfield 27, 3) := by decide +kernel
theorem dX7_init_34 : decode cX7_init 34 = .ok (.aload_n 0, 1) := by decide +kernel
theorem dX7_init_35 : decode cX7_init 35 = .ok (.lconst 0, 1) := by decide +kernel
theorem dX7_init_36 : decode cX7_init 36 = .ok (.putfield 30, 3) := by decide +kernel
theorem dX7_init_39 : decode cX7_init 39 = .ok (.aload_n 0, 1) := by decide +kernel
theorem dX7_init_40 : decode cX7_init 40 = .ok (.dconst 0, 1) := by decide +kernel
theorem dX7_init_41 : decode cX7_init 41 = .ok (.putfield 34, 3) := by decide +kernel
theorem dX7_init_44 : decode cX7_init 44 = .ok (.aload_n 0, 1) := by decide +kernel
theorem dX7_init_45 : decode cX7_init 45 = .ok (.iconst 0, 1) := by decide +kernel
theorem dX7_init_46 : decode cX7_init 46 = .ok (.putfield 38, 3) := by decide +kernel
theorem dX7_init_49 : decode cX7_init 49 = .ok (.aload_n 0, 1) := by decide +kernel
theorem dX7_init_50 : decode cX7_init 50 = .ok (.iconst 0, 1) := by decide +kernel
theorem dX7_init_51 : decode cX7_init 51 = .ok (.putfield 41, 3) := by decide +kernel
theorem dX7_init_54 : decode cX7_init 54 = .ok (.aload_n 0, 1) := by decide +kernel
theorem dX7_init_55 : decode cX7_init 55 = .ok (.aload_n 1, 1) := by decide +kernel
theorem dX7_init_56 : decode cX7_init 56 = .ok (.putfield 45, 3) := by decide +kernel
theorem dX7_init_59 : decode cX7_init 59 = .ok (.aload_n 0, 1) := by decide +kernel
theorem dX7_init_60 : decode cX7_init 60 = .ok (.aload_n 2, 1) := by decide +kernel
theorem dX7_init_61 : decode cX7_init 61 = .ok (.putfield 49, 3) := by decide +kernel
theorem dX7_init_64 : decode cX7_init 64 = .ok (.return_, 1) := by decide +kernel
def g0X7 : Gs := (sI g00 7 (4 : Int32))
theorem dfX7 : ∀ j, j < 12 → defaultValue (tyX7 j) = vp_V ((List.range 12).map (dfl kdX7)) j := by decide +kernel
set_option maxHeartbeats 4000000 in
set_option maxRecDepth 100000 in
theorem n_X7_init (l : Launch) (D : Dx) (h : Nat) (r0 : Nat) (r1 : Nat) (sz : Nat) : Met l yX7_init (ws_ yX7_init cX7_init 3 none) { frames := 1, cells := 0, slots := 0, locals := 40 } (PC D [] [.ref h, .ref r0, .ref r1] [(h, .inr (7, (List.range 12).map (dfl kdX7)))] sz) (QN D (fun u : AY => u.1 0 = r0 ∧ u.1 1 = r1) (va_A [(h, .inr (7, (List.range 12).map (dfl kdX7)))] sz) (fun u => wX7 h u.1 u.2 g0X7) (fun u => tX7 u.2)) 0 0 (va_A [(h, .inr (7, (List.range 12).map (dfl kdX7)))] sz) := by
  refine Met.ofW (cc := cX7_init) (maxL := 3) (ret := none) (by decide) rfl ?_
  intro p e s m args below meth c s₁ B hml hv
  obtain ⟨rfl, hsz, hP, hK, hD, hN⟩ := hv
  subst hsz
  have C : Cx p s m _ meth c cX7_init none 3 RX7 lw_all := Cx_of B hml
  have X := Hx_start hP hK hD hN
  have hin : meth.name = "<init>" := (name_of_methodNamed B.named B.method).1
  obtain ⟨hx, hb, hr, -, hown, hts, hlk⟩ := id C
  generalize va_A [(h, .inr (7, (List.range 12).map (dfl kdX7)))] s.heap.size = A at X ⊢
  have hl := lv_entry ([.ref h, .ref r0, .ref r1]) (n := 3) (Nat.le_of_ble_eq_true rfl)
  rw [lg_entry_eq]
  generalize (lg_sl ([.ref h, .ref r0, .ref r1]) ++ List.replicate (3 - (lg_sl ([.ref h, .ref r0, .ref r1])).length) Slot.unset).toArray = ls at hl ⊢
  have hl : lv_has ls 3 [(0, .ref h), (1, .ref r0), (2, .ref r1)] := hl
  refine lv_aload_n hx hb dX7_init_0 rfl (lv_at hl 0 rfl) ?_
  refine W.objInit hx hb hown (hts _ q2_235) (hts _ q1_31) (hts _ q1_32) rfl (by rw [hml]; exact hl.1) rfl dX7_init_1 (Nat.le_of_ble_eq_true rfl) (Nat.le_of_ble_eq_true rfl) ?_
  refine W.eq (g2 := F0 m 4 ls []) rfl ?_
  refine lv_aload_n hx hb dX7_init_4 rfl (lv_at hl 0 rfl) ?_
  refine lv_iconst (v := (0 : Int32)) hx hb dX7_init_5 (by decide) ?_
  refine va_put (D := D.1) (ci := 7) (v := .int (0 : Int32)) (ty := tyX7 2) (C := RX7) (T := TX7) (N := 12) hx hb hts wi_X7 tyX7 tyX7_ok nmX7 hown X.1 X.2.1 X.2.2.1 X.2.2.2.1 0 rfl rfl 2 (by decide) (hts _ q2_238) (fun _ h9 => h9) rfl (by decide +kernel) rfl rfl (by rw [List.length_map, List.length_range]; decide) dX7_init_6 (fun H locs hP hD hS => ?_)
  have X : Hx D [] A s H locs [(h, .inr (7, (List.range 12).map (va_up (dfl kdX7) 2 (.int (0 : Int32)))))] := Hx_set X obj_set hP hD hS
  refine lv_aload_n hx hb dX7_init_9 rfl (lv_at hl 0 rfl) ?_
  refine lv_iconst (v := (0 : Int32)) hx hb dX7_init_10 (by decide) ?_
  refine va_put (D := D.1) (ci := 7) (v := .int (0 : Int32)) (ty := tyX7 3) (C := RX7) (T := TX7) (N := 12) hx hb hts wi_X7 tyX7 tyX7_ok nmX7 hown X.1 X.2.1 X.2.2.1 X.2.2.2.1 0 rfl rfl 3 (by decide) (hts _ q2_239) (fun _ h9 => h9) rfl (by decide +kernel) rfl rfl (by rw [List.length_map, List.length_range]; decide) dX7_init_11 (fun H locs hP hD hS => ?_)
  have X : Hx D [] A s H locs [(h, .inr (7, (List.range 12).map (va_up (va_up (dfl kdX7) 2 (.int (0 : Int32))) 3 (.int (0 : Int32)))))] := Hx_set X obj_set hP hD hS
  refine lv_aload_n hx hb dX7_init_14 rfl (lv_at hl 0 rfl) ?_
  refine lv_iconst (v := (0 : Int32)) hx hb dX7_init_15 (by decide) ?_
  refine va_put (D := D.1) (ci := 7) (v := .int (0 : Int32)) (ty := tyX7 4) (C := RX7) (T := TX7) (N := 12) hx hb hts wi_X7 tyX7 tyX7_ok nmX7 hown X.1 X.2.1 X.2.2.1 X.2.2.2.1 0 rfl rfl 4 (by decide) (hts _ q3_0) (fun _ h9 => h9) rfl (by decide +kernel) rfl rfl (by rw [List.length_map, List.length_range]; decide) dX7_init_16 (fun H locs hP hD hS => ?_)
  have X : Hx D [] A s H locs [(h, .inr (7, (List.range 12).map (va_up (va_up (va_up (dfl kdX7) 2 (.int (0 : Int32))) 3 (.int (0 : Int32))) 4 (.int (0 : Int32)))))] := Hx_set X obj_set hP hD hS
  refine lv_aload_n hx hb dX7_init_19 rfl (lv_at hl 0 rfl) ?_
  refine lv_iconst (v := (0 : Int32)) hx hb dX7_init_20 (by decide) ?_
  refine va_put (D := D.1) (ci := 7) (v := .int (0 : Int32)) (ty := tyX7 5) (C := RX7) (T := TX7) (N := 12) hx hb hts wi_X7 tyX7 tyX7_ok nmX7 hown X.1 X.2.1 X.2.2.1 X.2.2.2.1 0 rfl rfl 5 (by decide) (hts _ q3_2) (fun _ h9 => h9) rfl (by decide +kernel) rfl rfl (by rw [List.length_map, List.length_range]; decide) dX7_init_21 (fun H locs hP hD hS => ?_)
  have X : Hx D [] A s H locs [(h, .inr (7, (List.range 12).map (va_up (va_up (va_up (va_up (dfl kdX7) 2 (.int (0 : Int32))) 3 (.int (0 : Int32))) 4 (.int (0 : Int32))) 5 (.int (0 : Int32)))))] := Hx_set X obj_set hP hD hS
  refine lv_aload_n hx hb dX7_init_24 rfl (lv_at hl 0 rfl) ?_
  refine lv_iconst (v := (0 : Int32)) hx hb dX7_init_25 (by decide) ?_
  refine va_put (D := D.1) (ci := 7) (v := .int (0 : Int32)) (ty := tyX7 6) (C := RX7) (T := TX7) (N := 12) hx hb hts wi_X7 tyX7 tyX7_ok nmX7 hown X.1 X.2.1 X.2.2.1 X.2.2.2.1 0 rfl rfl 6 (by decide) (hts _ q3_4) (fun _ h9 => h9) rfl (by decide +kernel) rfl rfl (by rw [List.length_map, List.length_range]; decide) dX7_init_26 (fun H locs hP hD hS => ?_)
  have X : Hx D [] A s H locs [(h, .inr (7, (List.range 12).map (va_up (va_up (va_up (va_up (va_up (dfl kdX7) 2 (.int (0 : Int32))) 3 (.int (0 : Int32))) 4 (.int (0 : Int32))) 5 (.int (0 : Int32))) 6 (.int (0 : Int32)))))] := Hx_set X obj_set hP hD hS
  refine lv_aload_n hx hb dX7_init_29 rfl (lv_at hl 0 rfl) ?_
  refine lv_iconst (v := (4 : Int32)) hx hb dX7_init_30 (by decide) ?_
  refine va_put (D := D.1) (ci := 7) (v := .int (4 : Int32)) (ty := tyX7 7) (C := RX7) (T := TX7) (N := 12) hx hb hts wi_X7 tyX7 tyX7_ok nmX7 hown X.1 X.2.1 X.2.2.1 X.2.2.2.1 0 rfl rfl 7 (by decide) (hts _ q3_6) (fun _ h9 => h9) rfl (by decide +kernel) rfl rfl (by rw [List.length_map, List.length_range]; decide) dX7_init_31 (fun H locs hP hD hS => ?_)
  have X : Hx D [] A s H locs [(h, .inr (7, (List.range 12).map (va_up (va_up (va_up (va_up (va_up (va_up (dfl kdX7) 2 (.int (0 : Int32))) 3 (.int (0 : Int32))) 4 (.int (0 : Int32))) 5 (.int (0 : Int32))) 6 (.int (0 : Int32))) 7 (.int (4 : Int32)))))] := Hx_set X obj_set hP hD hS
  refine lv_aload_n hx hb dX7_init_34 rfl (lv_at hl 0 rfl) ?_
  refine lv_lconst (v := (0 : Int64)) hx hb dX7_init_35 (by decide) ?_
  refine va_put (D := D.1) (ci := 7) (v := .long (0 : Int64)) (ty := tyX7 8) (C := RX7) (T := TX7) (N := 12) hx hb hts wi_X7 tyX7 tyX7_ok nmX7 hown X.1 X.2.1 X.2.2.1 X.2.2.2.1 0 rfl rfl 8 (by decide) (hts _ q3_8) (fun _ h9 => h9) rfl (by decide +kernel) rfl rfl (by rw [List.length_map, List.length_range]; decide) dX7_init_36 (fun H locs hP hD hS => ?_)
  have X : Hx D [] A s H locs [(h, .inr (7, (List.range 12).map (va_up (va_up (va_up (va_up (va_up (va_up (va_up (dfl kdX7) 2 (.int (0 : Int32))) 3 (.int (0 : Int32))) 4 (.int (0 : Int32))) 5 (.int (0 : Int32))) 6 (.int (0 : Int32))) 7 (.int (4 : Int32))) 8 (.long (0 : Int64)))))] := Hx_set X obj_set hP hD hS
  refine lv_aload_n hx hb dX7_init_39 rfl (lv_at hl 0 rfl) ?_
  refine lv_dconst0 hx hb dX7_init_40 ?_
  refine va_put (D := D.1) (ci := 7) (v := .double FP.dconst0) (ty := tyX7 9) (C := RX7) (T := TX7) (N := 12) hx hb hts wi_X7 tyX7 tyX7_ok nmX7 hown X.1 X.2.1 X.2.2.1 X.2.2.2.1 0 rfl rfl 9 (by decide) (hts _ q3_10) (fun _ h9 => h9) rfl (by decide +kernel) rfl rfl (by rw [List.length_map, List.length_range]; decide) dX7_init_41 (fun H locs hP hD hS => ?_)
  have X : Hx D [] A s H locs [(h, .inr (7, (List.range 12).map (va_up (va_up (va_up (va_up (va_up (va_up (va_up (va_up (dfl kdX7) 2 (.int (0 : Int32))) 3 (.int (0 : Int32))) 4 (.int (0 : Int32))) 5 (.int (0 : Int32))) 6 (.int (0 : Int32))) 7 (.int (4 : Int32))) 8 (.long (0 : Int64))) 9 (.double FP.dconst0))))] := Hx_set X obj_set hP hD hS
  refine lv_aload_n hx hb dX7_init_44 rfl (lv_at hl 0 rfl) ?_
  refine lv_iconst (v := (0 : Int32)) hx hb dX7_init_45 (by decide) ?_
  refine va_put (D := D.1) (ci := 7) (v := .int (0 : Int32)) (ty := tyX7 10) (C := RX7) (T := TX7) (N := 12) hx hb hts wi_X7 tyX7 tyX7_ok nmX7 hown X.1 X.2.1 X.2.2.1 X.2.2.2.1 0 rfl rfl 10 (by decide) (hts _ q3_12) (fun _ h9 => h9) rfl (by decide +kernel) rfl rfl (by rw [List.length_map, List.length_range]; decide) dX7_init_46 (fun H locs hP hD hS => ?_)
  have X : Hx D [] A s H locs [(h, .inr (7, (List.range 12).map (va_up (va_up (va_up (va_up (va_up (va_up (va_up (va_up (va_up (dfl kdX7) 2 (.int (0 : Int32))) 3 (.int (0 : Int32))) 4 (.int (0 : Int32))) 5 (.int (0 : Int32))) 6 (.int (0 : Int32))) 7 (.int (4 : Int32))) 8 (.long (0 : Int64))) 9 (.double FP.dconst0)) 10 (.int (0 : Int32)))))] := Hx_set X obj_set hP hD hS
  refine lv_aload_n hx hb dX7_init_49 rfl (lv_at hl 0 rfl) ?_
  refine lv_iconst (v := (0 : Int32)) hx hb dX7_init_50 (by decide) ?_
  refine va_put (D := D.1) (ci := 7) (v := .int (0 : Int32)) (ty := tyX7 11) (C := RX7) (T := TX7) (N := 12) hx hb hts wi_X7 tyX7 tyX7_ok nmX7 hown X.1 X.2.1 X.2.2.1 X.2.2.2.1 0 rfl rfl 11 (by decide) (hts _ q3_13) (fun _ h9 => h9) rfl (by decide +kernel) rfl rfl (by rw [List.length_map, List.length_range]; decide) dX7_init_51 (fun H locs hP hD hS => ?_)
  have X : Hx D [] A s H locs [(h, .inr (7, (List.range 12).map (va_up (va_up (va_up (va_up (va_up (va_up (va_up (va_up (va_up (va_up (dfl kdX7) 2 (.int (0 : Int32))) 3 (.int (0 : Int32))) 4 (.int (0 : Int32))) 5 (.int (0 : Int32))) 6 (.int (0 : Int32))) 7 (.int (4 : Int32))) 8 (.long (0 : Int64))) 9 (.double FP.dconst0)) 10 (.int (0 : Int32))) 11 (.int (0 : Int32)))))] := Hx_set X obj_set hP hD hS
  refine lv_aload_n hx hb dX7_init_54 rfl (lv_at hl 0 rfl) ?_
  refine lv_aload_n hx hb dX7_init_55 rfl (lv_at hl 1 rfl) ?_
  refine va_putF (D := D.1) (ci := 7) (v := .ref r0) (ty := tyX7 0) (C := RX7) (T := TX7) (N := 12) hx hb hts wi_X7 tyX7 tyX7_ok nmX7 hown X.1 X.2.1 X.2.2.1 X.2.2.2.1 0 rfl rfl 0 (by decide) (hts _ q2_236) (fun _ h9 => h9) rfl hin rfl (by decide +kernel) rfl rfl (by rw [List.length_map, List.length_range]; decide) dX7_init_56 (fun H locs hP hD hS => ?_)
  have X : Hx D [] A s H locs [(h, .inr (7, (List.range 12).map (va_up (va_up (va_up (va_up (va_up (va_up (va_up (va_up (va_up (va_up (va_up (dfl kdX7) 2 (.int (0 : Int32))) 3 (.int (0 : Int32))) 4 (.int (0 : Int32))) 5 (.int (0 : Int32))) 6 (.int (0 : Int32))) 7 (.int (4 : Int32))) 8 (.long (0 : Int64))) 9 (.double FP.dconst0)) 10 (.int (0 : Int32))) 11 (.int (0 : Int32))) 0 (.ref r0))))] := Hx_set X obj_set hP hD hS
  refine lv_aload_n hx hb dX7_init_59 rfl (lv_at hl 0 rfl) ?_
  refine lv_aload_n hx hb dX7_init_60 rfl (lv_at hl 2 rfl) ?_
  refine va_putF (D := D.1) (ci := 7) (v := .ref r1) (ty := tyX7 1) (C := RX7) (T := TX7) (N := 12) hx hb hts wi_X7 tyX7 tyX7_ok nmX7 hown X.1 X.2.1 X.2.2.1 X.2.2.2.1 0 rfl rfl 1 (by decide) (hts _ q2_237) (fun _ h9 => h9) rfl hin rfl (by decide +kernel) rfl rfl (by rw [List.length_map, List.length_range]; decide) dX7_init_61 (fun H locs hP hD hS => ?_)
  have X : Hx D [] A s H locs [(h, .inr (7, (List.range 12).map (va_up (va_up (va_up (va_up (va_up (va_up (va_up (va_up (va_up (va_up (va_up (va_up (dfl kdX7) 2 (.int (0 : Int32))) 3 (.int (0 : Int32))) 4 (.int (0 : Int32))) 5 (.int (0 : Int32))) 6 (.int (0 : Int32))) 7 (.int (4 : Int32))) 8 (.long (0 : Int64))) 9 (.double FP.dconst0)) 10 (.int (0 : Int32))) 11 (.int (0 : Int32))) 0 (.ref r0)) 1 (.ref r1))))] := Hx_set X obj_set hP hD hS
  have e1 : (List.range 12).map (va_up (va_up (va_up (va_up (va_up (va_up (va_up (va_up (va_up (va_up (va_up (va_up (dfl kdX7) 2 (.int (0 : Int32))) 3 (.int (0 : Int32))) 4 (.int (0 : Int32))) 5 (.int (0 : Int32))) 6 (.int (0 : Int32))) 7 (.int (4 : Int32))) 8 (.long (0 : Int64))) 9 (.double FP.dconst0)) 10 (.int (0 : Int32))) 11 (.int (0 : Int32))) 0 (.ref r0)) 1 (.ref r1)) = (List.range 12).map (fld kdX7 (fun k => ([r0, r1, 0, 0, 0, 0, 0, 0, 0, 0, 0, 0] : List Nat).getD k 0) g0X7) := by rfl
  have e2 : ([] : va_W) = ksX7.map (arF akX7 lnX7 (fun k => ([r0, r1, 0, 0, 0, 0, 0, 0, 0, 0, 0, 0] : List Nat).getD k 0) (fun _ => m.cls) g0X7) := by rfl
  have X := X
  have hP9 : va_P D.1 vwCl (wX7 h (fun k => ([r0, r1, 0, 0, 0, 0, 0, 0, 0, 0, 0, 0] : List Nat).getD k 0) (fun _ => m.cls) g0X7) H := (obj_eq e1 e2) ▸ X.2.1
  have hD9 : va_D A (wX7 h (fun k => ([r0, r1, 0, 0, 0, 0, 0, 0, 0, 0, 0, 0] : List Nat).getD k 0) (fun _ => m.cls) g0X7) := (obj_eq e1 e2) ▸ X.2.2.1
  have hK9 : va_K D.1 vwCl (tX7 (fun _ => m.cls)) s := X.1
  exact W.vret hx hb hr (fun t ht hW => ⟨⟨((fun k => ([r0, r1, 0, 0, 0, 0, 0, 0, 0, 0, 0, 0] : List Nat).getD k 0), (fun _ => m.cls)), rfl, ⟨rfl, rfl⟩, by rw [ht]; exact hP9, va_K.moved hW.alike hK9, hD9⟩, X.2.2.2.1.F ht⟩) X.2.2.2.1.2.2 dX7_init_64 hlk

/-! ### X2_init -/
theorem dX2_init_0 : decode cX2_init 0 = .ok (.aload_n 0, 1) := by decide +kernel
theorem dX2_init_1 : decode cX2_init 1 = .ok (.invokespecial 3, 3) := by decide +kernel
theorem dX2_init_4 : decode cX2_init 4 = .ok (.aload_n 0, 1) := by decide +kernel
theorem dX2_init_5 : decode cX2_init 5 = .ok (.iconst (-1), 1) := by decide +kernel
theorem dX2_init_6 : decode cX2_init 6 = .ok (.putfield 9, 3) := by decide +kernel
theorem dX2_init_9 : decode cX2_init 9 = .ok (.aload_n 0, 1) := by decide +kernel
theorem dX2_init_10 : decode cX2_init 10 = .ok (.aload_n 1, 1) := by decide +kernel
theorem dX2_init_11 : decode cX2_init 11 = .ok (.putfield 15, 3) := by decide +kernel
theorem dX2_init_14 : decode cX2_init 14 = .ok (.return_, 1) := by decide +kernel
def g0X2 : Gs := (sI g00 1 (-1 : Int32))
theorem dfX2 : ∀ j, j < 2 → defaultValue (tyX2 j) = vp_V ((List.range 2).map (dfl kdX2)) j := by decide +kernel
set_option maxHeartbeats 4000000 in
set_option maxRecDepth 100000 in
theorem n_X2_init (l : Launch) (D : Dx) (h : Nat) (r0 : Nat) (sz : Nat) : Met l yX2_init (ws_ yX2_init cX2_init 2 none) { frames := 1, cells := 0, slots := 0, locals := 40 } (PC D [] [.ref h, .ref r0] [(h, .inr (2, (List.range 2).map (dfl kdX2)))] sz) (QN D (fun u : AY => u.1 0 = r0) (va_A [(h, .inr (2, (List.range 2).map (dfl kdX2)))] sz) (fun u => wX2 h u.1 u.2 g0X2) (fun u => tX2 u.2)) 0 0 (va_A [(h, .inr (2, (List.range 2).map (dfl kdX2)))] sz) := by
  refine Met.ofW (cc := cX2_init) (maxL := 2) (ret := none) (by decide) rfl ?_
  intro p e s m args below meth c s₁ B hml hv
  obtain ⟨rfl, hsz, hP, hK, hD, hN⟩ := hv
  subst hsz
  have C : Cx p s m _ meth c cX2_init none 2 RX2 lw_all := Cx_of B hml
  have X := Hx_start hP hK hD hN
  have hin : meth.name = "<init>" := (name_of_methodNamed B.named B.method).1
  obtain ⟨hx, hb, hr, -, hown, hts, hlk⟩ := id C
  generalize va_A [(h, .inr (2, (List.range 2).map (dfl kdX2)))] s.heap.size = A at X ⊢
  have hl := lv_entry ([.ref h, .ref r0]) (n := 2) (Nat.le_of_ble_eq_true rfl)
  rw [lg_entry_eq]
  generalize (lg_sl ([.ref h, .ref r0]) ++ List.replicate (2 - (lg_sl ([.ref h, .ref r0])).length) Slot.unset).toArray = ls at hl ⊢
  have hl : lv_has ls 2 [(0, .ref h), (1, .ref r0)] := hl
  refine lv_aload_n hx hb dX2_init_0 rfl (lv_at hl 0 rfl) ?_
  refine W.objInit hx hb hown (hts _ q3_44) (hts _ q1_31) (hts _ q1_32) rfl (by rw [hml]; exact hl.1) rfl dX2_init_1 (Nat.le_of_ble_eq_true rfl) (Nat.le_of_ble_eq_true rfl) ?_
  refine W.eq (g2 := F0 m 4 ls []) rfl ?_
  refine lv_aload_n hx hb dX2_init_4 rfl (lv_at hl 0 rfl) ?_
  refine lv_iconst (v := (-1 : Int32)) hx hb dX2_init_5 (by decide) ?_
  refine va_put (D := D.1) (ci := 2) (v := .int (-1 : Int32)) (ty := tyX2 1) (C := RX2) (T := TX2) (N := 2) hx hb hts wi_X2 tyX2 tyX2_ok nmX2 hown X.1 X.2.1 X.2.2.1 X.2.2.2.1 0 rfl rfl 1 (by decide) (hts _ q3_46) (fun _ h9 => h9) rfl (by decide +kernel) rfl rfl (by rw [List.length_map, List.length_range]; decide) dX2_init_6 (fun H locs hP hD hS => ?_)
  have X : Hx D [] A s H locs [(h, .inr (2, (List.range 2).map (va_up (dfl kdX2) 1 (.int (-1 : Int32)))))] := Hx_set X obj_set hP hD hS
  refine lv_aload_n hx hb dX2_init_9 rfl (lv_at hl 0 rfl) ?_
  refine lv_aload_n hx hb dX2_init_10 rfl (lv_at hl 1 rfl) ?_
  refine va_putF (D := D.1) (ci := 2) (v := .ref r0) (ty := tyX2 0) (C := RX2) (T := TX2) (N := 2) hx hb hts wi_X2 tyX2 tyX2_ok nmX2 hown X.1 X.2.1 X.2.2.1 X.2.2.2.1 0 rfl rfl 0 (by decide) (hts _ q3_45) (fun _ h9 => h9) rfl hin rfl (by decide +kernel) rfl rfl (by rw [List.length_map, List.length_range]; decide) dX2_init_11 (fun H locs hP hD hS => ?_)
  have X : Hx D [] A s H locs [(h, .inr (2, (List.range 2).map (va_up (va_up (dfl kdX2) 1 (.int (-1 : Int32))) 0 (.ref r0))))] := Hx_set X obj_set hP hD hS
  have e1 : (List.range 2).map (va_up (va_up (dfl kdX2) 1 (.int (-1 : Int32))) 0 (.ref r0)) = (List.range 2).map (fld kdX2 (fun k => ([r0, 0] : List Nat).getD k 0) g0X2) := by rfl
  have e2 : ([] : va_W) = ksX2.map (arF akX2 lnX2 (fun k => ([r0, 0] : List Nat).getD k 0) (fun _ => m.cls) g0X2) := by rfl
  have X := X
  have hP9 : va_P D.1 vwCl (wX2 h (fun k => ([r0, 0] : List Nat).getD k 0) (fun _ => m.cls) g0X2) H := (obj_eq e1 e2) ▸ X.2.1
  have hD9 : va_D A (wX2 h (fun k => ([r0, 0] : List Nat).getD k 0) (fun _ => m.cls) g0X2) := (obj_eq e1 e2) ▸ X.2.2.1
  have hK9 : va_K D.1 vwCl (tX2 (fun _ => m.cls)) s := X.1
  exact W.vret hx hb hr (fun t ht hW => ⟨⟨((fun k => ([r0, 0] : List Nat).getD k 0), (fun _ => m.cls)), rfl, rfl, by rw [ht]; exact hP9, va_K.moved hW.alike hK9, hD9⟩, X.2.2.2.1.F ht⟩) X.2.2.2.1.2.2 dX2_init_14 hlk

/-! ### X12_init -/
theorem dX12_init_0 : decode cX12_init 0 = .ok (.aload_n 0, 1) := by decide +kernel
theorem dX12_init_1 : decode cX12_init 1 = .ok (.invokespecial 3, 3) := by decide +kernel
theorem dX12_init_4 : decode cX12_init 4 = .ok (.aload_n 0, 1) := by decide +kernel
theorem dX12_init_5 : decode cX12_init 5 = .ok (.sipush 3000, 3) := by decide +kernel
theorem dX12_init_8 : decode cX12_init 8 = .ok (.newarray .byte, 2) := by decide +kernel
theorem dX12_init_10 : decode cX12_init 10 = .ok (.putfield 9, 3) := by decide +kernel
theorem dX12_init_13 : decode cX12_init 13 = .ok (.aload_n 0, 1) := by decide +kernel
theorem dX12_init_14 : decode cX12_init 14 = .ok (.iconst 0, 1) := by decide +kernel
theorem dX12_init_15 : decode cX12_init 15 = .ok (.putfield 13, 3) := by decide +kernel
theorem dX12_init_18 : decode cX12_init 18 = .ok (.aload_n 0, 1) := by decide +kernel
theorem dX12_init_19 : decode cX12_init 19 = .ok (.sipush 3001, 3) := by decide +kernel
theorem dX12_init_22 : decode cX12_init 22 = .ok (.newarray .byte, 2) := by decide +kernel
theorem dX12_init_24 : decode cX12_init 24 = .ok (.putfield 17, 3) := by decide +kernel
theorem dX12_init_27 : decode cX12_init 27 = .ok (.aload_n 0, 1) := by decide +kernel
theorem dX12_init_28 : decode cX12_init 28 = .ok (.iconst 0, 1) := by decide +kernel
theorem dX12_init_29 : decode cX12_init 29 = .ok (.putfield 20, 3) := by decide +kernel
theorem dX12_init_32 : decode cX12_init 32 = .ok (.aload_n 0, 1) := by decide +kernel
theorem dX12_init_33 : decode cX12_init 33 = .ok (.bipush 26, 2) := by decide +kernel
theorem dX12_init_35 : decode cX12_init 35 = .ok (.newarray .long, 2) := by decide +kernel
theorem dX12_init_37 : decode cX12_init 37 = .ok (.dup, 1) := by decide +kernel
theorem dX12_init_38 : decode cX12_init 38 = .ok (.iconst 0, 1) := by decide +kernel
theorem dX12_init_39 : decode cX12_init 39 = .ok (.ldc2_w 23, 3) := by decide +kernel
theorem dX12_init_42 : decode cX12_init 42 = .ok (.lastore, 1) := by decide +kernel
theorem dX12_init_43 : decode cX12_init 43 = .ok (.dup, 1) := by decide +kernel
theorem dX12_init_44 : decode cX12_init 44 = .ok (.iconst 1, 1) := by decide +kernel
theorem dX12_init_45 : decode cX12_init 45 = .ok (.ldc2_w 25, 3) := by decide +kernel
theorem dX12_init_48 : decode cX12_init 48 = .ok (.lastore, 1) := by decide +kernel
theorem dX12_init_49 : decode cX12_init 49 = .ok (.dup, 1) := by decide +kernel
theorem dX12_init_50 : decode cX12_init 50 = .ok (.iconst 2, 1) := by decide +kernel
theorem dX12_init_51 : decode cX12_init 51 = .ok (.ldc2_w 27, 3) := by decide +kernel
theorem dX12_init_54 : decode cX12_init 54 = .ok (.lastore, 1) := by decide +kernel
theorem dX12_init_55 : decode cX12_init 55 = .ok (.dup, 1) := by decide +kernel
theorem dX12_init_56 : decode cX12_init 56 = .ok (.iconst 3, 1) := by decide +kernel
theorem dX12_init_57 : decode cX12_init 57 = .ok (.ldc2_w 29, 3) := by decide +kernel
theorem dX12_init_60 : decode cX12_init 60 = .ok (.lastore, 1) := by decide +kernel
theorem dX12_init_61 : decode cX12_init 61 = .ok (.dup, 1) := by decide +kernel
theorem dX12_init_62 : decode cX12_init 62 = .ok (.iconst 4, 1) := by decide +kernel
theorem dX12_init_63 : decode cX12_init 63 = .ok (.ldc2_w 31, 3) := by decide +kernel
theorem dX12_init_66 : decode cX12_init 66 = .ok (.lastore, 1) := by decide +kernel
theorem dX12_init_67 : decode cX12_init 67 = .ok (.dup, 1) := by decide +kernel
theorem dX12_init_68 : decode cX12_init 68 = .ok (.iconst 5, 1) := by decide +kernel
theorem dX12_init_69 : decode cX12_init 69 = .ok (.ldc2_w 33, 3) := by decide +kernel
theorem dX12_init_72 : decode cX12_init 72 = .ok (.lastore, 1) := by decide +kernel
theorem dX12_init_73 : decode cX12_init 73 = .ok (.dup, 1) := by decide +kernel
theorem dX12_init_74 : decode cX12_init 74 = .ok (.bipush 6, 2) := by decide +kernel
theorem dX12_init_76 : decode cX12_init 76 = .ok (.ldc2_w 35, 3) := by decide +kernel
theorem dX12_init_79 : decode cX12_init 79 = .ok (.lastore, 1) := by decide +kernel
theorem dX12_init_80 : decode cX12_init 80 = .ok (.dup, 1) := by decide +kernel
theorem dX12_init_81 : decode cX12_init 81 = .ok (.bipush 7, 2) := by decide +kernel
theorem dX12_init_83 : decode cX12_init 83 = .ok (.ldc2_w 37, 3) := by decide +kernel
theorem dX12_init_86 : decode cX12_init 86 = .ok (.lastore, 1) := by decide +kernel
theorem dX12_init_87 : decode cX12_init 87 = .ok (.dup, 1) := by decide +kernel
theorem dX12_init_88 : decode cX12_init 88 = .ok (.bipush 8, 2) := by decide +kernel
theorem dX12_init_90 : decode cX12_init 90 = .ok (.ldc2_w 39, 3) := by decide +kernel
theorem dX12_init_93 : decode cX12_init 93 = .ok (.lastore, 1) := by decide +kernel
theorem dX12_init_94 : decode cX12_init 94 = .ok (.dup, 1) := by decide +kernel
theorem dX12_init_95 : decode cX12_init 95 = .ok (.bipush 9, 2) := by decide +kernel
theorem dX12_init_97 : decode cX12_init 97 = .ok (.ldc2_w 41, 3) := by decide +kernel
theorem dX12_init_100 : decode cX12_init 100 = .ok (.lastore, 1) := by decide +kernel
theorem dX12_init_101 : decode cX12_init 101 = .ok (.dup, 1) := by decide +kernel
theorem dX12_init_102 : decode cX12_init 102 = .ok (.bipush 10, 2) := by decide +kernel
theorem dX12_init_104 : decode cX12_init 104 = .ok (.ldc2_w 43, 3) := by decide +kernel
theorem dX12_init_107 : decode cX12_init 107 = .ok (.lastore, 1) := by decide +kernel
theorem dX12_init_108 : decode cX12_init 108 = .ok (.dup, 1) := by decide +kernel
theorem dX12_init_109 : decode cX12_init 109 = .ok (.bipush 11, 2) := by decide +kernel
theorem dX12_init_111 : decode cX12_init 111 = .ok (.ldc2_w 45, 3) := by decide +kernel
theorem dX12_init_114 : decode cX12_init 114 = .ok (.lastore, 1) := by decide +kernel
theorem dX12_init_115 : decode cX12_init 115 = .ok (.dup, 1) := by decide +kernel
theorem dX12_init_116 : decode cX12_init 116 = .ok (.bipush 12, 2) := by decide +kernel
theorem dX12_init_118 : decode cX12_init 118 = .ok (.ldc2_w 47, 3) := by decide +kernel
theorem dX12_init_121 : decode cX12_init 121 = .ok (.lastore, 1) := by decide +kernel
theorem dX12_init_122 : decode cX12_init 122 = .ok (.dup, 1) := by decide +kernel
theorem dX12_init_123 : decode cX12_init 123 = .ok (.bipush 13, 2) := by decide +kernel
theorem dX12_init_125 : decode cX12_init 125 = .ok (.ldc2_w 49, 3) := by decide +kernel
theorem dX12_init_128 : decode cX12_init 128 = .ok (.lastore, 1) := by decide +kernel
theorem dX12_init_129 : decode cX12_init 129 = .ok (.dup, 1) := by decide +kernel
theorem dX12_init_130 : decode cX12_init 130 = .ok (.bipush 14, 2) := by decide +kernel
theorem dX12_init_132 : decode cX12_init 132 = .ok (.ldc2_w 51, 3) := by decide +kernel
theorem dX12_init_135 : decode cX12_init 135 = .ok (.lastore, 1) := by decide +kernel
theorem dX12_init_136 : decode cX12_init 136 = .ok (.dup, 1) := by decide +kernel
theorem dX12_init_137 : decode cX12_init 137 = .ok (.bipush 15, 2) := by decide +kernel
theorem dX12_init_139 : decode cX12_init 139 = .ok (.ldc2_w 53, 3) := by decide +kernel
theorem dX12_init_142 : decode cX12_init 142 = .ok (.lastore, 1) := by decide +kernel
theorem dX12_init_143 : decode cX12_init 143 = .ok (.dup, 1) := by decide +kernel
theorem dX12_init_144 : decode cX12_init 144 = .ok (.bipush 16, 2) := by decide +kernel
theorem dX12_init_146 : decode cX12_init 146 = .ok (.ldc2_w 55, 3) := by decide +kernel
theorem dX12_init_149 : decode cX12_init 149 = .ok (.lastore, 1) := by decide +kernel
theorem dX12_init_150 : decode cX12_init 150 = .ok (.dup, 1) := by decide +kernel
theorem dX12_init_151 : decode cX12_init 151 = .ok (.bipush 17, 2) := by decide +kernel
theorem dX12_init_153 : decode cX12_init 153 = .ok (.ldc2_w 57, 3) := by decide +kernel
theorem dX12_init_156 : decode cX12_init 156 = .ok (.lastore, 1) := by decide +kernel
theorem dX12_init_157 : decode cX12_init 157 = .ok (.dup, 1) := by decide +kernel
theorem dX12_init_158 : decode cX12_init 158 = .ok (.bipush 18, 2) := by decide +kernel
theorem dX12_init_160 : decode cX12_init 160 = .ok (.ldc2_w 59, 3) := by decide +kernel
theorem dX12_init_163 : decode cX12_init 163 = .ok (.lastore, 1) := by decide +kernel
theorem dX12_init_164 : decode cX12_init 164 = .ok (.dup, 1) := by decide +kernel
theorem dX12_init_165 : decode cX12_init 165 = .ok (.bipush 19, 2) := by decide +kernel
theorem dX12_init_167 : decode cX12_init 167 = .ok (.ldc2_w 61, 3) := by decide +kernel
theorem dX12_init_170 : decode cX12_init 170 = .ok (.lastore, 1) := by decide +kernel
theorem dX12_init_171 : decode cX12_init 171 = .ok (.dup, 1) := by decide +kernel
theorem dX12_init_172 : decode cX12_init 172 = .ok (.bipush 20, 2) := by decide +kernel
theorem dX12_init_174 : decode cX12_init 174 = .ok (.ldc2_w 63, 3) := by decide +kernel
theorem dX12_init_177 : decode cX12_init 177 = .ok (.lastore, 1) := by decide +kernel
theorem dX12_init_178 : decode cX12_init 178 = .ok (.dup, 1) := by decide +kernel
theorem dX12_init_179 : decode cX12_init 179 = .ok (.bipush 21, 2) := by decide +kernel
theorem dX12_init_181 : decode cX12_init 181 = .ok (.ldc2_w 65, 3) := by decide +kernel
theorem dX12_init_184 : decode cX12_init 184 = .ok (.lastore, 1) := by decide +kernel
theorem dX12_init_185 : decode cX12_init 185 = .ok (.dup, 1) := by decide +kernel
theorem dX12_init_186 : decode cX12_init 186 = .ok (.bipush 22, 2) := by decide +kernel
theorem dX12_init_188 : decode cX12_init 188 = .ok (.ldc2_w 67, 3) := by decide +kernel
theorem dX12_init_191 : decode cX12_init 191 = .ok (.lastore, 1) := by decide +kernel
theorem dX12_init_192 : decode cX12_init 192 = .ok (.dup, 1) := by decide +kernel
theorem dX12_init_193 : decode cX12_init 193 = .ok (.bipush 23, 2) := by decide +kernel
theorem dX12_init_195 : decode cX12_init 195 = .ok (.ldc2_w 69, 3) := by decide +kernel
theorem dX12_init_198 : decode cX12_init 198 = .ok (.lastore, 1) := by decide +kernel
theorem dX12_init_199 : decode cX12_init 199 = .ok (.dup, 1) := by decide +kernel
theorem dX12_init_200 : decode cX12_init 200 = .ok (.bipush 24, 2) := by decide +kernel
theorem dX12_init_202 : decode cX12_init 202 = .ok (.ldc2_w 71, 3) := by decide +kernel
theorem dX12_init_205 : decode cX12_init 205 = .ok (.lastore, 1) := by decide +kernel
theorem dX12_init_206 : decode cX12_init 206 = .ok (.dup, 1) := by decide +kernel
theorem dX12_init_207 : decode cX12_init 207 = .ok (.bipush 25, 2) := by decide +kernel
theorem dX12_init_209 : decode cX12_init 209 = .ok (.ldc2_w 73, 3) := by decide +kernel
theorem dX12_init_212 : decode cX12_init 212 = .ok (.lastore, 1) := by decide +kernel
theorem dX12_init_213 : decode cX12_init 213 = .ok (.putfield 75, 3) := by decide +kernel
theorem dX12_init_216 : decode cX12_init 216 = .ok (.aload_n 0, 1) := by decide +kernel
theorem dX12_init_217 : decode cX12_init 217 = .ok (.iconst 0, 1) := by decide +kernel
theorem dX12_init_218 : decode cX12_init 218 = .ok (.putfield 79, 3) := by decide +kernel
theorem dX12_init_221 : decode cX12_init 221 = .ok (.aload_n 0, 1) := by decide +kernel
theorem dX12_init_222 : decode cX12_init 222 = .ok (.sipush 3001, 3) := by decide +kernel
theorem dX12_init_225 : decode cX12_init 225 = .ok (.newarray .int, 2) := by decide +kernel
theorem dX12_init_227 : decode cX12_init 227 = .ok (.putfield 82, 3) := by decide +kernel
theorem dX12_init_230 : decode cX12_init 230 = .ok (.aload_n 0, 1) := by decide +kernel
theorem dX12_init_231 : decode cX12_init 231 = .ok (.sipush 3001, 3) := by decide +kernel
theorem dX12_init_234 : decode cX12_init 234 = .ok (.newarray .int, 2) := by decide +kernel
theorem dX12_init_236 : decode cX12_init 236 = .ok (.putfield 86, 3) := by decide +kernel
theorem dX12_init_239 : decode cX12_init 239 = .ok (.aload_n 0, 1) := by decide +kernel
theorem dX12_init_240 : decode cX12_init 240 = .ok (.sipush 3001, 3) := by decide +kernel
theorem dX12_init_243 : decode cX12_init 243 = .ok (.newarray .int, 2) := by decide +kernel
theorem dX12_init_245 : decode cX12_init 245 = .ok (.putfield 89, 3) := by decide +kernel
theorem dX12_init_248 : decode cX12_init 248 = .ok (.aload_n 0, 1) := by decide +kernel
theorem dX12_init_249 : decode cX12_init 249 = .ok (.sipush 3001, 3) := by decide +kernel
theorem dX12_init_252 : decode cX12_init 252 = .ok (.newarray .long, 2) := by decide +kernel
theorem dX12_init_254 : decode cX12_init 254 = .ok (.putfield 92, 3) := by decide +kernel
theorem dX12_init_257 : decode cX12_init 257 = .ok (.aload_n 0, 1) := by decide +kernel
theorem dX12_init_258 : decode cX12_init 258 = .ok (.sipush 3001, 3) := by decide +kernel
theorem dX12_init_261 : decode cX12_init 261 = .ok (.newarray .int, 2) := by decide +kernel
theorem dX12_init_263 : decode cX12_init 263 = .ok (.putfield 95, 3) := by decide +kernel
theorem dX12_init_266 : decode cX12_init 266 = .ok (.aload_n 0, 1) := by decide +kernel
theorem dX12_init_267 : decode cX12_init 267 = .ok (.sipush 8000, 3) := by decide +kernel
theorem dX12_init_270 : decode cX12_init 270 = .ok (.newarray .int, 2) := by decide +kernel
theorem dX12_init_272 : decode cX12_init 272 = .ok (.putfield 98, 3) := by decide +kernel
theorem dX12_init_275 : decode cX12_init 275 = .ok (.aload_n 0, 1) := by decide +kernel
theorem dX12_init_276 : decode cX12_init 276 = .ok (.sipush 8000, 3) := by decide +kernel
theorem dX12_init_279 : decode cX12_init 279 = .ok (.newarray .int, 2) := by decide +kernel
theorem dX12_init_281 : decode cX12_init 281 = .ok (.putfield 101, 3) := by decide +kernel
theorem dX12_init_284 : decode cX12_init 284 = .ok (.aload_n 0, 1) := by decide +kernel
theorem dX12_init_285 : decode cX12_init 285 = .ok (.sipush 8000, 3) := by decide +kernel
theorem dX12_init_288 : decode cX12_init 288 = .ok (.newarray .int, 2) := by decide +kernel
theorem dX12_init_290 : decode cX12_init 290 = .ok (.putfield 104, 3) := by decide +kernel
theorem dX12_init_293 : decode cX12_init 293 = .ok (.aload_n 0, 1) := by decide +kernel
theorem dX12_init_294 : decode cX12_init 294 = .ok (.sipush 8000, 3) := by decide +kernel
theorem dX12_init_297 : decode cX12_init 297 = .ok (.newarray .int, 2) := by decide +kernel
theorem dX12_init_299 : decode cX12_init 299 = .ok (.putfield 107, 3) := by decide +kernel
theorem dX12_init_302 : decode cX12_init 302 = .ok (.aload_n 0, 1) := by decide +kernel
theorem dX12_init_303 : decode cX12_init 303 = .ok (.sipush 8000, 3) := by decide +kernel
theorem dX12_init_306 : decode cX12_init 306 = .ok (.newarray .long, 2) := by decide +kernel
theorem dX12_init_308 : decode cX12_init 308 = .ok (.putfield 110, 3) := by decide +kernel
theorem dX12_init_311 : decode cX12_init 311 = .ok (.aload_n 0, 1) := by decide +kernel
theorem dX12_init_312 : decode cX12_init 312 = .ok (.iconst 0, 1) := by decide +kernel
theorem dX12_init_313 : decode cX12_init 313 = .ok (.putfield 113, 3) := by decide +kernel
theorem dX12_init_316 : decode cX12_init 316 = .ok (.aload_n 0, 1) := by decide +kernel
theorem dX12_init_317 : decode cX12_init 317 = .ok (.iconst 0, 1) := by decide +kernel
theorem dX12_init_318 : decode cX12_init 318 = .ok (.putfield 116, 3) := by decide +kernel
theorem dX12_init_321 : decode cX12_init 321 = .ok (.aload_n 0, 1) := by decide +kernel
theorem dX12_init_322 : decode cX12_init 322 = .ok (.iconst 0, 1) := by decide +kernel
theorem dX12_init_323 : decode cX12_init 323 = .ok (.putfield 119, 3) := by decide +kernel
theorem dX12_init_326 : decode cX12_init 326 = .ok (.aload_n 0, 1) := by decide +kernel
theorem dX12_init_327 : decode cX12_init 327 = .ok (.iconst 0, 1) := by decide +kernel
theorem dX12_init_328 : decode cX12_init 328 = .ok (.putfield 122, 3) := by decide +kernel
theorem dX12_init_331 : decode cX12_init 331 = .ok (.aload_n 0, 1) := by decide +kernel
theorem dX12_init_332 : decode cX12_init 332 = .ok (.iconst (-1), 1) := by decide +kernel
theorem dX12_init_333 : decode cX12_init 333 = .ok (.putfield 125, 3) := by decide +kernel
theorem dX12_init_336 : decode cX12_init 336 = .ok (.aload_n 0, 1) := by decide +kernel
theorem dX12_init_337 : decode cX12_init 337 = .ok (.iconst 0, 1) := by decide +kernel
theorem dX12_init_338 : decode cX12_init 338 = .ok (.putfield 128, 3) := by decide +kernel
theorem dX12_init_341 : decode cX12_init 341 = .ok (.aload_n 0, 1) := by decide +kernel
theorem dX12_init_342 : decode cX12_init 342 = .ok (.iconst 0, 1) := by decide +kernel
theorem dX12_init_343 : decode cX12_init 343 = .ok (.putfield 131, 3) := by decide +kernel
theorem dX12_init_346 : decode cX12_init 346 = .ok (.aload_n 0, 1) := by decide +kernel
theorem dX12_init_347 : decode cX12_init 347 = .ok (.iconst 0, 1) := by decide +kernel
theorem dX12_init_348 : decode cX12_init 348 = .ok (.putfield 134, 3) := by decide +kernel
theorem dX12_init_351 : decode cX12_init 351 = .ok (.aload_n 0, 1) := by decide +kernel
theorem dX12_init_352 : decode cX12_init 352 = .ok (.iconst 0, 1) := by decide +kernel
theorem dX12_init_353 : decode cX12_init 353 = .ok (.putfield 138, 3) := by decide +kernel
theorem dX12_init_356 : decode cX12_init 356 = .ok (.aload_n 0, 1) := by decide +kernel
theorem dX12_init_357 : decode cX12_init 357 = .ok (.sipush 3001, 3) := by decide +kernel
theorem dX12_init_360 : decode cX12_init 360 = .ok (.newarray .int, 2) := by decide +kernel
theorem dX12_init_362 : decode cX12_init 362 = .ok (.putfield 141, 3) := by decide +kernel
theorem dX12_init_365 : decode cX12_init 365 = .ok (.aload_n 0, 1) := by decide +kernel
theorem dX12_init_366 : decode cX12_init 366 = .ok (.sipush 3001, 3) := by decide +kernel
theorem dX12_init_369 : decode cX12_init 369 = .ok (.newarray .int, 2) := by decide +kernel
theorem dX12_init_371 : decode cX12_init 371 = .ok (.putfield 144, 3) := by decide +kernel
theorem dX12_init_374 : decode cX12_init 374 = .ok (.aload_n 0, 1) := by decide +kernel
theorem dX12_init_375 : decode cX12_init 375 = .ok (.sipush 3001, 3) := by decide +kernel
theorem dX12_init_378 : decode cX12_init 378 = .ok (.newarray .int, 2) := by decide +kernel
theorem dX12_init_380 : decode cX12_init 380 = .ok (.putfield 147, 3) := by decide +kernel
theorem dX12_init_383 : decode cX12_init 383 = .ok (.aload_n 0, 1) := by decide +kernel
theorem dX12_init_384 : decode cX12_init 384 = .ok (.sipush 3001, 3) := by decide +kernel
theorem dX12_init_387 : decode cX12_init 387 = .ok (.newarray .int, 2) := by decide +kernel
theorem dX12_init_389 : decode cX12_init 389 = .ok (.putfield 150, 3) := by decide +kernel
theorem dX12_init_392 : decode cX12_init 392 = .ok (.aload_n 0, 1) := by decide +kernel
theorem dX12_init_393 : decode cX12_init 393 = .ok (.sipush 3001, 3) := by decide +kernel
theorem dX12_init_396 : decode cX12_init 396 = .ok (.newarray .int, 2) := by decide +kernel
theorem dX12_init_398 : decode cX12_init 398 = .ok (.putfield 153, 3) := by decide +kernel
theorem dX12_init_401 : decode cX12_init 401 = .ok (.aload_n 0, 1) := by decide +kernel
theorem dX12_init_402 : decode cX12_init 402 = .ok (.iconst 0, 1) := by decide +kernel
theorem dX12_init_403 : decode cX12_init 403 = .ok (.putfield 156, 3) := by decide +kernel
theorem dX12_init_406 : decode cX12_init 406 = .ok (.aload_n 0, 1) := by decide +kernel
theorem dX12_init_407 : decode cX12_init 407 = .ok (.iconst 0, 1) := by decide +kernel
theorem dX12_init_408 : decode cX12_init 408 = .ok (.putfield 159, 3) := by decide +kernel
theorem dX12_init_411 : decode cX12_init 411 = .ok (.aload_n 0, 1) := by decide +kernel
theorem dX12_init_412 : decode cX12_init 412 = .ok (.iconst 0, 1) := by decide +kernel
theorem dX12_init_413 : decode cX12_init 413 = .ok (.putfield 162, 3) := by decide +kernel
theorem dX12_init_416 : decode cX12_init 416 = .ok (.aload_n 0, 1) := by decide +kernel
theorem dX12_init_417 : decode cX12_init 417 = .ok (.iconst 0, 1) := by decide +kernel
theorem dX12_init_418 : decode cX12_init 418 = .ok (.putfield 165, 3) := by decide +kernel
theorem dX12_init_421 : decode cX12_init 421 = .ok (.aload_n 0, 1) := by decide +kernel
theorem dX12_init_422 : decode cX12_init 422 = .ok (.sipush 400, 3) := by decide +kernel
theorem dX12_init_425 : decode cX12_init 425 = .ok (.newarray .int, 2) := by decide +kernel
theorem dX12_init_427 : decode cX12_init 427 = .ok (.putfield 168, 3) := by decide +kernel
theorem dX12_init_430 : decode cX12_init 430 = .ok (.aload_n 0, 1) := by decide +kernel
theorem dX12_init_431 : decode cX12_init 431 = .ok (.sipush 400, 3) := by decide +kernel
theorem dX12_init_434 : decode cX12_init 434 = .ok (.newarray .int, 2) := by decide +kernel
theorem dX12_init_436 : decode cX12_init 436 = .ok (.putfield 171, 3) := by decide +kernel
theorem dX12_init_439 : decode cX12_init 439 = .ok (.aload_n 0, 1) := by decide +kernel
theorem dX12_init_440 : decode cX12_init 440 = .ok (.sipush 400, 3) := by decide +kernel
theorem dX12_init_443 : decode cX12_init 443 = .ok (.newarray .boolean, 2) := by decide +kernel
theorem dX12_init_445 : decode cX12_init 445 = .ok (.putfield 174, 3) := by decide +kernel
theorem dX12_init_448 : decode cX12_init 448 = .ok (.aload_n 0, 1) := by decide +kernel
theorem dX12_init_449 : decode cX12_init 449 = .ok (.sipush 400, 3) := by decide +kernel
theorem dX12_init_452 : decode cX12_init 452 = .ok (.newarray .int, 2) := by decide +kernel
theorem dX12_init_454 : decode cX12_init 454 = .ok (.putfield 178, 3) := by decide +kernel
theorem dX12_init_457 : decode cX12_init 457 = .ok (.aload_n 0, 1) := by decide +kernel
theorem dX12_init_458 : decode cX12_init 458 = .ok (.sipush 400, 3) := by decide +kernel
theorem dX12_init_461 : decode cX12_init 461 = .ok (.newarray .int, 2) := by decide +kernel
theorem dX12_init_463 : decode cX12_init 463 = .ok (.putfield 181, 3) := by decide +kernel
theorem dX12_init_466 : decode cX12_init 466 = .ok (.aload_n 0, 1) := by decide +kernel
theorem dX12_init_467 : decode cX12_init 467 = .ok (.sipush 400, 3) := by decide +kernel
theorem dX12_init_470 : decode cX12_init 470 = .ok (.newarray .int, 2) := by decide +kernel
theorem dX12_init_472 : decode cX12_init 472 = .ok (.putfield 184, 3) := by decide +kernel
theorem dX12_init_475 : decode cX12_init 475 = .ok (.aload_n 0, 1) := by decide +kernel
theorem dX12_init_476 : decode cX12_init 476 = .ok (.sipush 400, 3) := by decide +kernel
theorem dX12_init_479 : decode cX12_init 479 = .ok (.newarray .int, 2) := by decide +kernel
theorem dX12_init_481 : decode cX12_init 481 = .ok (.putfield 187, 3) := by decide +kernel
theorem dX12_init_484 : decode cX12_init 484 = .ok (.aload_n 0, 1) := by decide +kernel
theorem dX12_init_485 : decode cX12_init 485 = .ok (.sipush 400, 3) := by decide +kernel
theorem dX12_init_488 : decode cX12_init 488 = .ok (.newarray .int, 2) := by decide +kernel
theorem dX12_init_490 : decode cX12_init 490 = .ok (.putfield 190, 3) := by decide +kernel
theorem dX12_init_493 : decode cX12_init 493 = .ok (.aload_n 0, 1) := by decide +kernel
theorem dX12_init_494 : decode cX12_init 494 = .ok (.sipush 400, 3) := by decide +kernel
theorem dX12_init_497 : decode cX12_init 497 = .ok (.newarray .int, 2) := by decide +kernel
theorem dX12_init_499 : decode cX12_init 499 = .ok (.putfield 193, 3) := by decide +kernel
theorem dX12_init_502 : decode cX12_init 502 = .ok (.aload_n 0, 1) := by decide +kernel
theorem dX12_init_503 : decode cX12_init 503 = .ok (.sipush 400, 3) := by decide +kernel
theorem dX12_init_506 : decode cX12_init 506 = .ok (.newarray .int, 2) := by decide +kernel
theorem dX12_init_508 : decode cX12_init 508 = .ok (.putfield 196, 3) := by decide +kernel
theorem dX12_init_511 : decode cX12_init 511 = .ok (.aload_n 0, 1) := by decide +kernel
theorem dX12_init_512 : decode cX12_init 512 = .ok (.sipush 400, 3) := by decide +kernel
theorem dX12_init_515 : decode cX12_init 515 = .ok (.newarray .int, 2) := by decide +kernel
theorem dX12_init_517 : decode cX12_init 517 = .ok (.putfield 199, 3) := by decide +kernel
theorem dX12_init_520 : decode cX12_init 520 = .ok (.aload_n 0, 1) := by decide +kernel
theorem dX12_init_521 : decode cX12_init 521 = .ok (.sipush 400, 3) := by decide +kernel
theorem dX12_init_524 : decode cX12_init 524 = .ok (.newarray .int, 2) := by decide +kernel
theorem dX12_init_526 : decode cX12_init 526 = .ok (.putfield 202, 3) := by decide +kernel
theorem dX12_init_529 : decode cX12_init 529 = .ok (.aload_n 0, 1) := by decide +kernel
theorem dX12_init_530 : decode cX12_init 530 = .ok (.sipush 400, 3) := by decide +kernel
theorem dX12_init_533 : decode cX12_init 533 = .ok (.newarray .int, 2) := by decide +kernel
theorem dX12_init_535 : decode cX12_init 535 = .ok (.putfield 205, 3) := by decide +kernel
theorem dX12_init_538 : decode cX12_init 538 = .ok (.aload_n 0, 1) := by decide +kernel
theorem dX12_init_539 : decode cX12_init 539 = .ok (.sipush 400, 3) := by decide +kernel
theorem dX12_init_542 : decode cX12_init 542 = .ok (.newarray .int, 2) := by decide +kernel
theorem dX12_init_544 : decode cX12_init 544 = .ok (.putfield 208, 3) := by decide +kernel
theorem dX12_init_547 : decode cX12_init 547 = .ok (.aload_n 0, 1) := by decide +kernel
theorem dX12_init_548 : decode cX12_init 548 = .ok (.sipush 400, 3) := by decide +kernel
theorem dX12_init_551 : decode cX12_init 551 = .ok (.newarray .int, 2) := by decide +kernel
theorem dX12_init_553 : decode cX12_init 553 = .ok (.putfield 211, 3) := by decide +kernel
theorem dX12_init_556 : decode cX12_init 556 = .ok (.aload_n 0, 1) := by decide +kernel
theorem dX12_init_557 : decode cX12_init 557 = .ok (.sipush 400, 3) := by decide +kernel
theorem dX12_init_560 : decode cX12_init 560 = .ok (.newarray .int, 2) := by decide +kernel
theorem dX12_init_562 : decode cX12_init 562 = .ok (.putfield 214, 3) := by decide +kernel
theorem dX12_init_565 : decode cX12_init 565 = .ok (.aload_n 0, 1) := by decide +kernel
theorem dX12_init_566 : decode cX12_init 566 = .ok (.sipush 400, 3) := by decide +kernel
theorem dX12_init_569 : decode cX12_init 569 = .ok (.newarray .int, 2) := by decide +kernel
theorem dX12_init_571 : decode cX12_init 571 = .ok (.putfield 217, 3) := by decide +kernel
theorem dX12_init_574 : decode cX12_init 574 = .ok (.aload_n 0, 1) := by decide +kernel
theorem dX12_init_575 : decode cX12_init 575 = .ok (.sipush 400, 3) := by decide +kernel
theorem dX12_init_578 : decode cX12_init 578 = .ok (.newarray .int, 2) := by decide +kernel
theorem dX12_init_580 : decode cX12_init 580 = .ok (.putfield 220, 3) := by decide +kernel
theorem dX12_init_583 : decode cX12_init 583 = .ok (.aload_n 0, 1) := by decide +kernel
theorem dX12_init_584 : decode cX12_init 584 = .ok (.sipush 400, 3) := by decide +kernel
theorem dX12_init_587 : decode cX12_init 587 = .ok (.newarray .int, 2) := by decide +kernel
theorem dX12_init_589 : decode cX12_init 589 = .ok (.putfield 223, 3) := by decide +kernel
theorem dX12_init_592 : decode cX12_init 592 = .ok (.aload_n 0, 1) := by decide +kernel
theorem dX12_init_593 : decode cX12_init 593 = .ok (.sipush 1600, 3) := by decide +kernel
theorem dX12_init_596 : decode cX12_init 596 = .ok (.newarray .long, 2) := by decide +kernel
theorem dX12_init_598 : decode cX12_init 598 = .ok (.putfield 226, 3) := by decide +kernel
theorem dX12_init_601 : decode cX12_init 601 = .ok (.aload_n 0, 1) := by decide +kernel
theorem dX12_init_602 : decode cX12_init 602 = .ok (.sipush 400, 3) := by decide +kernel
theorem dX12_init_605 : decode cX12_init 605 = .ok (.newarray .int, 2) := by decide +kernel
theorem dX12_init_607 : decode cX12_init 607 = .ok (.putfield 229, 3) := by decide +kernel
theorem dX12_init_610 : decode cX12_init 610 = .ok (.aload_n 0, 1) := by decide +kernel
theorem dX12_init_611 : decode cX12_init 611 = .ok (.iconst 0, 1) := by decide +kernel
theorem dX12_init_612 : decode cX12_init 612 = .ok (.putfield 232, 3) := by decide +kernel
theorem dX12_init_615 : decode cX12_init 615 = .ok (.aload_n 0, 1) := by decide +kernel
theorem dX12_init_616 : decode cX12_init 616 = .ok (.iconst 0, 1) := by decide +kernel
theorem dX12_init_617 : decode cX12_init 617 = .ok (.putfield 235, 3) := by decide +kernel
theorem dX12_init_620 : decode cX12_init 620 = .ok (.aload_n 0, 1) := by decide +kernel
theorem dX12_init_621 : decode cX12_init 621 = .ok (.iconst 0, 1) := by decide +kernel
theorem dX12_init_622 : decode cX12_init 622 = .ok (.putfield 238, 3) := by decide +kernel
theorem dX12_init_625 : decode cX12_init 625 = .ok (.aload_n 0, 1) := by decide +kernel
theorem dX12_init_626 : decode cX12_init 626 = .ok (.iconst 0, 1) := by decide +kernel
theorem dX12_init_627 : decode cX12_init 627 = .ok (.putfield 241, 3) := by decide +kernel
theorem dX12_init_630 : decode cX12_init 630 = .ok (.aload_n 0, 1) := by decide +kernel
theorem dX12_init_631 : decode cX12_init 631 = .ok (.iconst 0, 1) := by decide +kernel
theorem dX12_init_632 : decode cX12_init 632 = .ok (.putfield 244, 3) := by decide +kernel
theorem dX12_init_635 : decode cX12_init 635 = .ok (.aload_n 0, 1) := by decide +kernel
theorem dX12_init_636 : decode cX12_init 636 = .ok (.iconst 0, 1) := by decide +kernel
theorem dX12_init_637 : decode cX12_init 637 = .ok (.putfield 247, 3) := by decide +kernel
theorem dX12_init_640 : decode cX12_init 640 = .ok (.aload_n 0, 1) := by decide +kernel
theorem dX12_init_641 : decode cX12_init 641 = .ok (.iconst 0, 1) := by decide +kernel
theorem dX12_init_642 : decode cX12_init 642 = .ok (.putfield 250, 3) := by decide +kernel
theorem dX12_init_645 : decode cX12_init 645 = .ok (.aload_n 0, 1) := by decide +kernel
theorem dX12_init_646 : decode cX12_init 646 = .ok (.sipush 600, 3) := by decide +kernel
theorem dX12_init_649 : decode cX12_init 649 = .ok (.newarray .byte, 2) := by decide +kernel
theorem dX12_init_651 : decode cX12_init 651 = .ok (.putfield 253, 3) := by decide +kernel
theorem dX12_init_654 : decode cX12_init 654 = .ok (.aload_n 0, 1) := by decide +kernel
theorem dX12_init_655 : decode cX12_init 655 = .ok (.bipush 60, 2) := by decide +kernel
theorem dX12_init_657 : decode cX12_init 657 = .ok (.newarray .int, 2) := by decide +kernel
theorem dX12_init_659 : decode cX12_init 659 = .ok (.putfield 256, 3) := by decide +kernel
theorem dX12_init_662 : decode cX12_init 662 = .ok (.aload_n 0, 1) := by decide +kernel
theorem dX12_init_663 : decode cX12_init 663 = .ok (.bipush 40, 2) := by decide +kernel
theorem dX12_init_665 : decode cX12_init 665 = .ok (.newarray .int, 2) := by decide +kernel
theorem dX12_init_667 : decode cX12_init 667 = .ok (.putfield 259, 3) := by decide +kernel
theorem dX12_init_670 : decode cX12_init 670 = .ok (.aload_n 0, 1) := by decide +kernel
theorem dX12_init_671 : decode cX12_init 671 = .ok (.bipush 40, 2) := by decide +kernel
theorem dX12_init_673 : decode cX12_init 673 = .ok (.newarray .boolean, 2) := by decide +kernel
theorem dX12_init_675 : decode cX12_init 675 = .ok (.putfield 262, 3) := by decide +kernel
theorem dX12_init_678 : decode cX12_init 678 = .ok (.aload_n 0, 1) := by decide +kernel
theorem dX12_init_679 : decode cX12_init 679 = .ok (.bipush 40, 2) := by decide +kernel
theorem dX12_init_681 : decode cX12_init 681 = .ok (.newarray .int, 2) := by decide +kernel
theorem dX12_init_683 : decode cX12_init 683 = .ok (.putfield 265, 3) := by decide +kernel
theorem dX12_init_686 : decode cX12_init 686 = .ok (.aload_n 0, 1) := by decide +kernel
theorem dX12_init_687 : decode cX12_init 687 = .ok (.bipush 40, 2) := by decide +kernel
theorem dX12_init_689 : decode cX12_init 689 = .ok (.newarray .int, 2) := by decide +kernel
theorem dX12_init_691 : decode cX12_init 691 = .ok (.putfield 268, 3) := by decide +kernel
theorem dX12_init_694 : decode cX12_init 694 = .ok (.aload_n 0, 1) := by decide +kernel
theorem dX12_init_695 : decode cX12_init 695 = .ok (.bipush 40, 2) := by decide +kernel
theorem dX12_init_697 : decode cX12_init 697 = .ok (.newarray .int, 2) := by decide +kernel
theorem dX12_init_699 : decode cX12_init 699 = .ok (.putfield 271, 3) := by decide +kernel
theorem dX12_init_702 : decode cX12_init 702 = .ok (.aload_n 0, 1) := by decide +kernel
theorem dX12_init_703 : decode cX12_init 703 = .ok (.bipush 40, 2) := by decide +kernel
theorem dX12_init_705 : decode cX12_init 705 = .ok (.newarray .int, 2) := by decide +kernel
theorem dX12_init_707 : decode cX12_init 707 = .ok (.putfield 274, 3) := by decide +kernel
theorem dX12_init_710 : decode cX12_init 710 = .ok (.aload_n 0, 1) := by decide +kernel
theorem dX12_init_711 : decode cX12_init 711 = .ok (.bipush 40, 2) := by decide +kernel
theorem dX12_init_713 : decode cX12_init 713 = .ok (.newarray .int, 2) := by decide +kernel
theorem dX12_init_715 : decode cX12_init 715 = .ok (.putfield 277, 3) := by decide +kernel
theorem dX12_init_718 : decode cX12_init 718 = .ok (.aload_n 0, 1) := by decide +kernel
theorem dX12_init_719 : decode cX12_init 719 = .ok (.bipush 12, 2) := by decide +kernel
theorem dX12_init_721 : decode cX12_init 721 = .ok (.newarray .int, 2) := by decide +kernel
theorem dX12_init_723 : decode cX12_init 723 = .ok (.putfield 280, 3) := by decide +kernel
theorem dX12_init_726 : decode cX12_init 726 = .ok (.aload_n 0, 1) := by decide +kernel
theorem dX12_init_727 : decode cX12_init 727 = .ok (.bipush 12, 2) := by decide +kernel
theorem dX12_init_729 : decode cX12_init 729 = .ok (.newarray .int, 2) := by decide +kernel
theorem dX12_init_731 : decode cX12_init 731 = .ok (.putfield 283, 3) := by decide +kernel
theorem dX12_init_734 : decode cX12_init 734 = .ok (.aload_n 0, 1) := by decide +kernel
theorem dX12_init_735 : decode cX12_init 735 = .ok (.bipush 52, 2) := by decide +kernel
theorem dX12_init_737 : decode cX12_init 737 = .ok (.newarray .int, 2) := by decide +kernel
theorem dX12_init_739 : decode cX12_init 739 = .ok (.putfield 286, 3) := by decide +kernel
theorem dX12_init_742 : decode cX12_init 742 = .ok (.aload_n 0, 1) := by decide +kernel
theorem dX12_init_743 : decode cX12_init 743 = .ok (.iconst 0, 1) := by decide +kernel
theorem dX12_init_744 : decode cX12_init 744 = .ok (.putfield 289, 3) := by decide +kernel
theorem dX12_init_747 : decode cX12_init 747 = .ok (.aload_n 0, 1) := by decide +kernel
theorem dX12_init_748 : decode cX12_init 748 = .ok (.bipush 8, 2) := by decide +kernel
theorem dX12_init_750 : decode cX12_init 750 = .ok (.newarray .int, 2) := by decide +kernel
theorem dX12_init_752 : decode cX12_init 752 = .ok (.putfield 292, 3) := by decide +kernel
theorem dX12_init_755 : decode cX12_init 755 = .ok (.aload_n 0, 1) := by decide +kernel
theorem dX12_init_756 : decode cX12_init 756 = .ok (.sipush 192, 3) := by decide +kernel
theorem dX12_init_759 : decode cX12_init 759 = .ok (.newarray .long, 2) := by decide +kernel
theorem dX12_init_761 : decode cX12_init 761 = .ok (.putfield 295, 3) := by decide +kernel
theorem dX12_init_764 : decode cX12_init 764 = .ok (.aload_n 0, 1) := by decide +kernel
theorem dX12_init_765 : decode cX12_init 765 = .ok (.bipush 40, 2) := by decide +kernel
theorem dX12_init_767 : decode cX12_init 767 = .ok (.newarray .long, 2) := by decide +kernel
theorem dX12_init_769 : decode cX12_init 769 = .ok (.putfield 298, 3) := by decide +kernel
theorem dX12_init_772 : decode cX12_init 772 = .ok (.aload_n 0, 1) := by decide +kernel
theorem dX12_init_773 : decode cX12_init 773 = .ok (.bipush 40, 2) := by decide +kernel
theorem dX12_init_775 : decode cX12_init 775 = .ok (.newarray .long, 2) := by decide +kernel
theorem dX12_init_777 : decode cX12_init 777 = .ok (.putfield 301, 3) := by decide +kernel
theorem dX12_init_780 : decode cX12_init 780 = .ok (.aload_n 0, 1) := by decide +kernel
theorem dX12_init_781 : decode cX12_init 781 = .ok (.sipush 1280, 3) := by decide +kernel
theorem dX12_init_784 : decode cX12_init 784 = .ok (.newarray .long, 2) := by decide +kernel
theorem dX12_init_786 : decode cX12_init 786 = .ok (.putfield 304, 3) := by decide +kernel
theorem dX12_init_789 : decode cX12_init 789 = .ok (.aload_n 0, 1) := by decide +kernel
theorem dX12_init_790 : decode cX12_init 790 = .ok (.bipush 52, 2) := by decide +kernel
theorem dX12_init_792 : decode cX12_init 792 = .ok (.newarray .int, 2) := by decide +kernel
theorem dX12_init_794 : decode cX12_init 794 = .ok (.putfield 307, 3) := by decide +kernel
theorem dX12_init_797 : decode cX12_init 797 = .ok (.aload_n 0, 1) := by decide +kernel
theorem dX12_init_798 : decode cX12_init 798 = .ok (.bipush 52, 2) := by decide +kernel
theorem dX12_init_800 : decode cX12_init 800 = .ok (.newarray .int, 2) := by decide +kernel
theorem dX12_init_802 : decode cX12_init 802 = .ok (.putfield 310, 3) := by decide +kernel
theorem dX12_init_805 : decode cX12_init 805 = .ok (.aload_n 0, 1) := by decide +kernel
theorem dX12_init_806 : decode cX12_init 806 = .ok (.bipush 52, 2) := by decide +kernel
theorem dX12_init_808 : decode cX12_init 808 = .ok (.newarray .int, 2) := by decide +kernel
theorem dX12_init_810 : decode cX12_init 810 = .ok (.putfield 313, 3) := by decide +kernel
theorem dX12_init_813 : decode cX12_init 813 = .ok (.aload_n 0, 1) := by decide +kernel
theorem dX12_init_814 : decode cX12_init 814 = .ok (.bipush 12, 2) := by decide +kernel
theorem dX12_init_816 : decode cX12_init 816 = .ok (.newarray .int, 2) := by decide +kernel
theorem dX12_init_818 : decode cX12_init 818 = .ok (.putfield 316, 3) := by decide +kernel
theorem dX12_init_821 : decode cX12_init 821 = .ok (.aload_n 0, 1) := by decide +kernel
theorem dX12_init_822 : decode cX12_init 822 = .ok (.lconst 0, 1) := by decide +kernel
theorem dX12_init_823 : decode cX12_init 823 = .ok (.putfield 319, 3) := by decide +kernel
theorem dX12_init_826 : decode cX12_init 826 = .ok (.aload_n 0, 1) := by decide +kernel
theorem dX12_init_827 : decode cX12_init 827 = .ok (.iconst 0, 1) := by decide +kernel
theorem dX12_init_828 : decode cX12_init 828 = .ok (.putfield 323, 3) := by decide +kernel
theorem dX12_init_831 : decode cX12_init 831 = .ok (.aload_n 0, 1) := by decide +kernel
theorem dX12_init_832 : decode cX12_init 832 = .ok (.bipush 64, 2) := by decide +kernel
theorem dX12_init_834 : decode cX12_init 834 = .ok (.newarray .long, 2) := by decide +kernel
theorem dX12_init_836 : decode cX12_init 836 = .ok (.putfield 326, 3) := by decide +kernel
theorem dX12_init_839 : decode cX12_init 839 = .ok (.aload_n 0, 1) := by decide +kernel
theorem dX12_init_840 : decode cX12_init 840 = .ok (.bipush 64, 2) := by decide +kernel
theorem dX12_init_842 : decode cX12_init 842 = .ok (.newarray .int, 2) := by decide +kernel
theorem dX12_init_844 : decode cX12_init 844 = .ok (.putfield 329, 3) := by decide +kernel
theorem dX12_init_847 : decode cX12_init 847 = .ok (.aload_n 0, 1) := by decide +kernel
theorem dX12_init_848 : decode cX12_init 848 = .ok (.ldc2_w 332, 3) := by decide +kernel
theorem dX12_init_851 : decode cX12_init 851 = .ok (.putfield 334, 3) := by decide +kernel
theorem dX12_init_854 : decode cX12_init 854 = .ok (.aload_n 0, 1) := by decide +kernel
theorem dX12_init_855 : decode cX12_init 855 = .ok (.sipush 400, 3) := by decide +kernel
theorem dX12_init_858 : decode cX12_init 858 = .ok (.newarray .long, 2) := by decide +kernel
theorem dX12_init_860 : decode cX12_init 860 = .ok (.putfield 337, 3) := by decide +kernel
theorem dX12_init_863 : decode cX12_init 863 = .ok (.aload_n 0, 1) := by decide +kernel
theorem dX12_init_864 : decode cX12_init 864 = .ok (.iconst 0, 1) := by decide +kernel
theorem dX12_init_865 : decode cX12_init 865 = .ok (.putfield 340, 3) := by decide +kernel
theorem dX12_init_868 : decode cX12_init 868 = .ok (.aload_n 0, 1) := by decide +kernel
theorem dX12_init_869 : decode cX12_init 869 = .ok (.lconst 0, 1) := by decide +kernel
theorem dX12_init_870 : decode cX12_init 870 = .ok (.putfield 343, 3) := by decide +kernel
theorem dX12_init_873 : decode cX12_init 873 = .ok (.aload_n 0, 1) := by decide +kernel
theorem dX12_init_874 : decode cX12_init 874 = .ok (.iconst 0, 1) := by decide +kernel
theorem dX12_init_875 : decode cX12_init 875 = .ok (.putfield 346, 3) := by decide +kernel
theorem dX12_init_878 : decode cX12_init 878 = .ok (.aload_n 0, 1) := by decide +kernel
theorem dX12_init_879 : decode cX12_init 879 = .ok (.iconst 0, 1) := by decide +kernel
theorem dX12_init_880 : decode cX12_init 880 = .ok (.putfield 349, 3) := by decide +kernel
theorem dX12_init_883 : decode cX12_init 883 = .ok (.aload_n 0, 1) := by decide +kernel
theorem dX12_init_884 : decode cX12_init 884 = .ok (.lconst 0, 1) := by decide +kernel
theorem dX12_init_885 : decode cX12_init 885 = .ok (.putfield 352, 3) := by decide +kernel
theorem dX12_init_888 : decode cX12_init 888 = .ok (.aload_n 0, 1) := by decide +kernel
theorem dX12_init_889 : decode cX12_init 889 = .ok (.bipush 100, 2) := by decide +kernel
theorem dX12_init_891 : decode cX12_init 891 = .ok (.newarray .byte, 2) := by decide +kernel
theorem dX12_init_893 : decode cX12_init 893 = .ok (.putfield 355, 3) := by decide +kernel
theorem dX12_init_896 : decode cX12_init 896 = .ok (.aload_n 0, 1) := by decide +kernel
theorem dX12_init_897 : decode cX12_init 897 = .ok (.iconst 0, 1) := by decide +kernel
theorem dX12_init_898 : decode cX12_init 898 = .ok (.putfield 358, 3) := by decide +kernel
theorem dX12_init_901 : decode cX12_init 901 = .ok (.aload_n 0, 1) := by decide +kernel
theorem dX12_init_902 : decode cX12_init 902 = .ok (.bipush 30, 2) := by decide +kernel
theorem dX12_init_904 : decode cX12_init 904 = .ok (.newarray .byte, 2) := by decide +kernel
theorem dX12_init_906 : decode cX12_init 906 = .ok (.putfield 361, 3) := by decide +kernel
theorem dX12_init_909 : decode cX12_init 909 = .ok (.aload_n 0, 1) := by decide +kernel
theorem dX12_init_910 : decode cX12_init 910 = .ok (.iconst 0, 1) := by decide +kernel
theorem dX12_init_911 : decode cX12_init 911 = .ok (.putfield 364, 3) := by decide +kernel
theorem dX12_init_914 : decode cX12_init 914 = .ok (.aload_n 0, 1) := by decide +kernel
theorem dX12_init_915 : decode cX12_init 915 = .ok (.iconst 4, 1) := by decide +kernel
theorem dX12_init_916 : decode cX12_init 916 = .ok (.newarray .int, 2) := by decide +kernel
theorem dX12_init_918 : decode cX12_init 918 = .ok (.putfield 367, 3) := by decide +kernel
theorem dX12_init_921 : decode cX12_init 921 = .ok (.aload_n 0, 1) := by decide +kernel
theorem dX12_init_922 : decode cX12_init 922 = .ok (.iconst 4, 1) := by decide +kernel
theorem dX12_init_923 : decode cX12_init 923 = .ok (.newarray .int, 2) := by decide +kernel
theorem dX12_init_925 : decode cX12_init 925 = .ok (.putfield 370, 3) := by decide +kernel
theorem dX12_init_928 : decode cX12_init 928 = .ok (.aload_n 0, 1) := by decide +kernel
theorem dX12_init_929 : decode cX12_init 929 = .ok (.sipush 160, 3) := by decide +kernel
theorem dX12_init_932 : decode cX12_init 932 = .ok (.newarray .long, 2) := by decide +kernel
theorem dX12_init_934 : decode cX12_init 934 = .ok (.putfield 373, 3) := by decide +kernel
theorem dX12_init_937 : decode cX12_init 937 = .ok (.aload_n 0, 1) := by decide +kernel
theorem dX12_init_938 : decode cX12_init 938 = .ok (.sipush 160, 3) := by decide +kernel
theorem dX12_init_941 : decode cX12_init 941 = .ok (.newarray .long, 2) := by decide +kernel
theorem dX12_init_943 : decode cX12_init 943 = .ok (.putfield 376, 3) := by decide +kernel
theorem dX12_init_946 : decode cX12_init 946 = .ok (.aload_n 0, 1) := by decide +kernel
theorem dX12_init_947 : decode cX12_init 947 = .ok (.sipush 5120, 3) := by decide +kernel
theorem dX12_init_950 : decode cX12_init 950 = .ok (.newarray .long, 2) := by decide +kernel
theorem dX12_init_952 : decode cX12_init 952 = .ok (.putfield 379, 3) := by decide +kernel
theorem dX12_init_955 : decode cX12_init 955 = .ok (.aload_n 0, 1) := by decide +kernel
theorem dX12_init_956 : decode cX12_init 956 = .ok (.sipush 624, 3) := by decide +kernel
theorem dX12_init_959 : decode cX12_init 959 = .ok (.newarray .int, 2) := by decide +kernel
theorem dX12_init_961 : decode cX12_init 961 = .ok (.putfield 382, 3) := by decide +kernel
theorem dX12_init_964 : decode cX12_init 964 = .ok (.aload_n 0, 1) := by decide +kernel
theorem dX12_init_965 : decode cX12_init 965 = .ok (.bipush 48, 2) := by decide +kernel
theorem dX12_init_967 : decode cX12_init 967 = .ok (.newarray .int, 2) := by decide +kernel
theorem dX12_init_969 : decode cX12_init 969 = .ok (.putfield 385, 3) := by decide +kernel
theorem dX12_init_972 : decode cX12_init 972 = .ok (.aload_n 0, 1) := by decide +kernel
theorem dX12_init_973 : decode cX12_init 973 = .ok (.iconst 4, 1) := by decide +kernel
theorem dX12_init_974 : decode cX12_init 974 = .ok (.newarray .long, 2) := by decide +kernel
theorem dX12_init_976 : decode cX12_init 976 = .ok (.putfield 388, 3) := by decide +kernel
theorem dX12_init_979 : decode cX12_init 979 = .ok (.aload_n 0, 1) := by decide +kernel
theorem dX12_init_980 : decode cX12_init 980 = .ok (.iconst 4, 1) := by decide +kernel
theorem dX12_init_981 : decode cX12_init 981 = .ok (.newarray .int, 2) := by decide +kernel
theorem dX12_init_983 : decode cX12_init 983 = .ok (.putfield 391, 3) := by decide +kernel
theorem dX12_init_986 : decode cX12_init 986 = .ok (.aload_n 0, 1) := by decide +kernel
theorem dX12_init_987 : decode cX12_init 987 = .ok (.sipush 256, 3) := by decide +kernel
theorem dX12_init_990 : decode cX12_init 990 = .ok (.newarray .long, 2) := by decide +kernel
theorem dX12_init_992 : decode cX12_init 992 = .ok (.putfield 394, 3) := by decide +kernel
theorem dX12_init_995 : decode cX12_init 995 = .ok (.aload_n 0, 1) := by decide +kernel
theorem dX12_init_996 : decode cX12_init 996 = .ok (.sipush 256, 3) := by decide +kernel
theorem dX12_init_999 : decode cX12_init 999 = .ok (.newarray .int, 2) := by decide +kernel
theorem dX12_init_1001 : decode cX12_init 1001 = .ok (.putfield 397, 3) := by decide +kernel
theorem dX12_init_1004 : decode cX12_init 1004 = .ok (.aload_n 0, 1) := by decide +kernel
theorem dX12_init_1005 : decode cX12_init 1005 = .ok (.iconst 4, 1) := by decide +kernel
theorem dX12_init_1006 : decode cX12_init 1006 = .ok (.newarray .long, 2) := by decide +kernel
theorem dX12_init_1008 : decode cX12_init 1008 = .ok (.putfield 400, 3) := by decide +kernel
theorem dX12_init_1011 : decode cX12_init 1011 = .ok (.return_, 1) := by decide +kernel
def g0X12 : Gs := (sLA (sL (sI g00 23 (-1 : Int32)) 91 (4607182418800017408 : Int64)) 7 (vp_updL (vp_updL (vp_updL (vp_updL (vp_updL (vp_updL (vp_updL (vp_updL (vp_updL (vp_updL (vp_updL (vp_updL (vp_updL (vp_updL (vp_updL (vp_updL (vp_updL (vp_updL (vp_updL (vp_updL (vp_updL (vp_updL (vp_updL (vp_updL (vp_updL (vp_updL (fun _ => 0) (0 : Int32).toNatClampNeg (1885434484 : Int64)) (1 : Int32).toNatClampNeg (1936224119 : Int64)) (2 : Int32).toNatClampNeg (6513005 : Int64)) (3 : Int32).toNatClampNeg (1650814060 : Int64)) (4 : Int32).toNatClampNeg (1952998766 : Int64)) (5 : Int32).toNatClampNeg (2003330414 : Int64)) (6 : Int32).toNatClampNeg (7302244 : Int64)) (7 : Int32).toNatClampNeg (1937007984 : Int64)) (8 : Int32).toNatClampNeg (499984329587 : Int64)) (9 : Int32).toNatClampNeg (439905906546 : Int64)) (10 : Int32).toNatClampNeg (1667590508 : Int64)) (11 : Int32).toNatClampNeg (1919512180 : Int64)) (12 : Int32).toNatClampNeg (6382195 : Int64)) (13 : Int32).toNatClampNeg (465557353332 : Int64)) (14 : Int32).toNatClampNeg (1836020596 : Int64)) (15 : Int32).toNatClampNeg (6775652 : Int64)) (16 : Int32).toNatClampNeg (1953658213 : Int64)) (17 : Int32).toNatClampNeg (439721161573 : Int64)) (18 : Int32).toNatClampNeg (500136506472 : Int64)) (19 : Int32).toNatClampNeg (1652126821 : Int64)) (20 : Int32).toNatClampNeg (495673373300 : Int64)) (21 : Int32).toNatClampNeg (1667785074 : Int64)) (22 : Int32).toNatClampNeg (6909556 : Int64)) (23 : Int32).toNatClampNeg (1819242087 : Int64)) (24 : Int32).toNatClampNeg (439905902964 : Int64)) (25 : Int32).toNatClampNeg (110429873532005 : Int64)))
theorem dfX12 : ∀ j, j < 114 → defaultValue (tyX12 j) = vp_V ((List.range 114).map (dfl kdX12)) j := by decide +kernel
set_option maxHeartbeats 4000000 in
set_option maxRecDepth 100000 in
theorem n_X12_init (l : Launch) (D : Dx) (h : Nat) (sz : Nat) : Met l yX12_init (ws_ yX12_init cX12_init 1 none) { frames := 1, cells := 77, slots := 95683, locals := 40 } (PC D [] [.ref h] [(h, .inr (12, (List.range 114).map (dfl kdX12)))] sz) (QN D (fun u : AY => True) (va_A [(h, .inr (12, (List.range 114).map (dfl kdX12)))] sz) (fun u => wX12 h u.1 u.2 g0X12) (fun u => tX12 u.2)) 77 95683 (va_A [(h, .inr (12, (List.range 114).map (dfl kdX12)))] sz) := by
  refine Met.ofW (cc := cX12_init) (maxL := 1) (ret := none) (by decide) rfl ?_
  intro p e s m args below meth c s₁ B hml hv
  obtain ⟨rfl, hsz, hP, hK, hD, hN⟩ := hv
  subst hsz
  have C : Cx p s m _ meth c cX12_init none 1 RX12 lw_all := Cx_of B hml
  have X := Hx_start hP hK hD hN
  have hin : meth.name = "<init>" := (name_of_methodNamed B.named B.method).1
  obtain ⟨hx, hb, hr, -, hown, hts, hlk⟩ := id C
  generalize va_A [(h, .inr (12, (List.range 114).map (dfl kdX12)))] s.heap.size = A at X ⊢
  have hl := lv_entry ([.ref h]) (n := 1) (Nat.le_of_ble_eq_true rfl)
  rw [lg_entry_eq]
  generalize (lg_sl ([.ref h]) ++ List.replicate (1 - (lg_sl ([.ref h])).length) Slot.unset).toArray = ls at hl ⊢
  have hl : lv_has ls 1 [(0, .ref h)] := hl
  refine lv_aload_n hx hb dX12_init_0 rfl (lv_at hl 0 rfl) ?_
  refine W.objInit hx hb hown (hts _ q6_147) (hts _ q1_31) (hts _ q1_32) rfl (by rw [hml]; exact hl.1) rfl dX12_init_1 (Nat.le_of_ble_eq_true rfl) (Nat.le_of_ble_eq_true rfl) ?_
  refine W.eq (g2 := F0 m 4 ls []) rfl ?_
  refine lv_aload_n hx hb dX12_init_4 rfl (lv_at hl 0 rfl) ?_
  refine lv_sipush (v := (3000 : Int32)) hx hb dX12_init_5 (by decide) ?_
  refine va_newa (a0 := (3000, .inl (fun _ => 0))) (N' := 3000) hx hb (hts _ q1_45) rfl X.1 X.2.1 X.2.2.1 X.2.2.2.1 X.2.2.2.2.1 (fun _ => rfl) (by decide) (by decide) (by decide) (Nat.le_of_ble_eq_true rfl) (Nat.le_of_ble_eq_true rfl) dX12_init_8 (fun q1 y1 H hK hP hD hS => ?_)
  have X : Hx D [(y1, .byte)] A s H locs [(h, .inr (12, (List.range 114).map (dfl kdX12))), (q1, .inl (y1, 3000, .inl (fun _ => 0)))] := ⟨hK, hP, hD, hS, X.2.2.2.2⟩
  refine W.widen (k := 1) (n := 3000) (Nat.le_of_ble_eq_true rfl) (Nat.le_of_ble_eq_true rfl) ?_
  refine va_putF (D := D.1) (ci := 12) (v := .ref q1) (ty := tyX12 3) (C := RX12) (T := TX12) (N := 114) hx hb hts wi_X12 tyX12 tyX12_ok nmX12 hown X.1 X.2.1 X.2.2.1 X.2.2.2.1 0 rfl rfl 3 (by decide) (hts _ q6_178) (fun _ h9 => h9) rfl hin rfl (by decide +kernel) rfl rfl (by rw [List.length_map, List.length_range]; decide) dX12_init_10 (fun H locs hP hD hS => ?_)
  obtain ⟨FF1, hFF1⟩ : ∃ f : Nat → Value, f = va_up (dfl kdX12) 3 (.ref q1) := ⟨_, rfl⟩
  have X : Hx D [(y1, .byte)] A s H locs [(h, .inr (12, (List.range 114).map FF1)), (q1, .inl (y1, 3000, .inl (fun _ => 0)))] := by subst hFF1; exact Hx_set X obj_set hP hD hS
  refine lv_aload_n hx hb dX12_init_13 rfl (lv_at hl 0 rfl) ?_
  refine lv_iconst (v := (0 : Int32)) hx hb dX12_init_14 (by decide) ?_
  refine va_put (D := D.1) (ci := 12) (v := .int (0 : Int32)) (ty := tyX12 4) (C := RX12) (T := TX12) (N := 114) hx hb hts wi_X12 tyX12 tyX12_ok nmX12 hown X.1 X.2.1 X.2.2.1 X.2.2.2.1 0 rfl rfl 4 (by decide) (hts _ q6_179) (fun _ h9 => h9) rfl (by decide +kernel) rfl rfl (by rw [List.length_map, List.length_range]; decide) dX12_init_15 (fun H locs hP hD hS => ?_)
  obtain ⟨FF2, hFF2⟩ : ∃ f : Nat → Value, f = va_up FF1 4 (.int (0 : Int32)) := ⟨_, rfl⟩
  have X : Hx D [(y1, .byte)] A s H locs [(h, .inr (12, (List.range 114).map FF2)), (q1, .inl (y1, 3000, .inl (fun _ => 0)))] := by subst hFF2; exact Hx_set X obj_set hP hD hS
  refine lv_aload_n hx hb dX12_init_18 rfl (lv_at hl 0 rfl) ?_
  refine lv_sipush (v := (3001 : Int32)) hx hb dX12_init_19 (by decide) ?_
  refine va_newa (a0 := (3001, .inl (fun _ => 0))) (N' := 3001) hx hb (hts _ q1_45) rfl X.1 X.2.1 X.2.2.1 X.2.2.2.1 X.2.2.2.2.1 (fun _ => rfl) (by decide) (by decide) (by decide) (Nat.le_of_ble_eq_true rfl) (Nat.le_of_ble_eq_true rfl) dX12_init_22 (fun q2 y2 H hK hP hD hS => ?_)
  have X : Hx D [(y1, .byte), (y2, .byte)] A s H locs [(h, .inr (12, (List.range 114).map FF2)), (q1, .inl (y1, 3000, .inl (fun _ => 0))), (q2, .inl (y2, 3001, .inl (fun _ => 0)))] := ⟨hK, hP, hD, hS, X.2.2.2.2⟩
  refine W.widen (k := 2) (n := 6001) (Nat.le_of_ble_eq_true rfl) (Nat.le_of_ble_eq_true rfl) ?_
  refine va_putF (D := D.1) (ci := 12) (v := .ref q2) (ty := tyX12 5) (C := RX12) (T := TX12) (N := 114) hx hb hts wi_X12 tyX12 tyX12_ok nmX12 hown X.1 X.2.1 X.2.2.1 X.2.2.2.1 0 rfl rfl 5 (by decide) (hts _ q6_180) (fun _ h9 => h9) rfl hin rfl (by decide +kernel) rfl rfl (by rw [List.length_map, List.length_range]; decide) dX12_init_24 (fun H locs hP hD hS => ?_)
  obtain ⟨FF3, hFF3⟩ : ∃ f : Nat → Value, f = va_up FF2 5 (.ref q2) := ⟨_, rfl⟩
  have X : Hx D [(y1, .byte), (y2, .byte)] A s H locs [(h, .inr (12, (List.range 114).map FF3)), (q1, .inl (y1, 3000, .inl (fun _ => 0))), (q2, .inl (y2, 3001, .inl (fun _ => 0)))] := by subst hFF3; exact Hx_set X obj_set hP hD hS
  refine lv_aload_n hx hb dX12_init_27 rfl (lv_at hl 0 rfl) ?_
  refine lv_iconst (v := (0 : Int32)) hx hb dX12_init_28 (by decide) ?_
  refine va_put (D := D.1) (ci := 12) (v := .int (0 : Int32)) (ty := tyX12 6) (C := RX12) (T := TX12) (N := 114) hx hb hts wi_X12 tyX12 tyX12_ok nmX12 hown X.1 X.2.1 X.2.2.1 X.2.2.2.1 0 rfl rfl 6 (by decide) (hts _ q6_181) (fun _ h9 => h9) rfl (by decide +kernel) rfl rfl (by rw [List.length_map, List.length_range]; decide) dX12_init_29 (fun H locs hP hD hS => ?_)
  obtain ⟨FF4, hFF4⟩ : ∃ f : Nat → Value, f = va_up FF3 6 (.int (0 : Int32)) := ⟨_, rfl⟩
  have X : Hx D [(y1, .byte), (y2, .byte)] A s H locs [(h, .inr (12, (List.range 114).map FF4)), (q1, .inl (y1, 3000, .inl (fun _ => 0))), (q2, .inl (y2, 3001, .inl (fun _ => 0)))] := by subst hFF4; exact Hx_set X obj_set hP hD hS
  refine lv_aload_n hx hb dX12_init_32 rfl (lv_at hl 0 rfl) ?_
  refine lv_bipush (v := (26 : Int32)) hx hb dX12_init_33 (by decide) ?_
  refine va_newa (a0 := (26, .inr (.inl (fun _ => 0)))) (N' := 26) hx hb (hts _ q1_124) rfl X.1 X.2.1 X.2.2.1 X.2.2.2.1 X.2.2.2.2.1 (fun _ => rfl) (by decide) (by decide) (by decide) (Nat.le_of_ble_eq_true rfl) (Nat.le_of_ble_eq_true rfl) dX12_init_35 (fun q3 y3 H hK hP hD hS => ?_)
  have X : Hx D [(y1, .byte), (y2, .byte), (y3, .long)] A s H locs [(h, .inr (12, (List.range 114).map FF4)), (q1, .inl (y1, 3000, .inl (fun _ => 0))), (q2, .inl (y2, 3001, .inl (fun _ => 0))), (q3, .inl (y3, 26, .inr (.inl (fun _ => 0))))] := ⟨hK, hP, hD, hS, X.2.2.2.2⟩
  refine W.widen (k := 3) (n := 6027) (Nat.le_of_ble_eq_true rfl) (Nat.le_of_ble_eq_true rfl) ?_
  refine lv_dup hx hb dX12_init_37 rfl ?_
  refine lv_iconst (v := (0 : Int32)) hx hb dX12_init_38 (by decide) ?_
  refine lv_ldc2 hx hb hown (hts _ q6_148) dX12_init_39 ?_
  refine va_last (D := D.1) (f := fun _ => 0) hx hb X.1 X.2.1 X.2.2.1 X.2.2.2.1 3 2 rfl rfl (inB_ok (by decide)) dX12_init_42 (fun H locs hP hD hS => ?_)
  have X : Hx D [(y1, .byte), (y2, .byte), (y3, .long)] A s H locs [(h, .inr (12, (List.range 114).map FF4)), (q1, .inl (y1, 3000, .inl (fun _ => 0))), (q2, .inl (y2, 3001, .inl (fun _ => 0))), (q3, .inl (y3, 26, .inr (.inl (vp_updL (fun _ => 0) (0 : Int32).toNatClampNeg (1885434484 : Int64)))))] := ⟨X.1, hP, hD, hS, X.2.2.2.2⟩
  refine lv_dup hx hb dX12_init_43 rfl ?_
  refine lv_iconst (v := (1 : Int32)) hx hb dX12_init_44 (by decide) ?_
  refine lv_ldc2 hx hb hown (hts _ q6_149) dX12_init_45 ?_
  refine va_last (D := D.1) (f := vp_updL (fun _ => 0) (0 : Int32).toNatClampNeg (1885434484 : Int64)) hx hb X.1 X.2.1 X.2.2.1 X.2.2.2.1 3 2 rfl rfl (inB_ok (by decide)) dX12_init_48 (fun H locs hP hD hS => ?_)
  have X : Hx D [(y1, .byte), (y2, .byte), (y3, .long)] A s H locs [(h, .inr (12, (List.range 114).map FF4)), (q1, .inl (y1, 3000, .inl (fun _ => 0))), (q2, .inl (y2, 3001, .inl (fun _ => 0))), (q3, .inl (y3, 26, .inr (.inl (vp_updL (vp_updL (fun _ => 0) (0 : Int32).toNatClampNeg (1885434484 : Int64)) (1 : Int32).toNatClampNeg (1936224119 : Int64)))))] := ⟨X.1, hP, hD, hS, X.2.2.2.2⟩
  refine lv_dup hx hb dX12_init_49 rfl ?_
  refine lv_iconst (v := (2 : Int32)) hx hb dX12_init_50 (by decide) ?_
  refine lv_ldc2 hx hb hown (hts _ q6_150) dX12_init_51 ?_
  refine va_last (D := D.1) (f := vp_updL (vp_updL (fun _ => 0) (0 : Int32).toNatClampNeg (1885434484 : Int64)) (1 : Int32).toNatClampNeg (1936224119 : Int64)) hx hb X.1 X.2.1 X.2.2.1 X.2.2.2.1 3 2 rfl rfl (inB_ok (by decide)) dX12_init_54 (fun H locs hP hD hS => ?_)
  have X : Hx D [(y1, .byte), (y2, .byte), (y3, .long)] A s H locs [(h, .inr (12, (List.range 114).map FF4)), (q1, .inl (y1, 3000, .inl (fun _ => 0))), (q2, .inl (y2, 3001, .inl (fun _ => 0))), (q3, .inl (y3, 26, .inr (.inl (vp_updL (vp_updL (vp_updL (fun _ => 0) (0 : Int32).toNatClampNeg (1885434484 : Int64)) (1 : Int32).toNatClampNeg (1936224119 : Int64)) (2 : Int32).toNatClampNeg (6513005 : Int64)))))] := ⟨X.1, hP, hD, hS, X.2.2.2.2⟩
  refine lv_dup hx hb dX12_init_55 rfl ?_
  refine lv_iconst (v := (3 : Int32)) hx hb dX12_init_56 (by decide) ?_
  refine lv_ldc2 hx hb hown (hts _ q6_151) dX12_init_57 ?_
  refine va_last (D := D.1) (f := vp_updL (vp_updL (vp_updL (fun _ => 0) (0 : Int32).toNatClampNeg (1885434484 : Int64)) (1 : Int32).toNatClampNeg (1936224119 : Int64)) (2 : Int32).toNatClampNeg (6513005 : Int64)) hx hb X.1 X.2.1 X.2.2.1 X.2.2.2.1 3 2 rfl rfl (inB_ok (by decide)) dX12_init_60 (fun H locs hP hD hS => ?_)
  have X : Hx D [(y1, .byte), (y2, .byte), (y3, .long)] A s H locs [(h, .inr (12, (List.range 114).map FF4)), (q1, .inl (y1, 3000, .inl (fun _ => 0))), (q2, .inl (y2, 3001, .inl (fun _ => 0))), (q3, .inl (y3, 26, .inr (.inl (vp_updL (vp_updL (vp_updL (vp_updL (fun _ => 0) (0 : Int32).toNatClampNeg (1885434484 : Int64)) (1 : Int32).toNatClampNeg (1936224119 : Int64)) (2 : Int32).toNatClampNeg (6513005 : Int64)) (3 : Int32).toNatClampNeg (1650814060 : Int64)))))] := ⟨X.1, hP, hD, hS, X.2.2.2.2⟩
  refine lv_dup hx hb dX12_init_61 rfl ?_
  refine lv_iconst (v := (4 : Int32)) hx hb dX12_init_62 (by decide) ?_
  refine lv_ldc2 hx hb hown (hts _ q6_152) dX12_init_63 ?_
  refine va_last (D := D.1) (f := vp_updL (vp_updL (vp_updL (vp_updL (fun _ => 0) (0 : Int32).toNatClampNeg (1885434484 : Int64)) (1 : Int32).toNatClampNeg (1936224119 : Int64)) (2 : Int32).toNatClampNeg (6513005 : Int64)) (3 : Int32).toNatClampNeg (1650814060 : Int64)) hx hb X.1 X.2.1 X.2.2.1 X.2.2.2.1 3 2 rfl rfl (inB_ok (by decide)) dX12_init_66 (fun H locs hP hD hS => ?_)
  have X : Hx D [(y1, .byte), (y2, .byte), (y3, .long)] A s H locs [(h, .inr (12, (List.range 114).map FF4)), (q1, .inl (y1, 3000, .inl (fun _ => 0))), (q2, .inl (y2, 3001, .inl (fun _ => 0))), (q3, .inl (y3, 26, .inr (.inl (vp_updL (vp_updL (vp_updL (vp_updL (vp_updL (fun _ => 0) (0 : Int32).toNatClampNeg (1885434484 : Int64)) (1 : Int32).toNatClampNeg (1936224119 : Int64)) (2 : Int32).toNatClampNeg (6513005 : Int64)) (3 : Int32).toNatClampNeg (1650814060 : Int64)) (4 : Int32).toNatClampNeg (1952998766 : Int64)))))] := ⟨X.1, hP, hD, hS, X.2.2.2.2⟩
  refine lv_dup hx hb dX12_init_67 rfl ?_
  refine lv_iconst (v := (5 : Int32)) hx hb dX12_init_68 (by decide) ?_
  refine lv_ldc2 hx hb hown (hts _ q6_153) dX12_init_69 ?_
  refine va_last (D := D.1) (f := vp_updL (vp_updL (vp_updL (vp_updL (vp_updL (fun _ => 0) (0 : Int32).toNatClampNeg (1885434484 : Int64)) (1 : Int32).toNatClampNeg (1936224119 : Int64)) (2 : Int32).toNatClampNeg (6513005 : Int64)) (3 : Int32).toNatClampNeg (1650814060 : Int64)) (4 : Int32).toNatClampNeg (1952998766 : Int64)) hx hb X.1 X.2.1 X.2.2.1 X.2.2.2.1 3 2 rfl rfl (inB_ok (by decide)) dX12_init_72 (fun H locs hP hD hS => ?_)
  have X : Hx D [(y1, .byte), (y2, .byte), (y3, .long)] A s H locs [(h, .inr (12, (List.range 114).map FF4)), (q1, .inl (y1, 3000, .inl (fun _ => 0))), (q2, .inl (y2, 3001, .inl (fun _ => 0))), (q3, .inl (y3, 26, .inr (.inl (vp_updL (vp_updL (vp_updL (vp_updL (vp_updL (vp_updL (fun _ => 0) (0 : Int32).toNatClampNeg (1885434484 : Int64)) (1 : Int32).toNatClampNeg (1936224119 : Int64)) (2 : Int32).toNatClampNeg (6513005 : Int64)) (3 : Int32).toNatClampNeg (1650814060 : Int64)) (4 : Int32).toNatClampNeg (1952998766 : Int64)) (5 : Int32).toNatClampNeg (2003330414 : Int64)))))] := ⟨X.1, hP, hD, hS, X.2.2.2.2⟩
  refine lv_dup hx hb dX12_init_73 rfl ?_
  refine lv_bipush (v := (6 : Int32)) hx hb dX12_init_74 (by decide) ?_
  refine lv_ldc2 hx hb hown (hts _ q6_154) dX12_init_76 ?_
  refine va_last (D := D.1) (f := vp_updL (vp_updL (vp_updL (vp_updL (vp_updL (vp_updL (fun _ => 0) (0 : Int32).toNatClampNeg (1885434484 : Int64)) (1 : Int32).toNatClampNeg (1936224119 : Int64)) (2 : Int32).toNatClampNeg (6513005 : Int64)) (3 : Int32).toNatClampNeg (1650814060 : Int64)) (4 : Int32).toNatClampNeg (1952998766 : Int64)) (5 : Int32).toNatClampNeg (2003330414 : Int64)) hx hb X.1 X.2.1 X.2.2.1 X.2.2.2.1 3 2 rfl rfl (inB_ok (by decide)) dX12_init_79 (fun H locs hP hD hS => ?_)
  have X : Hx D [(y1, .byte), (y2, .byte), (y3, .long)] A s H locs [(h, .inr (12, (List.range 114).map FF4)), (q1, .inl (y1, 3000, .inl (fun _ => 0))), (q2, .inl (y2, 3001, .inl (fun _ => 0))), (q3, .inl (y3, 26, .inr (.inl (vp_updL (vp_updL (vp_updL (vp_updL (vp_updL (vp_updL (vp_updL (fun _ => 0) (0 : Int32).toNatClampNeg (1885434484 : Int64)) (1 : Int32).toNatClampNeg (1936224119 : Int64)) (2 : Int32).toNatClampNeg (6513005 : Int64)) (3 : Int32).toNatClampNeg (1650814060 : Int64)) (4 : Int32).toNatClampNeg (1952998766 : Int64)) (5 : Int32).toNatClampNeg (2003330414 : Int64)) (6 : Int32).toNatClampNeg (7302244 : Int64)))))] := ⟨X.1, hP, hD, hS, X.2.2.2.2⟩
  refine lv_dup hx hb dX12_init_80 rfl ?_
  refine lv_bipush (v := (7 : Int32)) hx hb dX12_init_81 (by decide) ?_
  refine lv_ldc2 hx hb hown (hts _ q6_155) dX12_init_83 ?_
  refine va_last (D := D.1) (f := vp_updL (vp_updL (vp_updL (vp_updL (vp_updL (vp_updL (vp_updL (fun _ => 0) (0 : Int32).toNatClampNeg (1885434484 : Int64)) (1 : Int32).toNatClampNeg (1936224119 : Int64)) (2 : Int32).toNatClampNeg (6513005 : Int64)) (3 : Int32).toNatClampNeg (1650814060 : Int64)) (4 : Int32).toNatClampNeg (1952998766 : Int64)) (5 : Int32).toNatClampNeg (2003330414 : Int64)) (6 : Int32).toNatClampNeg (7302244 : Int64)) hx hb X.1 X.2.1 X.2.2.1 X.2.2.2.1 3 2 rfl rfl (inB_ok (by decide)) dX12_init_86 (fun H locs hP hD hS => ?_)
  have X : Hx D [(y1, .byte), (y2, .byte), (y3, .long)] A s H locs [(h, .inr (12, (List.range 114).map FF4)), (q1, .inl (y1, 3000, .inl (fun _ => 0))), (q2, .inl (y2, 3001, .inl (fun _ => 0))), (q3, .inl (y3, 26, .inr (.inl (vp_updL (vp_updL (vp_updL (vp_updL (vp_updL (vp_updL (vp_updL (vp_updL (fun _ => 0) (0 : Int32).toNatClampNeg (1885434484 : Int64)) (1 : Int32).toNatClampNeg (1936224119 : Int64)) (2 : Int32).toNatClampNeg (6513005 : Int64)) (3 : Int32).toNatClampNeg (1650814060 : Int64)) (4 : Int32).toNatClampNeg (1952998766 : Int64)) (5 : Int32).toNatClampNeg (2003330414 : Int64)) (6 : Int32).toNatClampNeg (7302244 : Int64)) (7 : Int32).toNatClampNeg (1937007984 : Int64)))))] := ⟨X.1, hP, hD, hS, X.2.2.2.2⟩
  refine lv_dup hx hb dX12_init_87 rfl ?_
  refine lv_bipush (v := (8 : Int32)) hx hb dX12_init_88 (by decide) ?_
  refine lv_ldc2 hx hb hown (hts _ q6_156) dX12_init_90 ?_
  refine va_last (D := D.1) (f := vp_updL (vp_updL (vp_updL (vp_updL (vp_updL (vp_updL (vp_updL (vp_updL (fun _ => 0) (0 : Int32).toNatClampNeg (1885434484 : Int64)) (1 : Int32).toNatClampNeg (1936224119 : Int64)) (2 : Int32).toNatClampNeg (6513005 : Int64)) (3 : Int32).toNatClampNeg (1650814060 : Int64)) (4 : Int32).toNatClampNeg (1952998766 : Int64)) (5 : Int32).toNatClampNeg (2003330414 : Int64)) (6 : Int32).toNatClampNeg (7302244 : Int64)) (7 : Int32).toNatClampNeg (1937007984 : Int64)) hx hb X.1 X.2.1 X.2.2.1 X.2.2.2.1 3 2 rfl rfl (inB_ok (by decide)) dX12_init_93 (fun H locs hP hD hS => ?_)
  have X : Hx D [(y1, .byte), (y2, .byte), (y3, .long)] A s H locs [(h, .inr (12, (List.range 114).map FF4)), (q1, .inl (y1, 3000, .inl (fun _ => 0))), (q2, .inl (y2, 3001, .inl (fun _ => 0))), (q3, .inl (y3, 26, .inr (.inl (vp_updL (vp_updL (vp_updL (vp_updL (vp_updL (vp_updL (vp_updL (vp_updL (vp_updL (fun _ => 0) (0 : Int32).toNatClampNeg (1885434484 : Int64)) (1 : Int32).toNatClampNeg (1936224119 : Int64)) (2 : Int32).toNatClampNeg (6513005 : Int64)) (3 : Int32).toNatClampNeg (1650814060 : Int64)) (4 : Int32).toNatClampNeg (1952998766 : Int64)) (5 : Int32).toNatClampNeg (2003330414 : Int64)) (6 : Int32).toNatClampNeg (7302244 : Int64)) (7 : Int32).toNatClampNeg (1937007984 : Int64)) (8 : Int32).toNatClampNeg (499984329587 : Int64)))))] := ⟨X.1, hP, hD, hS, X.2.2.2.2⟩
  refine lv_dup hx hb dX12_init_94 rfl ?_
  refine lv_bipush (v := (9 : Int32)) hx hb dX12_init_95 (by decide) ?_
  refine lv_ldc2 hx hb hown (hts _ q6_157) dX12_init_97 ?_
  refine va_last (D := D.1) (f := vp_updL (vp_updL (vp_updL (vp_updL (vp_updL (vp_updL (vp_updL (vp_updL (vp_updL (fun _ => 0) (0 : Int32).toNatClampNeg (1885434484 : Int64)) (1 : Int32).toNatClampNeg (1936224119 : Int64)) (2 : Int32).toNatClampNeg (6513005 : Int64)) (3 : Int32).toNatClampNeg (1650814060 : Int64)) (4 : Int32).toNatClampNeg (1952998766 : Int64)) (5 : Int32).toNatClampNeg (2003330414 : Int64)) (6 : Int32).toNatClampNeg (7302244 : Int64)) (7 : Int32).toNatClampNeg (1937007984 : Int64)) (8 : Int32).toNatClampNeg (499984329587 : Int64)) hx hb X.1 X.2.1 X.2.2.1 X.2.2.2.1 3 2 rfl rfl (inB_ok (by decide)) dX12_init_100 (fun H locs hP hD hS => ?_)
  have X : Hx D [(y1, .byte), (y2, .byte), (y3, .long)] A s H locs [(h, .inr (12, (List.range 114).map FF4)), (q1, .inl (y1, 3000, .inl (fun _ => 0))), (q2, .inl (y2, 3001, .inl (fun _ => 0))), (q3, .inl (y3, 26, .inr (.inl (vp_updL (vp_updL (vp_updL (vp_updL (vp_updL (vp_updL (vp_updL (vp_updL (vp_updL (vp_updL (fun _ => 0) (0 : Int32).toNatClampNeg (1885434484 : Int64)) (1 : Int32).toNatClampNeg (1936224119 : Int64)) (2 : Int32).toNatClampNeg (6513005 : Int64)) (3 : Int32).toNatClampNeg (1650814060 : Int64)) (4 : Int32).toNatClampNeg (1952998766 : Int64)) (5 : Int32).toNatClampNeg (2003330414 : Int64)) (6 : Int32).toNatClampNeg (7302244 : Int64)) (7 : Int32).toNatClampNeg (1937007984 : Int64)) (8 : Int32).toNatClampNeg (499984329587 : Int64)) (9 : Int32).toNatClampNeg (439905906546 : Int64)))))] := ⟨X.1, hP, hD, hS, X.2.2.2.2⟩
  refine lv_dup hx hb dX12_init_101 rfl ?_
  refine lv_bipush (v := (10 : Int32)) hx hb dX12_init_102 (by decide) ?_
  refine lv_ldc2 hx hb hown (hts _ q6_158) dX12_init_104 ?_
  refine va_last (D := D.1) (f := vp_updL (vp_updL (vp_updL (vp_updL (vp_updL (vp_updL (vp_updL (vp_updL (vp_updL (vp_updL (fun _ => 0) (0 : Int32).toNatClampNeg (1885434484 : Int64)) (1 : Int32).toNatClampNeg (1936224119 : Int64)) (2 : Int32).toNatClampNeg (6513005 : Int64)) (3 : Int32).toNatClampNeg (1650814060 : Int64)) (4 : Int32).toNatClampNeg (1952998766 : Int64)) (5 : Int32).toNatClampNeg (2003330414 : Int64)) (6 : Int32).toNatClampNeg (7302244 : Int64)) (7 : Int32).toNatClampNeg (1937007984 : Int64)) (8 : Int32).toNatClampNeg (499984329587 : Int64)) (9 : Int32).toNatClampNeg (439905906546 : Int64)) hx hb X.1 X.2.1 X.2.2.1 X.2.2.2.1 3 2 rfl rfl (inB_ok (by decide)) dX12_init_107 (fun H locs hP hD hS => ?_)
  have X : Hx D [(y1, .byte), (y2, .byte), (y3, .long)] A s H locs [(h, .inr (12, (List.range 114).map FF4)), (q1, .inl (y1, 3000, .inl (fun _ => 0))), (q2, .inl (y2, 3001, .inl (fun _ => 0))), (q3, .inl (y3, 26, .inr (.inl (vp_updL (vp_updL (vp_updL (vp_updL (vp_updL (vp_updL (vp_updL (vp_updL (vp_updL (vp_updL (vp_updL (fun _ => 0) (0 : Int32).toNatClampNeg (1885434484 : Int64)) (1 : Int32).toNatClampNeg (1936224119 : Int64)) (2 : Int32).toNatClampNeg (6513005 : Int64)) (3 : Int32).toNatClampNeg (1650814060 : Int64)) (4 : Int32).toNatClampNeg (1952998766 : Int64)) (5 : Int32).toNatClampNeg (2003330414 : Int64)) (6 : Int32).toNatClampNeg (7302244 : Int64)) (7 : Int32).toNatClampNeg (1937007984 : Int64)) (8 : Int32).toNatClampNeg (499984329587 : Int64)) (9 : Int32).toNatClampNeg (439905906546 : Int64)) (10 : Int32).toNatClampNeg (1667590508 : Int64)))))] := ⟨X.1, hP, hD, hS, X.2.2.2.2⟩
  refine lv_dup hx hb dX12_init_108 rfl ?_
  refine lv_bipush (v := (11 : Int32)) hx hb dX12_init_109 (by decide) ?_
  refine lv_ldc2 hx hb hown (hts _ q6_159) dX12_init_111 ?_
  refine va_last (D := D.1) (f := vp_updL (vp_updL (vp_updL (vp_updL (vp_updL (vp_updL (vp_updL (vp_updL (vp_updL (vp_updL (vp_updL (fun _ => 0) (0 : Int32).toNatClampNeg (1885434484 : Int64)) (1 : Int32).toNatClampNeg (1936224119 : Int64)) (2 : Int32).toNatClampNeg (6513005 : Int64)) (3 : Int32).toNatClampNeg (1650814060 : Int64)) (4 : Int32).toNatClampNeg (1952998766 : Int64)) (5 : Int32).toNatClampNeg (2003330414 : Int64)) (6 : Int32).toNatClampNeg (7302244 : Int64)) (7 : Int32).toNatClampNeg (1937007984 : Int64)) (8 : Int32).toNatClampNeg (499984329587 : Int64)) (9 : Int32).toNatClampNeg (439905906546 : Int64)) (10 : Int32).toNatClampNeg (1667590508 : Int64)) hx hb X.1 X.2.1 X.2.2.1 X.2.2.2.1 3 2 rfl rfl (inB_ok (by decide)) dX12_init_114 (fun H locs hP hD hS => ?_)
  have X : Hx D [(y1, .byte), (y2, .byte), (y3, .long)] A s H locs [(h, .inr (12, (List.range 114).map FF4)), (q1, .inl (y1, 3000, .inl (fun _ => 0))), (q2, .inl (y2, 3001, .inl (fun _ => 0))), (q3, .inl (y3, 26, .inr (.inl (vp_updL (vp_updL (vp_updL (vp_updL (vp_updL (vp_updL (vp_updL (vp_updL (vp_updL (vp_updL (vp_updL (vp_updL (fun _ => 0) (0 : Int32).toNatClampNeg (1885434484 : Int64)) (1 : Int32).toNatClampNeg (1936224119 : Int64)) (2 : Int32).toNatClampNeg (6513005 : Int64)) (3 : Int32).toNatClampNeg (1650814060 : Int64)) (4 : Int32).toNatClampNeg (1952998766 : Int64)) (5 : Int32).toNatClampNeg (2003330414 : Int64)) (6 : Int32).toNatClampNeg (7302244 : Int64)) (7 : Int32).toNatClampNeg (1937007984 : Int64)) (8 : Int32).toNatClampNeg (499984329587 : Int64)) (9 : Int32).toNatClampNeg (439905906546 : Int64)) (10 : Int32).toNatClampNeg (1667590508 : Int64)) (11 : Int32).toNatClampNeg (1919512180 : Int64)))))] := ⟨X.1, hP, hD, hS, X.2.2.2.2⟩
  refine lv_dup hx hb dX12_init_115 rfl ?_
  refine lv_bipush (v := (12 : Int32)) hx hb dX12_init_116 (by decide) ?_
  refine lv_ldc2 hx hb hown (hts _ q6_160) dX12_init_118 ?_
  refine va_last (D := D.1) (f := vp_updL (vp_updL (vp_updL (vp_updL (vp_updL (vp_updL (vp_updL (vp_updL (vp_updL (vp_updL (vp_updL (vp_updL (fun _ => 0) (0 : Int32).toNatClampNeg (1885434484 : Int64)) (1 : Int32).toNatClampNeg (1936224119 : Int64)) (2 : Int32).toNatClampNeg (6513005 : Int64)) (3 : Int32).toNatClampNeg (1650814060 : Int64)) (4 : Int32).toNatClampNeg (1952998766 : Int64)) (5 : Int32).toNatClampNeg (2003330414 : Int64)) (6 : Int32).toNatClampNeg (7302244 : Int64)) (7 : Int32).toNatClampNeg (1937007984 : Int64)) (8 : Int32).toNatClampNeg (499984329587 : Int64)) (9 : Int32).toNatClampNeg (439905906546 : Int64)) (10 : Int32).toNatClampNeg (1667590508 : Int64)) (11 : Int32).toNatClampNeg (1919512180 : Int64)) hx hb X.1 X.2.1 X.2.2.1 X.2.2.2.1 3 2 rfl rfl (inB_ok (by decide)) dX12_init_121 (fun H locs hP hD hS => ?_)
  have X : Hx D [(y1, .byte), (y2, .byte), (y3, .long)] A s H locs [(h, .inr (12, (List.range 114).map FF4)), (q1, .inl (y1, 3000, .inl (fun _ => 0))), (q2, .inl (y2, 3001, .inl (fun _ => 0))), (q3, .inl (y3, 26, .inr (.inl (vp_updL (vp_updL (vp_updL (vp_updL (vp_updL (vp_updL (vp_updL (vp_updL (vp_updL (vp_updL (vp_updL (vp_updL (vp_updL (fun _ => 0) (0 : Int32).toNatClampNeg (1885434484 : Int64)) (1 : Int32).toNatClampNeg (1936224119 : Int64)) (2 : Int32).toNatClampNeg (6513005 : Int64)) (3 : Int32).toNatClampNeg (1650814060 : Int64)) (4 : Int32).toNatClampNeg (1952998766 : Int64)) (5 : Int32).toNatClampNeg (2003330414 : Int64)) (6 : Int32).toNatClampNeg (7302244 : Int64)) (7 : Int32).toNatClampNeg (1937007984 : Int64)) (8 : Int32).toNatClampNeg (499984329587 : Int64)) (9 : Int32).toNatClampNeg (439905906546 : Int64)) (10 : Int32).toNatClampNeg (1667590508 : Int64)) (11 : Int32).toNatClampNeg (1919512180 : Int64)) (12 : Int32).toNatClampNeg (6382195 : Int64)))))] := ⟨X.1, hP, hD, hS, X.2.2.2.2⟩
  refine lv_dup hx hb dX12_init_122 rfl ?_
  refine lv_bipush (v := (13 : Int32)) hx hb dX12_init_123 (by decide) ?_
  refine lv_ldc2 hx hb hown (hts _ q6_161) dX12_init_125 ?_
  refine va_last (D := D.1) (f := vp_updL (vp_updL (vp_updL (vp_updL (vp_updL (vp_updL (vp_updL (vp_updL (vp_updL (vp_updL (vp_updL (vp_updL (vp_updL (fun _ => 0) (0 : Int32).toNatClampNeg (1885434484 : Int64)) (1 : Int32).toNatClampNeg (1936224119 : Int64)) (2 : Int32).toNatClampNeg (6513005 : Int64)) (3 : Int32).toNatClampNeg (1650814060 : Int64)) (4 : Int32).toNatClampNeg (1952998766 : Int64)) (5 : Int32).toNatClampNeg (2003330414 : Int64)) (6 : Int32).toNatClampNeg (7302244 : Int64)) (7 : Int32).toNatClampNeg (1937007984 : Int64)) (8 : Int32).toNatClampNeg (499984329587 : Int64)) (9 : Int32).toNatClampNeg (439905906546 : Int64)) (10 : Int32).toNatClampNeg (1667590508 : Int64)) (11 : Int32).toNatClampNeg (1919512180 : Int64)) (12 : Int32).toNatClampNeg (6382195 : Int64)) hx hb X.1 X.2.1 X.2.2.1 X.2.2.2.1 3 2 rfl rfl (inB_ok (by decide)) dX12_init_128 (fun H locs hP hD hS => ?_)
  have X : Hx D [(y1, .byte), (y2, .byte), (y3, .long)] A s H locs [(h, .inr (12, (List.range 114).map FF4)), (q1, .inl (y1, 3000, .inl (fun _ => 0))), (q2, .inl (y2, 3001, .inl (fun _ => 0))), (q3, .inl (y3, 26, .inr (.inl (vp_updL (vp_updL (vp_updL (vp_updL (vp_updL (vp_updL (vp_updL (vp_updL (vp_updL (vp_updL (vp_updL (vp_updL (vp_updL (vp_updL (fun _ => 0) (0 : Int32).toNatClampNeg (1885434484 : Int64)) (1 : Int32).toNatClampNeg (1936224119 : Int64)) (2 : Int32).toNatClampNeg (6513005 : Int64)) (3 : Int32).toNatClampNeg (1650814060 : Int64)) (4 : Int32).toNatClampNeg (1952998766 : Int64)) (5 : Int32).toNatClampNeg (2003330414 : Int64)) (6 : Int32).toNatClampNeg (7302244 : Int64)) (7 : Int32).toNatClampNeg (1937007984 : Int64)) (8 : Int32).toNatClampNeg (499984329587 : Int64)) (9 : Int32).toNatClampNeg (439905906546 : Int64)) (10 : Int32).toNatClampNeg (1667590508 : Int64)) (11 : Int32).toNatClampNeg (1919512180 : Int64)) (12 : Int32).toNatClampNeg (6382195 : Int64)) (13 : Int32).toNatClampNeg (465557353332 : Int64)))))] := ⟨X.1, hP, hD, hS, X.2.2.2.2⟩
  refine lv_dup hx hb dX12_init_129 rfl ?_
  refine lv_bipush (v := (14 : Int32)) hx hb dX12_init_130 (by decide) ?_
  refine lv_ldc2 hx hb hown (hts _ q6_162) dX12_init_132 ?_
  refine va_last (D := D.1) (f := vp_updL (vp_updL (vp_updL (vp_updL (vp_updL (vp_updL (vp_updL (vp_updL (vp_updL (vp_updL (vp_updL (vp_updL (vp_updL (vp_updL (fun _ => 0) (0 : Int32).toNatClampNeg (1885434484 : Int64)) (1 : Int32).toNatClampNeg (1936224119 : Int64)) (2 : Int32).toNatClampNeg (6513005 : Int64)) (3 : Int32).toNatClampNeg (1650814060 : Int64)) (4 : Int32).toNatClampNeg (1952998766 : Int64)) (5 : Int32).toNatClampNeg (2003330414 : Int64)) (6 : Int32).toNatClampNeg (7302244 : Int64)) (7 : Int32).toNatClampNeg (1937007984 : Int64)) (8 : Int32).toNatClampNeg (499984329587 : Int64)) (9 : Int32).toNatClampNeg (439905906546 : Int64)) (10 : Int32).toNatClampNeg (1667590508 : Int64)) (11 : Int32).toNatClampNeg (1919512180 : Int64)) (12 : Int32).toNatClampNeg (6382195 : Int64)) (13 : Int32).toNatClampNeg (465557353332 : Int64)) hx hb X.1 X.2.1 X.2.2.1 X.2.2.2.1 3 2 rfl rfl (inB_ok (by decide)) dX12_init_135 (fun H locs hP hD hS => ?_)
  have X : Hx D [(y1, .byte), (y2, .byte), (y3, .long)] A s H locs [(h, .inr (12, (List.range 114).map FF4)), (q1, .inl (y1, 3000, .inl (fun _ => 0))), (q2, .inl (y2, 3001, .inl (fun _ => 0))), (q3, .inl (y3, 26, .inr (.inl (vp_updL (vp_updL (vp_updL (vp_updL (vp_updL (vp_updL (vp_updL (vp_updL (vp_updL (vp_updL (vp_updL (vp_updL (vp_updL (vp_updL (vp_updL (fun _ => 0) (0 : Int32).toNatClampNeg (1885434484 : Int64)) (1 : Int32).toNatClampNeg (1936224119 : Int64)) (2 : Int32).toNatClampNeg (6513005 : Int64)) (3 : Int32).toNatClampNeg (1650814060 : Int64)) (4 : Int32).toNatClampNeg (1952998766 : Int64)) (5 : Int32).toNatClampNeg (2003330414 : Int64)) (6 : Int32).toNatClampNeg (7302244 : Int64)) (7 : Int32).toNatClampNeg (1937007984 : Int64)) (8 : Int32).toNatClampNeg (499984329587 : Int64)) (9 : Int32).toNatClampNeg (439905906546 : Int64)) (10 : Int32).toNatClampNeg (1667590508 : Int64)) (11 : Int32).toNatClampNeg (1919512180 : Int64)) (12 : Int32).toNatClampNeg (6382195 : Int64)) (13 : Int32).toNatClampNeg (465557353332 : Int64)) (14 : Int32).toNatClampNeg (1836020596 : Int64)))))] := ⟨X.1, hP, hD, hS, X.2.2.2.2⟩
  refine lv_dup hx hb dX12_init_136 rfl ?_
  refine lv_bipush (v := (15 : Int32)) hx hb dX12_init_137 (by decide) ?_
  refine lv_ldc2 hx hb hown (hts _ q6_163) dX12_init_139 ?_
  refine va_last (D := D.1) (f := vp_updL (vp_updL (vp_updL (vp_updL (vp_updL (vp_updL (vp_updL (vp_updL (vp_updL (vp_updL (vp_updL (vp_updL (vp_updL (vp_updL (vp_updL (fun _ => 0) (0 : Int32).toNatClampNeg (1885434484 : Int64)) (1 : Int32).toNatClampNeg (1936224119 : Int64)) (2 : Int32).toNatClampNeg (6513005 : Int64)) (3 : Int32).toNatClampNeg (1650814060 : Int64)) (4 : Int32).toNatClampNeg (1952998766 : Int64)) (5 : Int32).toNatClampNeg (2003330414 : Int64)) (6 : Int32).toNatClampNeg (7302244 : Int64)) (7 : Int32).toNatClampNeg (1937007984 : Int64)) (8 : Int32).toNatClampNeg (499984329587 : Int64)) (9 : Int32).toNatClampNeg (439905906546 : Int64)) (10 : Int32).toNatClampNeg (1667590508 : Int64)) (11 : Int32).toNatClampNeg (1919512180 : Int64)) (12 : Int32).toNatClampNeg (6382195 : Int64)) (13 : Int32).toNatClampNeg (465557353332 : Int64)) (14 : Int32).toNatClampNeg (1836020596 : Int64)) hx hb X.1 X.2.1 X.2.2.1 X.2.2.2.1 3 2 rfl rfl (inB_ok (by decide)) dX12_init_142 (fun H locs hP hD hS => ?_)
  have X : Hx D [(y1, .byte), (y2, .byte), (y3, .long)] A s H locs [(h, .inr (12, (List.range 114).map FF4)), (q1, .inl (y1, 3000, .inl (fun _ => 0))), (q2, .inl (y2, 3001, .inl (fun _ => 0))), (q3, .inl (y3, 26, .inr (.inl (vp_updL (vp_updL (vp_updL (vp_updL (vp_updL (vp_updL (vp_updL (vp_updL (vp_updL (vp_updL (vp_updL (vp_updL (vp_updL (vp_updL (vp_updL (vp_updL (fun _ => 0) (0 : Int32).toNatClampNeg (1885434484 : Int64)) (1 : Int32).toNatClampNeg (1936224119 : Int64)) (2 : Int32).toNatClampNeg (6513005 : Int64)) (3 : Int32).toNatClampNeg (1650814060 : Int64)) (4 : Int32).toNatClampNeg (1952998766 : Int64)) (5 : Int32).toNatClampNeg (2003330414 : Int64)) (6 : Int32).toNatClampNeg (7302244 : Int64)) (7 : Int32).toNatClampNeg (1937007984 : Int64)) (8 : Int32).toNatClampNeg (499984329587 : Int64)) (9 : Int32).toNatClampNeg (439905906546 : Int64)) (10 : Int32).toNatClampNeg (1667590508 : Int64)) (11 : Int32).toNatClampNeg (1919512180 : Int64)) (12 : Int32).toNatClampNeg (6382195 : Int64)) (13 : Int32).toNatClampNeg (465557353332 : Int64)) (14 : Int32).toNatClampNeg (1836020596 : Int64)) (15 : Int32).toNatClampNeg (6775652 : Int64)))))] := ⟨X.1, hP, hD, hS, X.2.2.2.2⟩
  refine lv_dup hx hb dX12_init_143 rfl ?_
  refine lv_bipush (v := (16 : Int32)) hx hb dX12_init_144 (by decide) ?_
  refine lv_ldc2 hx hb hown (hts _ q6_164) dX12_init_146 ?_
  refine va_last (D := D.1) (f := vp_updL (vp_updL (vp_updL (vp_updL (vp_updL (vp_updL (vp_updL (vp_updL (vp_updL (vp_updL (vp_updL (vp_updL (vp_updL (vp_updL (vp_updL (vp_updL (fun _ => 0) (0 : Int32).toNatClampNeg (1885434484 : Int64)) (1 : Int32).toNatClampNeg (1936224119 : Int64)) (2 : Int32).toNatClampNeg (6513005 : Int64)) (3 : Int32).toNatClampNeg (1650814060 : Int64)) (4 : Int32).toNatClampNeg (1952998766 : Int64)) (5 : Int32).toNatClampNeg (2003330414 : Int64)) (6 : Int32).toNatClampNeg (7302244 : Int64)) (7 : Int32).toNatClampNeg (1937007984 : Int64)) (8 : Int32).toNatClampNeg (499984329587 : Int64)) (9 : Int32).toNatClampNeg (439905906546 : Int64)) (10 : Int32).toNatClampNeg (1667590508 : Int64)) (11 : Int32).toNatClampNeg (1919512180 : Int64)) (12 : Int32).toNatClampNeg (6382195 : Int64)) (13 : Int32).toNatClampNeg (465557353332 : Int64)) (14 : Int32).toNatClampNeg (1836020596 : Int64)) (15 : Int32).toNatClampNeg (6775652 : Int64)) hx hb X.1 X.2.1 X.2.2.1 X.2.2.2.1 3 2 rfl rfl (inB_ok (by decide)) dX12_init_149 (fun H locs hP hD hS => ?_)
  have X : Hx D [(y1, .byte), (y2, .byte), (y3, .long)] A s H locs [(h, .inr (12, (List.range 114).map FF4)), (q1, .inl (y1, 3000, .inl (fun _ => 0))), (q2, .inl (y2, 3001, .inl (fun _ => 0))), (q3, .inl (y3, 26, .inr (.inl (vp_updL (vp_updL (vp_updL (vp_updL (vp_updL (vp_updL (vp_updL (vp_updL (vp_updL (vp_updL (vp_updL (vp_updL (vp_updL (vp_updL (vp_updL (vp_updL (vp_updL (fun _ => 0) (0 : Int32).toNatClampNeg (1885434484 : Int64)) (1 : Int32).toNatClampNeg (1936224119 : Int64)) (2 : Int32).toNatClampNeg (6513005 : Int64)) (3 : Int32).toNatClampNeg (1650814060 : Int64)) (4 : Int32).toNatClampNeg (1952998766 : Int64)) (5 : Int32).toNatClampNeg (2003330414 : Int64)) (6 : Int32).toNatClampNeg (7302244 : Int64)) (7 : Int32).toNatClampNeg (1937007984 : Int64)) (8 : Int32).toNatClampNeg (499984329587 : Int64)) (9 : Int32).toNatClampNeg (439905906546 : Int64)) (10 : Int32).toNatClampNeg (1667590508 : Int64)) (11 : Int32).toNatClampNeg (1919512180 : Int64)) (12 : Int32).toNatClampNeg (6382195 : Int64)) (13 : Int32).toNatClampNeg (465557353332 : Int64)) (14 : Int32).toNatClampNeg (1836020596 : Int64)) (15 : Int32).toNatClampNeg (6775652 : Int64)) (16 : Int32).toNatClampNeg (1953658213 : Int64)))))] := ⟨X.1, hP, hD, hS, X.2.2.2.2⟩
  refine lv_dup hx hb dX12_init_150 rfl ?_
  refine lv_bipush (v := (17 : Int32)) hx hb dX12_init_151 (by decide) ?_
  refine lv_ldc2 hx hb hown (hts _ q6_165) dX12_init_153 ?_
  refine va_last (D := D.1) (f := vp_updL (vp_updL (vp_updL (vp_updL (vp_updL (vp_updL (vp_updL (vp_updL (vp_updL (vp_updL (vp_updL (vp_updL (vp_updL (vp_updL (vp_updL (vp_updL (vp_updL (fun _ => 0) (0 : Int32).toNatClampNeg (1885434484 : Int64)) (1 : Int32).toNatClampNeg (1936224119 : Int64)) (2 : Int32).toNatClampNeg (6513005 : Int64)) (3 : Int32).toNatClampNeg (1650814060 : Int64)) (4 : Int32).toNatClampNeg (1952998766 : Int64)) (5 : Int32).toNatClampNeg (2003330414 : Int64)) (6 : Int32).toNatClampNeg (7302244 : Int64)) (7 : Int32).toNatClampNeg (1937007984 : Int64)) (8 : Int32).toNatClampNeg (499984329587 : Int64)) (9 : Int32).toNatClampNeg (439905906546 : Int64)) (10 : Int32).toNatClampNeg (1667590508 : Int64)) (11 : Int32).toNatClampNeg (1919512180 : Int64)) (12 : Int32).toNatClampNeg (6382195 : Int64)) (13 : Int32).toNatClampNeg (465557353332 : Int64)) (14 : Int32).toNatClampNeg (1836020596 : Int64)) (15 : Int32).toNatClampNeg (6775652 : Int64)) (16 : Int32).toNatClampNeg (1953658213 : Int64)) hx hb X.1 X.2.1 X.2.2.1 X.2.2.2.1 3 2 rfl rfl (inB_ok (by decide)) dX12_init_156 (fun H locs hP hD hS => ?_)
  have X : Hx D [(y1, .byte), (y2, .byte), (y3, .long)] A s H locs [(h, .inr (12, (List.range 114).map FF4)), (q1, .inl (y1, 3000, .inl (fun _ => 0))), (q2, .inl (y2, 3001, .inl (fun _ => 0))), (q3, .inl (y3, 26, .inr (.inl (vp_updL (vp_updL (vp_updL (vp_updL (vp_updL (vp_updL (vp_updL (vp_updL (vp_updL (vp_updL (vp_updL (vp_updL (vp_updL (vp_updL (vp_updL (vp_updL (vp_updL (vp_updL (fun _ => 0) (0 : Int32).toNatClampNeg (1885434484 : Int64)) (1 : Int32).toNatClampNeg (1936224119 : Int64)) (2 : Int32).toNatClampNeg (6513005 : Int64)) (3 : Int32).toNatClampNeg (1650814060 : Int64)) (4 : Int32).toNatClampNeg (1952998766 : Int64)) (5 : Int32).toNatClampNeg (2003330414 : Int64)) (6 : Int32).toNatClampNeg (7302244 : Int64)) (7 : Int32).toNatClampNeg (1937007984 : Int64)) (8 : Int32).toNatClampNeg (499984329587 : Int64)) (9 : Int32).toNatClampNeg (439905906546 : Int64)) (10 : Int32).toNatClampNeg (1667590508 : Int64)) (11 : Int32).toNatClampNeg (1919512180 : Int64)) (12 : Int32).toNatClampNeg (6382195 : Int64)) (13 : Int32).toNatClampNeg (465557353332 : Int64)) (14 : Int32).toNatClampNeg (1836020596 : Int64)) (15 : Int32).toNatClampNeg (6775652 : Int64)) (16 : Int32).toNatClampNeg (1953658213 : Int64)) (17 : Int32).toNatClampNeg (439721161573 : Int64)))))] := ⟨X.1, hP, hD, hS, X.2.2.2.2⟩
  refine lv_dup hx hb dX12_init_157 rfl ?_
  refine lv_bipush (v := (18 : Int32)) hx hb dX12_init_158 (by decide) ?_
  refine lv_ldc2 hx hb hown (hts _ q6_166) dX12_init_160 ?_
  refine va_last (D := D.1) (f := vp_updL (vp_updL (vp_updL (vp_updL (vp_updL (vp_updL (vp_updL (vp_updL (vp_updL (vp_updL (vp_updL (vp_updL (vp_updL (vp_updL (vp_updL (vp_updL (vp_updL (vp_updL (fun _ => 0) (0 : Int32).toNatClampNeg (1885434484 : Int64)) (1 : Int32).toNatClampNeg (1936224119 : Int64)) (2 : Int32).toNatClampNeg (6513005 : Int64)) (3 : Int32).toNatClampNeg (1650814060 : Int64)) (4 : Int32).toNatClampNeg (1952998766 : Int64)) (5 : Int32).toNatClampNeg (2003330414 : Int64)) (6 : Int32).toNatClampNeg (7302244 : Int64)) (7 : Int32).toNatClampNeg (1937007984 : Int64)) (8 : Int32).toNatClampNeg (499984329587 : Int64)) (9 : Int32).toNatClampNeg (439905906546 : Int64)) (10 : Int32).toNatClampNeg (1667590508 : Int64)) (11 : Int32).toNatClampNeg (1919512180 : Int64)) (12 : Int32).toNatClampNeg (6382195 : Int64)) (13 : Int32).toNatClampNeg (465557353332 : Int64)) (14 : Int32).toNatClampNeg (1836020596 : Int64)) (15 : Int32).toNatClampNeg (6775652 : Int64)) (16 : Int32).toNatClampNeg (1953658213 : Int64)) (17 : Int32).toNatClampNeg (439721161573 : Int64)) hx hb X.1 X.2.1 X.2.2.1 X.2.2.2.1 3 2 rfl rfl (inB_ok (by decide)) dX12_init_163 (fun H locs hP hD hS => ?_)
  have X : Hx D [(y1, .byte), (y2, .byte), (y3, .long)] A s H locs [(h, .inr (12, (List.range 114).map FF4)), (q1, .inl (y1, 3000, .inl (fun _ => 0))), (q2, .inl (y2, 3001, .inl (fun _ => 0))), (q3, .inl (y3, 26, .inr (.inl (vp_updL (vp_updL (vp_updL (vp_updL (vp_updL (vp_updL (vp_updL (vp_updL (vp_updL (vp_updL (vp_updL (vp_updL (vp_updL (vp_updL (vp_updL (vp_updL (vp_updL (vp_updL (vp_updL (fun _ => 0) (0 : Int32).toNatClampNeg (1885434484 : Int64)) (1 : Int32).toNatClampNeg (1936224119 : Int64)) (2 : Int32).toNatClampNeg (6513005 : Int64)) (3 : Int32).toNatClampNeg (1650814060 : Int64)) (4 : Int32).toNatClampNeg (1952998766 : Int64)) (5 : Int32).toNatClampNeg (2003330414 : Int64)) (6 : Int32).toNatClampNeg (7302244 : Int64)) (7 : Int32).toNatClampNeg (1937007984 : Int64)) (8 : Int32).toNatClampNeg (499984329587 : Int64)) (9 : Int32).toNatClampNeg (439905906546 : Int64)) (10 : Int32).toNatClampNeg (1667590508 : Int64)) (11 : Int32).toNatClampNeg (1919512180 : Int64)) (12 : Int32).toNatClampNeg (6382195 : Int64)) (13 : Int32).toNatClampNeg (465557353332 : Int64)) (14 : Int32).toNatClampNeg (1836020596 : Int64)) (15 : Int32).toNatClampNeg (6775652 : Int64)) (16 : Int32).toNatClampNeg (1953658213 : Int64)) (17 : Int32).toNatClampNeg (439721161573 : Int64)) (18 : Int32).toNatClampNeg (500136506472 : Int64)))))] := ⟨X.1, hP, hD, hS, X.2.2.2.2⟩
  refine lv_dup hx hb dX12_init_164 rfl ?_
  refine lv_bipush (v := (19 : Int32)) hx hb dX12_init_165 (by decide) ?_
  refine lv_ldc2 hx hb hown (hts _ q6_167) dX12_init_167 ?_
  refine va_last (D := D.1) (f := vp_updL (vp_updL (vp_updL (vp_updL (vp_updL (vp_updL (vp_updL (vp_updL (vp_updL (vp_updL (vp_updL (vp_updL (vp_updL (vp_updL (vp_updL (vp_updL (vp_updL (vp_updL (vp_updL (fun _ => 0) (0 : Int32).toNatClampNeg (1885434484 : Int64)) (1 : Int32).toNatClampNeg (1936224119 : Int64)) (2 : Int32).toNatClampNeg (6513005 : Int64)) (3 : Int32).toNatClampNeg (1650814060 : Int64)) (4 : Int32).toNatClampNeg (1952998766 : Int64)) (5 : Int32).toNatClampNeg (2003330414 : Int64)) (6 : Int32).toNatClampNeg (7302244 : Int64)) (7 : Int32).toNatClampNeg (1937007984 : Int64)) (8 : Int32).toNatClampNeg (499984329587 : Int64)) (9 : Int32).toNatClampNeg (439905906546 : Int64)) (10 : Int32).toNatClampNeg (1667590508 : Int64)) (11 : Int32).toNatClampNeg (1919512180 : Int64)) (12 : Int32).toNatClampNeg (6382195 : Int64)) (13 : Int32).toNatClampNeg (465557353332 : Int64)) (14 : Int32).toNatClampNeg (1836020596 : Int64)) (15 : Int32).toNatClampNeg (6775652 : Int64)) (16 : Int32).toNatClampNeg (1953658213 : Int64)) (17 : Int32).toNatClampNeg (439721161573 : Int64)) (18 : Int32).toNatClampNeg (500136506472 : Int64)) hx hb X.1 X.2.1 X.2.2.1 X.2.2.2.1 3 2 rfl rfl (inB_ok (by decide)) dX12_init_170 (fun H locs hP hD hS => ?_)
  have X : Hx D [(y1, .byte), (y2, .byte), (y3, .long)] A s H locs [(h, .inr (12, (List.range 114).map FF4)), (q1, .inl (y1, 3000, .inl (fun _ => 0))), (q2, .inl (y2, 3001, .inl (fun _ => 0))), (q3, .inl (y3, 26, .inr (.inl (vp_updL (vp_updL (vp_updL (vp_updL (vp_updL (vp_updL (vp_updL (vp_updL (vp_updL (vp_updL (vp_updL (vp_updL (vp_updL (vp_updL (vp_updL (vp_updL (vp_updL (vp_updL (vp_updL (vp_updL (fun _ => 0) (0 : Int32).toNatClampNeg (1885434484 : Int64)) (1 : Int32).toNatClampNeg (1936224119 : Int64)) (2 : Int32).toNatClampNeg (6513005 : Int64)) (3 : Int32).toNatClampNeg (1650814060 : Int64)) (4 : Int32).toNatClampNeg (1952998766 : Int64)) (5 : Int32).toNatClampNeg (2003330414 : Int64)) (6 : Int32).toNatClampNeg (7302244 : Int64)) (7 : Int32).toNatClampNeg (1937007984 : Int64)) (8 : Int32).toNatClampNeg (499984329587 : Int64)) (9 : Int32).toNatClampNeg (439905906546 : Int64)) (10 : Int32).toNatClampNeg (1667590508 : Int64)) (11 : Int32).toNatClampNeg (1919512180 : Int64)) (12 : Int32).toNatClampNeg (6382195 : Int64)) (13 : Int32).toNatClampNeg (465557353332 : Int64)) (14 : Int32).toNatClampNeg (1836020596 : Int64)) (15 : Int32).toNatClampNeg (6775652 : Int64)) (16 : Int32).toNatClampNeg (1953658213 : Int64)) (17 : Int32).toNatClampNeg (439721161573 : Int64)) (18 : Int32).toNatClampNeg (500136506472 : Int64)) (19 : Int32).toNatClampNeg (1652126821 : Int64)))))] := ⟨X.1, hP, hD, hS, X.2.2.2.2⟩
  refine lv_dup hx hb dX12_init_171 rfl ?_
  refine lv_bipush (v := (20 : Int32)) hx hb dX12_init_172 (by decide) ?_
  refine lv_ldc2 hx hb hown (hts _ q6_168) dX12_init_174 ?_
  refine va_last (D := D.1) (f := vp_updL (vp_updL (vp_updL (vp_updL (vp_updL (vp_updL (vp_updL (vp_updL (vp_updL (vp_updL (vp_updL (vp_updL (vp_updL (vp_updL (vp_updL (vp_updL (vp_updL (vp_updL (vp_updL (vp_updL (fun _ => 0) (0 : Int32).toNatClampNeg (1885434484 : Int64)) (1 : Int32).toNatClampNeg (1936224119 : Int64)) (2 : Int32).toNatClampNeg (6513005 : Int64)) (3 : Int32).toNatClampNeg (1650814060 : Int64)) (4 : Int32).toNatClampNeg (1952998766 : Int64)) (5 : Int32).toNatClampNeg (2003330414 : Int64)) (6 : Int32).toNatClampNeg (7302244 : Int64)) (7 : Int32).toNatClampNeg (1937007984 : Int64)) (8 : Int32).toNatClampNeg (499984329587 : Int64)) (9 : Int32).toNatClampNeg (439905906546 : Int64)) (10 : Int32).toNatClampNeg (1667590508 : Int64)) (11 : Int32).toNatClampNeg (1919512180 : Int64)) (12 : Int32).toNatClampNeg (6382195 : Int64)) (13 : Int32).toNatClampNeg (465557353332 : Int64)) (14 : Int32).toNatClampNeg (1836020596 : Int64)) (15 : Int32).toNatClampNeg (6775652 : Int64)) (16 : Int32).toNatClampNeg (1953658213 : Int64)) (17 : Int32).toNatClampNeg (439721161573 : Int64)) (18 : Int32).toNatClampNeg (500136506472 : Int64)) (19 : Int32).toNatClampNeg (1652126821 : Int64)) hx hb X.1 X.2.1 X.2.2.1 X.2.2.2.1 3 2 rfl rfl (inB_ok (by decide)) dX12_init_177 (fun H locs hP hD hS => ?_)
  have X : Hx D [(y1, .byte), (y2, .byte), (y3, .long)] A s H locs [(h, .inr (12, (List.range 114).map FF4)), (q1, .inl (y1, 3000, .inl (fun _ => 0))), (q2, .inl (y2, 3001, .inl (fun _ => 0))), (q3, .inl (y3, 26, .inr (.inl (vp_updL (vp_updL (vp_updL (vp_updL (vp_updL (vp_updL (vp_updL (vp_updL (vp_updL (vp_updL (vp_updL (vp_updL (vp_updL (vp_updL (vp_updL (vp_updL (vp_updL (vp_updL (vp_updL (vp_updL (vp_updL (fun _ => 0) (0 : Int32).toNatClampNeg (1885434484 : Int64)) (1 : Int32).toNatClampNeg (1936224119 : Int64)) (2 : Int32).toNatClampNeg (6513005 : Int64)) (3 : Int32).toNatClampNeg (1650814060 : Int64)) (4 : Int32).toNatClampNeg (1952998766 : Int64)) (5 : Int32).toNatClampNeg (2003330414 : Int64)) (6 : Int32).toNatClampNeg (7302244 : Int64)) (7 : Int32).toNatClampNeg (1937007984 : Int64)) (8 : Int32).toNatClampNeg (499984329587 : Int64)) (9 : Int32).toNatClampNeg (439905906546 : Int64)) (10 : Int32).toNatClampNeg (1667590508 : Int64)) (11 : Int32).toNatClampNeg (1919512180 : Int64)) (12 : Int32).toNatClampNeg (6382195 : Int64)) (13 : Int32).toNatClampNeg (465557353332 : Int64)) (14 : Int32).toNatClampNeg (1836020596 : Int64)) (15 : Int32).toNatClampNeg (6775652 : Int64)) (16 : Int32).toNatClampNeg (1953658213 : Int64)) (17 : Int32).toNatClampNeg (439721161573 : Int64)) (18 : Int32).toNatClampNeg (500136506472 : Int64)) (19 : Int32).toNatClampNeg (1652126821 : Int64)) (20 : Int32).toNatClampNeg (495673373300 : Int64)))))] := ⟨X.1, hP, hD, hS, X.2.2.2.2⟩
  refine lv_dup hx hb dX12_init_178 rfl ?_
  refine lv_bipush (v := (21 : Int32)) hx hb dX12_init_179 (by decide) ?_
  refine lv_ldc2 hx hb hown (hts _ q6_169) dX12_init_181 ?_
  refine va_last (D := D.1) (f := vp_updL (vp_updL (vp_updL (vp_updL (vp_updL (vp_updL (vp_updL (vp_updL (vp_updL (vp_updL (vp_updL (vp_updL (vp_updL (vp_updL (vp_updL (vp_updL (vp_updL (vp_updL (vp_updL (vp_updL (vp_updL (fun _ => 0) (0 : Int32).toNatClampNeg (1885434484 : Int64)) (1 : Int32).toNatClampNeg (1936224119 : Int64)) (2 : Int32).toNatClampNeg (6513005 : Int64)) (3 : Int32).toNatClampNeg (1650814060 : Int64)) (4 : Int32).toNatClampNeg (1952998766 : Int64)) (5 : Int32).toNatClampNeg (2003330414 : Int64)) (6 : Int32).toNatClampNeg (7302244 : Int64)) (7 : Int32).toNatClampNeg (1937007984 : Int64)) (8 : Int32).toNatClampNeg (499984329587 : Int64)) (9 : Int32).toNatClampNeg (439905906546 : Int64)) (10 : Int32).toNatClampNeg (1667590508 : Int64)) (11 : Int32).toNatClampNeg (1919512180 : Int64)) (12 : Int32).toNatClampNeg (6382195 : Int64)) (13 : Int32).toNatClampNeg (465557353332 : Int64)) (14 : Int32).toNatClampNeg (1836020596 : Int64)) (15 : Int32).toNatClampNeg (6775652 : Int64)) (16 : Int32).toNatClampNeg (1953658213 : Int64)) (17 : Int32).toNatClampNeg (439721161573 : Int64)) (18 : Int32).toNatClampNeg (500136506472 : Int64)) (19 : Int32).toNatClampNeg (1652126821 : Int64)) (20 : Int32).toNatClampNeg (495673373300 : Int64)) hx hb X.1 X.2.1 X.2.2.1 X.2.2.2.1 3 2 rfl rfl (inB_ok (by decide)) dX12_init_184 (fun H locs hP hD hS => ?_)
  have X : Hx D [(y1, .byte), (y2, .byte), (y3, .long)] A s H locs [(h, .inr (12, (List.range 114).map FF4)), (q1, .inl (y1, 3000, .inl (fun _ => 0))), (q2, .inl (y2, 3001, .inl (fun _ => 0))), (q3, .inl (y3, 26, .inr (.inl (vp_updL (vp_updL (vp_updL (vp_updL (vp_updL (vp_updL (vp_updL (vp_updL (vp_updL (vp_updL (vp_updL (vp_updL (vp_updL (vp_updL (vp_updL (vp_updL (vp_updL (vp_updL (vp_updL (vp_updL (vp_updL (vp_updL (fun _ => 0) (0 : Int32).toNatClampNeg (1885434484 : Int64)) (1 : Int32).toNatClampNeg (1936224119 : Int64)) (2 : Int32).toNatClampNeg (6513005 : Int64)) (3 : Int32).toNatClampNeg (1650814060 : Int64)) (4 : Int32).toNatClampNeg (1952998766 : Int64)) (5 : Int32).toNatClampNeg (2003330414 : Int64)) (6 : Int32).toNatClampNeg (7302244 : Int64)) (7 : Int32).toNatClampNeg (1937007984 : Int64)) (8 : Int32).toNatClampNeg (499984329587 : Int64)) (9 : Int32).toNatClampNeg (439905906546 : Int64)) (10 : Int32).toNatClampNeg (1667590508 : Int64)) (11 : Int32).toNatClampNeg (1919512180 : Int64)) (12 : Int32).toNatClampNeg (6382195 : Int64)) (13 : Int32).toNatClampNeg (465557353332 : Int64)) (14 : Int32).toNatClampNeg (1836020596 : Int64)) (15 : Int32).toNatClampNeg (6775652 : Int64)) (16 : Int32).toNatClampNeg (1953658213 : Int64)) (17 : Int32).toNatClampNeg (439721161573 : Int64)) (18 : Int32).toNatClampNeg (500136506472 : Int64)) (19 : Int32).toNatClampNeg (1652126821 : Int64)) (20 : Int32).toNatClampNeg (495673373300 : Int64)) (21 : Int32).toNatClampNeg (1667785074 : Int64)))))] := ⟨X.1, hP, hD, hS, X.2.2.2.2⟩
  refine lv_dup hx hb dX12_init_185 rfl ?_
  refine lv_bipush (v := (22 : Int32)) hx hb dX12_init_186 (by decide) ?_
  refine lv_ldc2 hx hb hown (hts _ q6_170) dX12_init_188 ?_
  refine va_last (D := D.1) (f := vp_updL (vp_updL (vp_updL (vp_updL (vp_updL (vp_updL (vp_updL (vp_updL (vp_updL (vp_updL (vp_updL (vp_updL (vp_updL (vp_updL (vp_updL (vp_updL (vp_updL (vp_updL (vp_updL (vp_updL (vp_updL (vp_updL (fun _ => 0) (0 : Int32).toNatClampNeg (1885434484 : Int64)) (1 : Int32).toNatClampNeg (1936224119 : Int64)) (2 : Int32).toNatClampNeg (6513005 : Int64)) (3 : Int32).toNatClampNeg (1650814060 : Int64)) (4 : Int32).toNatClampNeg (1952998766 : Int64)) (5 : Int32).toNatClampNeg (2003330414 : Int64)) (6 : Int32).toNatClampNeg (7302244 : Int64)) (7 : Int32).toNatClampNeg (1937007984 : Int64)) (8 : Int32).toNatClampNeg (499984329587 : Int64)) (9 : Int32).toNatClampNeg (439905906546 : Int64)) (10 : Int32).toNatClampNeg (1667590508 : Int64)) (11 : Int32).toNatClampNeg (1919512180 : Int64)) (12 : Int32).toNatClampNeg (6382195 : Int64)) (13 : Int32).toNatClampNeg (465557353332 : Int64)) (14 : Int32).toNatClampNeg (1836020596 : Int64)) (15 : Int32).toNatClampNeg (6775652 : Int64)) (16 : Int32).toNatClampNeg (1953658213 : Int64)) (17 : Int32).toNatClampNeg (439721161573 : Int64)) (18 : Int32).toNatClampNeg (500136506472 : Int64)) (19 : Int32).toNatClampNeg (1652126821 : Int64)) (20 : Int32).toNatClampNeg (495673373300 : Int64)) (21 : Int32).toNatClampNeg (1667785074 : Int64)) hx hb X.1 X.2.1 X.2.2.1 X.2.2.2.1 3 2 rfl rfl (inB_ok (by decide)) dX12_init_191 (fun H locs hP hD hS => ?_)
  have X : Hx D [(y1, .byte), (y2, .byte), (y3, .long)] A s H locs [(h, .inr (12, (List.range 114).map FF4)), (q1, .inl (y1, 3000, .inl (fun _ => 0))), (q2, .inl (y2, 3001, .inl (fun _ => 0))), (q3, .inl (y3, 26, .inr (.inl (vp_updL (vp_updL (vp_updL (vp_updL (vp_updL (vp_updL (vp_updL (vp_updL (vp_updL (vp_updL (vp_updL (vp_updL (vp_updL (vp_updL (vp_updL (vp_updL (vp_updL (vp_updL (vp_updL (vp_updL (vp_updL (vp_updL (vp_updL (fun _ => 0) (0 : Int32).toNatClampNeg (1885434484 : Int64)) (1 : Int32).toNatClampNeg (1936224119 : Int64)) (2 : Int32).toNatClampNeg (6513005 : Int64)) (3 : Int32).toNatClampNeg (1650814060 : Int64)) (4 : Int32).toNatClampNeg (1952998766 : Int64)) (5 : Int32).toNatClampNeg (2003330414 : Int64)) (6 : Int32).toNatClampNeg (7302244 : Int64)) (7 : Int32).toNatClampNeg (1937007984 : Int64)) (8 : Int32).toNatClampNeg (499984329587 : Int64)) (9 : Int32).toNatClampNeg (439905906546 : Int64)) (10 : Int32).toNatClampNeg (1667590508 : Int64)) (11 : Int32).toNatClampNeg (1919512180 : Int64)) (12 : Int32).toNatClampNeg (6382195 : Int64)) (13 : Int32).toNatClampNeg (465557353332 : Int64)) (14 : Int32).toNatClampNeg (1836020596 : Int64)) (15 : Int32).toNatClampNeg (6775652 : Int64)) (16 : Int32).toNatClampNeg (1953658213 : Int64)) (17 : Int32).toNatClampNeg (439721161573 : Int64)) (18 : Int32).toNatClampNeg (500136506472 : Int64)) (19 : Int32).toNatClampNeg (1652126821 : Int64)) (20 : Int32).toNatClampNeg (495673373300 : Int64)) (21 : Int32).toNatClampNeg (1667785074 : Int64)) (22 : Int32).toNatClampNeg (6909556 : Int64)))))] := ⟨X.1, hP, hD, hS, X.2.2.2.2⟩
  refine lv_dup hx hb dX12_init_192 rfl ?_
  refine lv_bipush (v := (23 : Int32)) hx hb dX12_init_193 (by decide) ?_
  refine lv_ldc2 hx hb hown (hts _ q6_171) dX12_init_195 ?_
  refine va_last (D := D.1) (f := vp_updL (vp_updL (vp_updL (vp_updL (vp_updL (vp_updL (vp_updL (vp_updL (vp_updL (vp_updL (vp_updL (vp_updL (vp_updL (vp_updL (vp_updL (vp_updL (vp_updL (vp_updL (vp_updL (vp_updL (vp_updL (vp_updL (vp_updL (fun _ => 0) (0 : Int32).toNatClampNeg (1885434484 : Int64)) (1 : Int32).toNatClampNeg (1936224119 : Int64)) (2 : Int32).toNatClampNeg (6513005 : Int64)) (3 : Int32).toNatClampNeg (1650814060 : Int64)) (4 : Int32).toNatClampNeg (1952998766 : Int64)) (5 : Int32).toNatClampNeg (2003330414 : Int64)) (6 : Int32).toNatClampNeg (7302244 : Int64)) (7 : Int32).toNatClampNeg (1937007984 : Int64)) (8 : Int32).toNatClampNeg (499984329587 : Int64)) (9 : Int32).toNatClampNeg (439905906546 : Int64)) (10 : Int32).toNatClampNeg (1667590508 : Int64)) (11 : Int32).toNatClampNeg (1919512180 : Int64)) (12 : Int32).toNatClampNeg (6382195 : Int64)) (13 : Int32).toNatClampNeg (465557353332 : Int64)) (14 : Int32).toNatClampNeg (1836020596 : Int64)) (15 : Int32).toNatClampNeg (6775652 : Int64)) (16 : Int32).toNatClampNeg (1953658213 : Int64)) (17 : Int32).toNatClampNeg (439721161573 : Int64)) (18 : Int32).toNatClampNeg (500136506472 : Int64)) (19 : Int32).toNatClampNeg (1652126821 : Int64)) (20 : Int32).toNatClampNeg (495673373300 : Int64)) (21 : Int32).toNatClampNeg (1667785074 : Int64)) (22 : Int32).toNatClampNeg (6909556 : Int64)) hx hb X.1 X.2.1 X.2.2.1 X.2.2.2.1 3 2 rfl rfl (inB_ok (by decide)) dX12_init_198 (fun H locs hP hD hS => ?_)
  have X : Hx D [(y1, .byte), (y2, .byte), (y3, .long)] A s H locs [(h, .inr (12, (List.range 114).map FF4)), (q1, .inl (y1, 3000, .inl (fun _ => 0))), (q2, .inl (y2, 3001, .inl (fun _ => 0))), (q3, .inl (y3, 26, .inr (.inl (vp_updL (vp_updL (vp_updL (vp_updL (vp_updL (vp_updL (vp_updL (vp_updL (vp_updL (vp_updL (vp_updL (vp_updL (vp_updL (vp_updL (vp_updL (vp_updL (vp_updL (vp_updL (vp_updL (vp_updL (vp_updL (vp_updL (vp_updL (vp_updL (fun _ => 0) (0 : Int32).toNatClampNeg (1885434484 : Int64)) (1 : Int32).toNatClampNeg (1936224119 : Int64)) (2 : Int32).toNatClampNeg (6513005 : Int64)) (3 : Int32).toNatClampNeg (1650814060 : Int64)) (4 : Int32).toNatClampNeg (1952998766 : Int64)) (5 : Int32).toNatClampNeg (2003330414 : Int64)) (6 : Int32).toNatClampNeg (7302244 : Int64)) (7 : Int32).toNatClampNeg (1937007984 : Int64)) (8 : Int32).toNatClampNeg (499984329587 : Int64)) (9 : Int32).toNatClampNeg (439905906546 : Int64)) (10 : Int32).toNatClampNeg (1667590508 : Int64)) (11 : Int32).toNatClampNeg (1919512180 : Int64)) (12 : Int32).toNatClampNeg (6382195 : Int64)) (13 : Int32).toNatClampNeg (465557353332 : Int64)) (14 : Int32).toNatClampNeg (1836020596 : Int64)) (15 : Int32).toNatClampNeg (6775652 : Int64)) (16 : Int32).toNatClampNeg (1953658213 : Int64)) (17 : Int32).toNatClampNeg (439721161573 : Int64)) (18 : Int32).toNatClampNeg (500136506472 : Int64)) (19 : Int32).toNatClampNeg (1652126821 : Int64)) (20 : Int32).toNatClampNeg (495673373300 : Int64)) (21 : Int32).toNatClampNeg (1667785074 : Int64)) (22 : Int32).toNatClampNeg (6909556 : Int64)) (23 : Int32).toNatClampNeg (1819242087 : Int64)))))] := ⟨X.1, hP, hD, hS, X.2.2.2.2⟩
  refine lv_dup hx hb dX12_init_199 rfl ?_
  refine lv_bipush (v := (24 : Int32)) hx hb dX12_init_200 (by decide) ?_
  refine lv_ldc2 hx hb hown (hts _ q6_172) dX12_init_202 ?_
  refine va_last (D := D.1) (f := vp_updL (vp_updL (vp_updL (vp_updL (vp_updL (vp_updL (vp_updL (vp_updL (vp_updL (vp_updL (vp_updL (vp_updL (vp_updL (vp_updL (vp_updL (vp_updL (vp_updL (vp_updL (vp_updL (vp_updL (vp_updL (vp_updL (vp_updL (vp_updL (fun _ => 0) (0 : Int32).toNatClampNeg (1885434484 : Int64)) (1 : Int32).toNatClampNeg (1936224119 : Int64)) (2 : Int32).toNatClampNeg (6513005 : Int64)) (3 : Int32).toNatClampNeg (1650814060 : Int64)) (4 : Int32).toNatClampNeg (1952998766 : Int64)) (5 : Int32).toNatClampNeg (2003330414 : Int64)) (6 : Int32).toNatClampNeg (7302244 : Int64)) (7 : Int32).toNatClampNeg (1937007984 : Int64)) (8 : Int32).toNatClampNeg (499984329587 : Int64)) (9 : Int32).toNatClampNeg (439905906546 : Int64)) (10 : Int32).toNatClampNeg (1667590508 : Int64)) (11 : Int32).toNatClampNeg (1919512180 : Int64)) (12 : Int32).toNatClampNeg (6382195 : Int64)) (13 : Int32).toNatClampNeg (465557353332 : Int64)) (14 : Int32).toNatClampNeg (1836020596 : Int64)) (15 : Int32).toNatClampNeg (6775652 : Int64)) (16 : Int32).toNatClampNeg (1953658213 : Int64)) (17 : Int32).toNatClampNeg (439721161573 : Int64)) (18 : Int32).toNatClampNeg (500136506472 : Int64)) (19 : Int32).toNatClampNeg (1652126821 : Int64)) (20 : Int32).toNatClampNeg (495673373300 : Int64)) (21 : Int32).toNatClampNeg (1667785074 : Int64)) (22 : Int32).toNatClampNeg (6909556 : Int64)) (23 : Int32).toNatClampNeg (1819242087 : Int64)) hx hb X.1 X.2.1 X.2.2.1 X.2.2.2.1 3 2 rfl rfl (inB_ok (by decide)) dX12_init_205 (fun H locs hP hD hS => ?_)
  have X : Hx D [(y1, .byte), (y2, .byte), (y3, .long)] A s H locs [(h, .inr (12, (List.range 114).map FF4)), (q1, .inl (y1, 3000, .inl (fun _ => 0))), (q2, .inl (y2, 3001, .inl (fun _ => 0))), (q3, .inl (y3, 26, .inr (.inl (vp_updL (vp_updL (vp_updL (vp_updL (vp_updL (vp_updL (vp_updL (vp_updL (vp_updL (vp_updL (vp_updL (vp_updL (vp_updL (vp_updL (vp_updL (vp_updL (vp_updL (vp_updL (vp_updL (vp_updL (vp_updL (vp_updL (vp_updL (vp_updL (vp_updL (fun _ => 0) (0 : Int32).toNatClampNeg (1885434484 : Int64)) (1 : Int32).toNatClampNeg (1936224119 : Int64)) (2 : Int32).toNatClampNeg (6513005 : Int64)) (3 : Int32).toNatClampNeg (1650814060 : Int64)) (4 : Int32).toNatClampNeg (1952998766 : Int64)) (5 : Int32).toNatClampNeg (2003330414 : Int64)) (6 : Int32).toNatClampNeg (7302244 : Int64)) (7 : Int32).toNatClampNeg (1937007984 : Int64)) (8 : Int32).toNatClampNeg (499984329587 : Int64)) (9 : Int32).toNatClampNeg (439905906546 : Int64)) (10 : Int32).toNatClampNeg (1667590508 : Int64)) (11 : Int32).toNatClampNeg (1919512180 : Int64)) (12 : Int32).toNatClampNeg (6382195 : Int64)) (13 : Int32).toNatClampNeg (465557353332 : Int64)) (14 : Int32).toNatClampNeg (1836020596 : Int64)) (15 : Int32).toNatClampNeg (6775652 : Int64)) (16 : Int32).toNatClampNeg (1953658213 : Int64)) (17 : Int32).toNatClampNeg (439721161573 : Int64)) (18 : Int32).toNatClampNeg (500136506472 : Int64)) (19 : Int32).toNatClampNeg (1652126821 : Int64)) (20 : Int32).toNatClampNeg (495673373300 : Int64)) (21 : Int32).toNatClampNeg (1667785074 : Int64)) (22 : Int32).toNatClampNeg (6909556 : Int64)) (23 : Int32).toNatClampNeg (1819242087 : Int64)) (24 : Int32).toNatClampNeg (439905902964 : Int64)))))] := ⟨X.1, hP, hD, hS, X.2.2.2.2⟩
  refine lv_dup hx hb dX12_init_206 rfl ?_
  refine lv_bipush (v := (25 : Int32)) hx hb dX12_init_207 (by decide) ?_
  refine lv_ldc2 hx hb hown (hts _ q6_173) dX12_init_209 ?_
  refine va_last (D := D.1) (f := vp_updL (vp_updL (vp_updL (vp_updL (vp_updL (vp_updL (vp_updL (vp_updL (vp_updL (vp_updL (vp_updL (vp_updL (vp_updL (vp_updL (vp_updL (vp_updL (vp_updL (vp_updL (vp_updL (vp_updL (vp_updL (vp_updL (vp_updL (vp_updL (vp_updL (fun _ => 0) (0 : Int32).toNatClampNeg (1885434484 : Int64)) (1 : Int32).toNatClampNeg (1936224119 : Int64)) (2 : Int32).toNatClampNeg (6513005 : Int64)) (3 : Int32).toNatClampNeg (1650814060 : Int64)) (4 : Int32).toNatClampNeg (1952998766 : Int64)) (5 : Int32).toNatClampNeg (2003330414 : Int64)) (6 : Int32).toNatClampNeg (7302244 : Int64)) (7 : Int32).toNatClampNeg (1937007984 : Int64)) (8 : Int32).toNatClampNeg (499984329587 : Int64)) (9 : Int32).toNatClampNeg (439905906546 : Int64)) (10 : Int32).toNatClampNeg (1667590508 : Int64)) (11 : Int32).toNatClampNeg (1919512180 : Int64)) (12 : Int32).toNatClampNeg (6382195 : Int64)) (13 : Int32).toNatClampNeg (465557353332 : Int64)) (14 : Int32).toNatClampNeg (1836020596 : Int64)) (15 : Int32).toNatClampNeg (6775652 : Int64)) (16 : Int32).toNatClampNeg (1953658213 : Int64)) (17 : Int32).toNatClampNeg (439721161573 : Int64)) (18 : Int32).toNatClampNeg (500136506472 : Int64)) (19 : Int32).toNatClampNeg (1652126821 : Int64)) (20 : Int32).toNatClampNeg (495673373300 : Int64)) (21 : Int32).toNatClampNeg (1667785074 : Int64)) (22 : Int32).toNatClampNeg (6909556 : Int64)) (23 : Int32).toNatClampNeg (1819242087 : Int64)) (24 : Int32).toNatClampNeg (439905902964 : Int64)) hx hb X.1 X.2.1 X.2.2.1 X.2.2.2.1 3 2 rfl rfl (inB_ok (by decide)) dX12_init_212 (fun H locs hP hD hS => ?_)
  have X : Hx D [(y1, .byte), (y2, .byte), (y3, .long)] A s H locs [(h, .inr (12, (List.range 114).map FF4)), (q1, .inl (y1, 3000, .inl (fun _ => 0))), (q2, .inl (y2, 3001, .inl (fun _ => 0))), (q3, .inl (y3, 26, .inr (.inl (vp_updL (vp_updL (vp_updL (vp_updL (vp_updL (vp_updL (vp_updL (vp_updL (vp_updL (vp_updL (vp_updL (vp_updL (vp_updL (vp_updL (vp_updL (vp_updL (vp_updL (vp_updL (vp_updL (vp_updL (vp_updL (vp_updL (vp_updL (vp_updL (vp_updL (vp_updL (fun _ => 0) (0 : Int32).toNatClampNeg (1885434484 : Int64)) (1 : Int32).toNatClampNeg (1936224119 : Int64)) (2 : Int32).toNatClampNeg (6513005 : Int64)) (3 : Int32).toNatClampNeg (1650814060 : Int64)) (4 : Int32).toNatClampNeg (1952998766 : Int64)) (5 : Int32).toNatClampNeg (2003330414 : Int64)) (6 : Int32).toNatClampNeg (7302244 : Int64)) (7 : Int32).toNatClampNeg (1937007984 : Int64)) (8 : Int32).toNatClampNeg (499984329587 : Int64)) (9 : Int32).toNatClampNeg (439905906546 : Int64)) (10 : Int32).toNatClampNeg (1667590508 : Int64)) (11 : Int32).toNatClampNeg (1919512180 : Int64)) (12 : Int32).toNatClampNeg (6382195 : Int64)) (13 : Int32).toNatClampNeg (465557353332 : Int64)) (14 : Int32).toNatClampNeg (1836020596 : Int64)) (15 : Int32).toNatClampNeg (6775652 : Int64)) (16 : Int32).toNatClampNeg (1953658213 : Int64)) (17 : Int32).toNatClampNeg (439721161573 : Int64)) (18 : Int32).toNatClampNeg (500136506472 : Int64)) (19 : Int32).toNatClampNeg (1652126821 : Int64)) (20 : Int32).toNatClampNeg (495673373300 : Int64)) (21 : Int32).toNatClampNeg (1667785074 : Int64)) (22 : Int32).toNatClampNeg (6909556 : Int64)) (23 : Int32).toNatClampNeg (1819242087 : Int64)) (24 : Int32).toNatClampNeg (439905902964 : Int64)) (25 : Int32).toNatClampNeg (110429873532005 : Int64)))))] := ⟨X.1, hP, hD, hS, X.2.2.2.2⟩
  refine va_putF (D := D.1) (ci := 12) (v := .ref q3) (ty := tyX12 7) (C := RX12) (T := TX12) (N := 114) hx hb hts wi_X12 tyX12 tyX12_ok nmX12 hown X.1 X.2.1 X.2.2.1 X.2.2.2.1 0 rfl rfl 7 (by decide) (hts _ q6_182) (fun _ h9 => h9) rfl hin rfl (by decide +kernel) rfl rfl (by rw [List.length_map, List.length_range]; decide) dX12_init_213 (fun H locs hP hD hS => ?_)
  obtain ⟨FF5, hFF5⟩ : ∃ f : Nat → Value, f = va_up FF4 7 (.ref q3) := ⟨_, rfl⟩
  have X : Hx D [(y1, .byte), (y2, .byte), (y3, .long)] A s H locs [(h, .inr (12, (List.range 114).map FF5)), (q1, .inl (y1, 3000, .inl (fun _ => 0))), (q2, .inl (y2, 3001, .inl (fun _ => 0))), (q3, .inl (y3, 26, .inr (.inl (vp_updL (vp_updL (vp_updL (vp_updL (vp_updL (vp_updL (vp_updL (vp_updL (vp_updL (vp_updL (vp_updL (vp_updL (vp_updL (vp_updL (vp_updL (vp_updL (vp_updL (vp_updL (vp_updL (vp_updL (vp_updL (vp_updL (vp_updL (vp_updL (vp_updL (vp_updL (fun _ => 0) (0 : Int32).toNatClampNeg (1885434484 : Int64)) (1 : Int32).toNatClampNeg (1936224119 : Int64)) (2 : Int32).toNatClampNeg (6513005 : Int64)) (3 : Int32).toNatClampNeg (1650814060 : Int64)) (4 : Int32).toNatClampNeg (1952998766 : Int64)) (5 : Int32).toNatClampNeg (2003330414 : Int64)) (6 : Int32).toNatClampNeg (7302244 : Int64)) (7 : Int32).toNatClampNeg (1937007984 : Int64)) (8 : Int32).toNatClampNeg (499984329587 : Int64)) (9 : Int32).toNatClampNeg (439905906546 : Int64)) (10 : Int32).toNatClampNeg (1667590508 : Int64)) (11 : Int32).toNatClampNeg (1919512180 : Int64)) (12 : Int32).toNatClampNeg (6382195 : Int64)) (13 : Int32).toNatClampNeg (465557353332 : Int64)) (14 : Int32).toNatClampNeg (1836020596 : Int64)) (15 : Int32).toNatClampNeg (6775652 : Int64)) (16 : Int32).toNatClampNeg (1953658213 : Int64)) (17 : Int32).toNatClampNeg (439721161573 : Int64)) (18 : Int32).toNatClampNeg (500136506472 : Int64)) (19 : Int32).toNatClampNeg (1652126821 : Int64)) (20 : Int32).toNatClampNeg (495673373300 : Int64)) (21 : Int32).toNatClampNeg (1667785074 : Int64)) (22 : Int32).toNatClampNeg (6909556 : Int64)) (23 : Int32).toNatClampNeg (1819242087 : Int64)) (24 : Int32).toNatClampNeg (439905902964 : Int64)) (25 : Int32).toNatClampNeg (110429873532005 : Int64)))))] := by subst hFF5; exact Hx_set X obj_set hP hD hS
  refine lv_aload_n hx hb dX12_init_216 rfl (lv_at hl 0 rfl) ?_
  refine lv_iconst (v := (0 : Int32)) hx hb dX12_init_217 (by decide) ?_
  refine va_put (D := D.1) (ci := 12) (v := .int (0 : Int32)) (ty := tyX12 8) (C := RX12) (T := TX12) (N := 114) hx hb hts wi_X12 tyX12 tyX12_ok nmX12 hown X.1 X.2.1 X.2.2.1 X.2.2.2.1 0 rfl rfl 8 (by decide) (hts _ q6_183) (fun _ h9 => h9) rfl (by decide +kernel) rfl rfl (by rw [List.length_map, List.length_range]; decide) dX12_init_218 (fun H locs hP hD hS => ?_)
  obtain ⟨FF6, hFF6⟩ : ∃ f : Nat → Value, f = va_up FF5 8 (.int (0 : Int32)) := ⟨_, rfl⟩
  have X : Hx D [(y1, .byte), (y2, .byte), (y3, .long)] A s H locs [(h, .inr (12, (List.range 114).map FF6)), (q1, .inl (y1, 3000, .inl (fun _ => 0))), (q2, .inl (y2, 3001, .inl (fun _ => 0))), (q3, .inl (y3, 26, .inr (.inl (vp_updL (vp_updL (vp_updL (vp_updL (vp_updL (vp_updL (vp_updL (vp_updL (vp_updL (vp_updL (vp_updL (vp_updL (vp_updL (vp_updL (vp_updL (vp_updL (vp_updL (vp_updL (vp_updL (vp_updL (vp_updL (vp_updL (vp_updL (vp_updL (vp_updL (vp_updL (fun _ => 0) (0 : Int32).toNatClampNeg (1885434484 : Int64)) (1 : Int32).toNatClampNeg (1936224119 : Int64)) (2 : Int32).toNatClampNeg (6513005 : Int64)) (3 : Int32).toNatClampNeg (1650814060 : Int64)) (4 : Int32).toNatClampNeg (1952998766 : Int64)) (5 : Int32).toNatClampNeg (2003330414 : Int64)) (6 : Int32).toNatClampNeg (7302244 : Int64)) (7 : Int32).toNatClampNeg (1937007984 : Int64)) (8 : Int32).toNatClampNeg (499984329587 : Int64)) (9 : Int32).toNatClampNeg (439905906546 : Int64)) (10 : Int32).toNatClampNeg (1667590508 : Int64)) (11 : Int32).toNatClampNeg (1919512180 : Int64)) (12 : Int32).toNatClampNeg (6382195 : Int64)) (13 : Int32).toNatClampNeg (465557353332 : Int64)) (14 : Int32).toNatClampNeg (1836020596 : Int64)) (15 : Int32).toNatClampNeg (6775652 : Int64)) (16 : Int32).toNatClampNeg (1953658213 : Int64)) (17 : Int32).toNatClampNeg (439721161573 : Int64)) (18 : Int32).toNatClampNeg (500136506472 : Int64)) (19 : Int32).toNatClampNeg (1652126821 : Int64)) (20 : Int32).toNatClampNeg (495673373300 : Int64)) (21 : Int32).toNatClampNeg (1667785074 : Int64)) (22 : Int32).toNatClampNeg (6909556 : Int64)) (23 : Int32).toNatClampNeg (1819242087 : Int64)) (24 : Int32).toNatClampNeg (439905902964 : Int64)) (25 : Int32).toNatClampNeg (110429873532005 : Int64)))))] := by subst hFF6; exact Hx_set X obj_set hP hD hS
  refine lv_aload_n hx hb dX12_init_221 rfl (lv_at hl 0 rfl) ?_
  refine lv_sipush (v := (3001 : Int32)) hx hb dX12_init_222 (by decide) ?_
  refine va_newa (a0 := (3001, .inl (fun _ => 0))) (N' := 3001) hx hb (hts _ q1_125) rfl X.1 X.2.1 X.2.2.1 X.2.2.2.1 X.2.2.2.2.1 (fun _ => rfl) (by decide) (by decide) (by decide) (Nat.le_of_ble_eq_true rfl) (Nat.le_of_ble_eq_true rfl) dX12_init_225 (fun q4 y4 H hK hP hD hS => ?_)
  obtain ⟨rr4, hrr4⟩ : ∃ r : va_W, r = [(q1, .inl (y1, 3000, .inl (fun _ => 0))), (q2, .inl (y2, 3001, .inl (fun _ => 0))), (q3, .inl (y3, 26, .inr (.inl (vp_updL (vp_updL (vp_updL (vp_updL (vp_updL (vp_updL (vp_updL (vp_updL (vp_updL (vp_updL (vp_updL (vp_updL (vp_updL (vp_updL (vp_updL (vp_updL (vp_updL (vp_updL (vp_updL (vp_updL (vp_updL (vp_updL (vp_updL (vp_updL (vp_updL (vp_updL (fun _ => 0) (0 : Int32).toNatClampNeg (1885434484 : Int64)) (1 : Int32).toNatClampNeg (1936224119 : Int64)) (2 : Int32).toNatClampNeg (6513005 : Int64)) (3 : Int32).toNatClampNeg (1650814060 : Int64)) (4 : Int32).toNatClampNeg (1952998766 : Int64)) (5 : Int32).toNatClampNeg (2003330414 : Int64)) (6 : Int32).toNatClampNeg (7302244 : Int64)) (7 : Int32).toNatClampNeg (1937007984 : Int64)) (8 : Int32).toNatClampNeg (499984329587 : Int64)) (9 : Int32).toNatClampNeg (439905906546 : Int64)) (10 : Int32).toNatClampNeg (1667590508 : Int64)) (11 : Int32).toNatClampNeg (1919512180 : Int64)) (12 : Int32).toNatClampNeg (6382195 : Int64)) (13 : Int32).toNatClampNeg (465557353332 : Int64)) (14 : Int32).toNatClampNeg (1836020596 : Int64)) (15 : Int32).toNatClampNeg (6775652 : Int64)) (16 : Int32).toNatClampNeg (1953658213 : Int64)) (17 : Int32).toNatClampNeg (439721161573 : Int64)) (18 : Int32).toNatClampNeg (500136506472 : Int64)) (19 : Int32).toNatClampNeg (1652126821 : Int64)) (20 : Int32).toNatClampNeg (495673373300 : Int64)) (21 : Int32).toNatClampNeg (1667785074 : Int64)) (22 : Int32).toNatClampNeg (6909556 : Int64)) (23 : Int32).toNatClampNeg (1819242087 : Int64)) (24 : Int32).toNatClampNeg (439905902964 : Int64)) (25 : Int32).toNatClampNeg (110429873532005 : Int64)))))] ++ [(q4, .inl (y4, 3001, .inl (fun _ => 0)))] := ⟨_, rfl⟩
  obtain ⟨TT4, hTT4⟩ : ∃ r : List (ClassId × FieldType), r = [(y1, .byte), (y2, .byte), (y3, .long)] ++ [(y4, .int)] := ⟨_, rfl⟩
  have X : Hx D TT4 A s H locs ((h, .inr (12, (List.range 114).map FF6)) :: rr4) := by subst hrr4 hTT4; exact ⟨hK, hP, hD, hS, X.2.2.2.2⟩
  refine W.widen (k := 4) (n := 9028) (Nat.le_of_ble_eq_true rfl) (Nat.le_of_ble_eq_true rfl) ?_
  refine va_putF (D := D.1) (ci := 12) (v := .ref q4) (ty := tyX12 9) (C := RX12) (T := TX12) (N := 114) hx hb hts wi_X12 tyX12 tyX12_ok nmX12 hown X.1 X.2.1 X.2.2.1 X.2.2.2.1 0 rfl rfl 9 (by decide) (hts _ q6_184) (fun _ h9 => h9) rfl hin rfl (by decide +kernel) rfl rfl (by rw [List.length_map, List.length_range]; decide) dX12_init_227 (fun H locs hP hD hS => ?_)
  obtain ⟨FF7, hFF7⟩ : ∃ f : Nat → Value, f = va_up FF6 9 (.ref q4) := ⟨_, rfl⟩
  have X : Hx D TT4 A s H locs ((h, .inr (12, (List.range 114).map FF7)) :: rr4) := by subst hFF7; exact Hx_set X obj_set hP hD hS
  refine lv_aload_n hx hb dX12_init_230 rfl (lv_at hl 0 rfl) ?_
  refine lv_sipush (v := (3001 : Int32)) hx hb dX12_init_231 (by decide) ?_
  refine va_newa (a0 := (3001, .inl (fun _ => 0))) (N' := 3001) hx hb (hts _ q1_125) rfl X.1 X.2.1 X.2.2.1 X.2.2.2.1 X.2.2.2.2.1 (fun _ => rfl) (by decide) (by decide) (by decide) (Nat.le_of_ble_eq_true rfl) (Nat.le_of_ble_eq_true rfl) dX12_init_234 (fun q5 y5 H hK hP hD hS => ?_)
  obtain ⟨rr5, hrr5⟩ : ∃ r : va_W, r = rr4 ++ [(q5, .inl (y5, 3001, .inl (fun _ => 0)))] := ⟨_, rfl⟩
  obtain ⟨TT5, hTT5⟩ : ∃ r : List (ClassId × FieldType), r = TT4 ++ [(y5, .int)] := ⟨_, rfl⟩
  have X : Hx D TT5 A s H locs ((h, .inr (12, (List.range 114).map FF7)) :: rr5) := by subst hrr5 hTT5; exact ⟨hK, hP, hD, hS, X.2.2.2.2⟩
  refine W.widen (k := 5) (n := 12029) (Nat.le_of_ble_eq_true rfl) (Nat.le_of_ble_eq_true rfl) ?_
  refine va_putF (D := D.1) (ci := 12) (v := .ref q5) (ty := tyX12 10) (C := RX12) (T := TX12) (N := 114) hx hb hts wi_X12 tyX12 tyX12_ok nmX12 hown X.1 X.2.1 X.2.2.1 X.2.2.2.1 0 rfl rfl 10 (by decide) (hts _ q6_185) (fun _ h9 => h9) rfl hin rfl (by decide +kernel) rfl rfl (by rw [List.length_map, List.length_range]; decide) dX12_init_236 (fun H locs hP hD hS => ?_)
  obtain ⟨FF8, hFF8⟩ : ∃ f : Nat → Value, f = va_up FF7 10 (.ref q5) := ⟨_, rfl⟩
  have X : Hx D TT5 A s H locs ((h, .inr (12, (List.range 114).map FF8)) :: rr5) := by subst hFF8; exact Hx_set X obj_set hP hD hS
  refine lv_aload_n hx hb dX12_init_239 rfl (lv_at hl 0 rfl) ?_
  refine lv_sipush (v := (3001 : Int32)) hx hb dX12_init_240 (by decide) ?_
  refine va_newa (a0 := (3001, .inl (fun _ => 0))) (N' := 3001) hx hb (hts _ q1_125) rfl X.1 X.2.1 X.2.2.1 X.2.2.2.1 X.2.2.2.2.1 (fun _ => rfl) (by decide) (by decide) (by decide) (Nat.le_of_ble_eq_true rfl) (Nat.le_of_ble_eq_true rfl) dX12_init_243 (fun q6 y6 H hK hP hD hS => ?_)
  obtain ⟨rr6, hrr6⟩ : ∃ r : va_W, r = rr5 ++ [(q6, .inl (y6, 3001, .inl (fun _ => 0)))] := ⟨_, rfl⟩
  obtain ⟨TT6, hTT6⟩ : ∃ r : List (ClassId × FieldType), r = TT5 ++ [(y6, .int)] := ⟨_, rfl⟩
  have X : Hx D TT6 A s H locs ((h, .inr (12, (List.range 114).map FF8)) :: rr6) := by subst hrr6 hTT6; exact ⟨hK, hP, hD, hS, X.2.2.2.2⟩
  refine W.widen (k := 6) (n := 15030) (Nat.le_of_ble_eq_true rfl) (Nat.le_of_ble_eq_true rfl) ?_
  refine va_putF (D := D.1) (ci := 12) (v := .ref q6) (ty := tyX12 11) (C := RX12) (T := TX12) (N := 114) hx hb hts wi_X12 tyX12 tyX12_ok nmX12 hown X.1 X.2.1 X.2.2.1 X.2.2.2.1 0 rfl rfl 11 (by decide) (hts _ q6_186) (fun _ h9 => h9) rfl hin rfl (by decide +kernel) rfl rfl (by rw [List.length_map, List.length_range]; decide) dX12_init_245 (fun H locs hP hD hS => ?_)
  obtain ⟨FF9, hFF9⟩ : ∃ f : Nat → Value, f = va_up FF8 11 (.ref q6) := ⟨_, rfl⟩
  have X : Hx D TT6 A s H locs ((h, .inr (12, (List.range 114).map FF9)) :: rr6) := by subst hFF9; exact Hx_set X obj_set hP hD hS
  refine lv_aload_n hx hb dX12_init_248 rfl (lv_at hl 0 rfl) ?_
  refine lv_sipush (v := (3001 : Int32)) hx hb dX12_init_249 (by decide) ?_
  refine va_newa (a0 := (3001, .inr (.inl (fun _ => 0)))) (N' := 3001) hx hb (hts _ q1_124) rfl X.1 X.2.1 X.2.2.1 X.2.2.2.1 X.2.2.2.2.1 (fun _ => rfl) (by decide) (by decide) (by decide) (Nat.le_of_ble_eq_true rfl) (Nat.le_of_ble_eq_true rfl) dX12_init_252 (fun q7 y7 H hK hP hD hS => ?_)
  obtain ⟨rr7, hrr7⟩ : ∃ r : va_W, r = rr6 ++ [(q7, .inl (y7, 3001, .inr (.inl (fun _ => 0))))] := ⟨_, rfl⟩
  obtain ⟨TT7, hTT7⟩ : ∃ r : List (ClassId × FieldType), r = TT6 ++ [(y7, .long)] := ⟨_, rfl⟩
  have X : Hx D TT7 A s H locs ((h, .inr (12, (List.range 114).map FF9)) :: rr7) := by subst hrr7 hTT7; exact ⟨hK, hP, hD, hS, X.2.2.2.2⟩
  refine W.widen (k := 7) (n := 18031) (Nat.le_of_ble_eq_true rfl) (Nat.le_of_ble_eq_true rfl) ?_
  refine va_putF (D := D.1) (ci := 12) (v := .ref q7) (ty := tyX12 12) (C := RX12) (T := TX12) (N := 114) hx hb hts wi_X12 tyX12 tyX12_ok nmX12 hown X.1 X.2.1 X.2.2.1 X.2.2.2.1 0 rfl rfl 12 (by decide) (hts _ q6_187) (fun _ h9 => h9) rfl hin rfl (by decide +kernel) rfl rfl (by rw [List.length_map, List.length_range]; decide) dX12_init_254 (fun H locs hP hD hS => ?_)
  obtain ⟨FF10, hFF10⟩ : ∃ f : Nat → Value, f = va_up FF9 12 (.ref q7) := ⟨_, rfl⟩
  have X : Hx D TT7 A s H locs ((h, .inr (12, (List.range 114).map FF10)) :: rr7) := by subst hFF10; exact Hx_set X obj_set hP hD hS
  refine lv_aload_n hx hb dX12_init_257 rfl (lv_at hl 0 rfl) ?_
  refine lv_sipush (v := (3001 : Int32)) hx hb dX12_init_258 (by decide) ?_
  refine va_newa (a0 := (3001, .inl (fun _ => 0))) (N' := 3001) hx hb (hts _ q1_125) rfl X.1 X.2.1 X.2.2.1 X.2.2.2.1 X.2.2.2.2.1 (fun _ => rfl) (by decide) (by decide) (by decide) (Nat.le_of_ble_eq_true rfl) (Nat.le_of_ble_eq_true rfl) dX12_init_261 (fun q8 y8 H hK hP hD hS => ?_)
  obtain ⟨rr8, hrr8⟩ : ∃ r : va_W, r = rr7 ++ [(q8, .inl (y8, 3001, .inl (fun _ => 0)))] := ⟨_, rfl⟩
  obtain ⟨TT8, hTT8⟩ : ∃ r : List (ClassId × FieldType), r = TT7 ++ [(y8, .int)] := ⟨_, rfl⟩
  have X : Hx D TT8 A s H locs ((h, .inr (12, (List.range 114).map FF10)) :: rr8) := by subst hrr8 hTT8; exact ⟨hK, hP, hD, hS, X.2.2.2.2⟩
  refine W.widen (k := 8) (n := 21032) (Nat.le_of_ble_eq_true rfl) (Nat.le_of_ble_eq_true rfl) ?_
  refine va_putF (D := D.1) (ci := 12) (v := .ref q8) (ty := tyX12 13) (C := RX12) (T := TX12) (N := 114) hx hb hts wi_X12 tyX12 tyX12_ok nmX12 hown X.1 X.2.1 X.2.2.1 X.2.2.2.1 0 rfl rfl 13 (by decide) (hts _ q6_188) (fun _ h9 => h9) rfl hin rfl (by decide +kernel) rfl rfl (by rw [List.length_map, List.length_range]; decide) dX12_init_263 (fun H locs hP hD hS => ?_)
  obtain ⟨FF11, hFF11⟩ : ∃ f : Nat → Value, f = va_up FF10 13 (.ref q8) := ⟨_, rfl⟩
  have X : Hx D TT8 A s H locs ((h, .inr (12, (List.range 114).map FF11)) :: rr8) := by subst hFF11; exact Hx_set X obj_set hP hD hS
  refine lv_aload_n hx hb dX12_init_266 rfl (lv_at hl 0 rfl) ?_
  refine lv_sipush (v := (8000 : Int32)) hx hb dX12_init_267 (by decide) ?_
  refine va_newa (a0 := (8000, .inl (fun _ => 0))) (N' := 8000) hx hb (hts _ q1_125) rfl X.1 X.2.1 X.2.2.1 X.2.2.2.1 X.2.2.2.2.1 (fun _ => rfl) (by decide) (by decide) (by decide) (Nat.le_of_ble_eq_true rfl) (Nat.le_of_ble_eq_true rfl) dX12_init_270 (fun q9 y9 H hK hP hD hS => ?_)
  obtain ⟨rr9, hrr9⟩ : ∃ r : va_W, r = rr8 ++ [(q9, .inl (y9, 8000, .inl (fun _ => 0)))] := ⟨_, rfl⟩
  obtain ⟨TT9, hTT9⟩ : ∃ r : List (ClassId × FieldType), r = TT8 ++ [(y9, .int)] := ⟨_, rfl⟩
  have X : Hx D TT9 A s H locs ((h, .inr (12, (List.range 114).map FF11)) :: rr9) := by subst hrr9 hTT9; exact ⟨hK, hP, hD, hS, X.2.2.2.2⟩
  refine W.widen (k := 9) (n := 29032) (Nat.le_of_ble_eq_true rfl) (Nat.le_of_ble_eq_true rfl) ?_
  refine va_putF (D := D.1) (ci := 12) (v := .ref q9) (ty := tyX12 14) (C := RX12) (T := TX12) (N := 114) hx hb hts wi_X12 tyX12 tyX12_ok nmX12 hown X.1 X.2.1 X.2.2.1 X.2.2.2.1 0 rfl rfl 14 (by decide) (hts _ q6_189) (fun _ h9 => h9) rfl hin rfl (by decide +kernel) rfl rfl (by rw [List.length_map, List.length_range]; decide) dX12_init_272 (fun H locs hP hD hS => ?_)
  obtain ⟨FF12, hFF12⟩ : ∃ f : Nat → Value, f = va_up FF11 14 (.ref q9) := ⟨_, rfl⟩
  have X : Hx D TT9 A s H locs ((h, .inr (12, (List.range 114).map FF12)) :: rr9) := by subst hFF12; exact Hx_set X obj_set hP hD hS
  refine lv_aload_n hx hb dX12_init_275 rfl (lv_at hl 0 rfl) ?_
  refine lv_sipush (v := (8000 : Int32)) hx hb dX12_init_276 (by decide) ?_
  refine va_newa (a0 := (8000, .inl (fun _ => 0))) (N' := 8000) hx hb (hts _ q1_125) rfl X.1 X.2.1 X.2.2.1 X.2.2.2.1 X.2.2.2.2.1 (fun _ => rfl) (by decide) (by decide) (by decide) (Nat.le_of_ble_eq_true rfl) (Nat.le_of_ble_eq_true rfl) dX12_init_279 (fun q10 y10 H hK hP hD hS => ?_)
  obtain ⟨rr10, hrr10⟩ : ∃ r : va_W, r = rr9 ++ [(q10, .inl (y10, 8000, .inl (fun _ => 0)))] := ⟨_, rfl⟩
  obtain ⟨TT10, hTT10⟩ : ∃ r : List (ClassId × FieldType), r = TT9 ++ [(y10, .int)] := ⟨_, rfl⟩
  have X : Hx D TT10 A s H locs ((h, .inr (12, (List.range 114).map FF12)) :: rr10) := by subst hrr10 hTT10; exact ⟨hK, hP, hD, hS, X.2.2.2.2⟩
  refine W.widen (k := 10) (n := 37032) (Nat.le_of_ble_eq_true rfl) (Nat.le_of_ble_eq_true rfl) ?_
  refine va_putF (D := D.1) (ci := 12) (v := .ref q10) (ty := tyX12 15) (C := RX12) (T := TX12) (N := 114) hx hb hts wi_X12 tyX12 tyX12_ok nmX12 hown X.1 X.2.1 X.2.2.1 X.2.2.2.1 0 rfl rfl 15 (by decide) (hts _ q6_190) (fun _ h9 => h9) rfl hin rfl (by decide +kernel) rfl rfl (by rw [List.length_map, List.length_range]; decide) dX12_init_281 (fun H locs hP hD hS => ?_)
  obtain ⟨FF13, hFF13⟩ : ∃ f : Nat → Value, f = va_up FF12 15 (.ref q10) := ⟨_, rfl⟩
  have X : Hx D TT10 A s H locs ((h, .inr (12, (List.range 114).map FF13)) :: rr10) := by subst hFF13; exact Hx_set X obj_set hP hD hS
  refine lv_aload_n hx hb dX12_init_284 rfl (lv_at hl 0 rfl) ?_
  refine lv_sipush (v := (8000 : Int32)) hx hb dX12_init_285 (by decide) ?_
  refine va_newa (a0 := (8000, .inl (fun _ => 0))) (N' := 8000) hx hb (hts _ q1_125) rfl X.1 X.2.1 X.2.2.1 X.2.2.2.1 X.2.2.2.2.1 (fun _ => rfl) (by decide) (by decide) (by decide) (Nat.le_of_ble_eq_true rfl) (Nat.le_of_ble_eq_true rfl) dX12_init_288 (fun q11 y11 H hK hP hD hS => ?_)
  obtain ⟨rr11, hrr11⟩ : ∃ r : va_W, r = rr10 ++ [(q11, .inl (y11, 8000, .inl (fun _ => 0)))] := ⟨_, rfl⟩
  obtain ⟨TT11, hTT11⟩ : ∃ r : List (ClassId × FieldType), r = TT10 ++ [(y11, .int)] := ⟨_, rfl⟩
  have X : Hx D TT11 A s H locs ((h, .inr (12, (List.range 114).map FF13)) :: rr11) := by subst hrr11 hTT11; exact ⟨hK, hP, hD, hS, X.2.2.2.2⟩
  refine W.widen (k := 11) (n := 45032) (Nat.le_of_ble_eq_true rfl) (Nat.le_of_ble_eq_true rfl) ?_
  refine va_putF (D := D.1) (ci := 12) (v := .ref q11) (ty := tyX12 16) (C := RX12) (T := TX12) (N := 114) hx hb hts wi_X12 tyX12 tyX12_ok nmX12 hown X.1 X.2.1 X.2.2.1 X.2.2.2.1 0 rfl rfl 16 (by decide) (hts _ q6_191) (fun _ h9 => h9) rfl hin rfl (by decide +kernel) rfl rfl (by rw [List.length_map, List.length_range]; decide) dX12_init_290 (fun H locs hP hD hS => ?_)
  obtain ⟨FF14, hFF14⟩ : ∃ f : Nat → Value, f = va_up FF13 16 (.ref q11) := ⟨_, rfl⟩
  have X : Hx D TT11 A s H locs ((h, .inr (12, (List.range 114).map FF14)) :: rr11) := by subst hFF14; exact Hx_set X obj_set hP hD hS
  refine lv_aload_n hx hb dX12_init_293 rfl (lv_at hl 0 rfl) ?_
  refine lv_sipush (v := (8000 : Int32)) hx hb dX12_init_294 (by decide) ?_
  refine va_newa (a0 := (8000, .inl (fun _ => 0))) (N' := 8000) hx hb (hts _ q1_125) rfl X.1 X.2.1 X.2.2.1 X.2.2.2.1 X.2.2.2.2.1 (fun _ => rfl) (by decide) (by decide) (by decide) (Nat.le_of_ble_eq_true rfl) (Nat.le_of_ble_eq_true rfl) dX12_init_297 (fun q12 y12 H hK hP hD hS => ?_)
  obtain ⟨rr12, hrr12⟩ : ∃ r : va_W, r = rr11 ++ [(q12, .inl (y12, 8000, .inl (fun _ => 0)))] := ⟨_, rfl⟩
  obtain ⟨TT12, hTT12⟩ : ∃ r : List (ClassId × FieldType), r = TT11 ++ [(y12, .int)] := ⟨_, rfl⟩
  have X : Hx D TT12 A s H locs ((h, .inr (12, (List.range 114).map FF14)) :: rr12) := by subst hrr12 hTT12; exact ⟨hK, hP, hD, hS, X.2.2.2.2⟩
  refine W.widen (k := 12) (n := 53032) (Nat.le_of_ble_eq_true rfl) (Nat.le_of_ble_eq_true rfl) ?_
  refine va_putF (D := D.1) (ci := 12) (v := .ref q12) (ty := tyX12 17) (C := RX12) (T := TX12) (N := 114) hx hb hts wi_X12 tyX12 tyX12_ok nmX12 hown X.1 X.2.1 X.2.2.1 X.2.2.2.1 0 rfl rfl 17 (by decide) (hts _ q6_192) (fun _ h9 => h9) rfl hin rfl (by decide +kernel) rfl rfl (by rw [List.length_map, List.length_range]; decide) dX12_init_299 (fun H locs hP hD hS => ?_)
  obtain ⟨FF15, hFF15⟩ : ∃ f : Nat → Value, f = va_up FF14 17 (.ref q12) := ⟨_, rfl⟩
  have X : Hx D TT12 A s H locs ((h, .inr (12, (List.range 114).map FF15)) :: rr12) := by subst hFF15; exact Hx_set X obj_set hP hD hS
  refine lv_aload_n hx hb dX12_init_302 rfl (lv_at hl 0 rfl) ?_
  refine lv_sipush (v := (8000 : Int32)) hx hb dX12_init_303 (by decide) ?_
  refine va_newa (a0 := (8000, .inr (.inl (fun _ => 0)))) (N' := 8000) hx hb (hts _ q1_124) rfl X.1 X.2.1 X.2.2.1 X.2.2.2.1 X.2.2.2.2.1 (fun _ => rfl) (by decide) (by decide) (by decide) (Nat.le_of_ble_eq_true rfl) (Nat.le_of_ble_eq_true rfl) dX12_init_306 (fun q13 y13 H hK hP hD hS => ?_)
  obtain ⟨rr13, hrr13⟩ : ∃ r : va_W, r = rr12 ++ [(q13, .inl (y13, 8000, .inr (.inl (fun _ => 0))))] := ⟨_, rfl⟩
  obtain ⟨TT13, hTT13⟩ : ∃ r : List (ClassId × FieldType), r = TT12 ++ [(y13, .long)] := ⟨_, rfl⟩
  have X : Hx D TT13 A s H locs ((h, .inr (12, (List.range 114).map FF15)) :: rr13) := by subst hrr13 hTT13; exact ⟨hK, hP, hD, hS, X.2.2.2.2⟩
  refine W.widen (k := 13) (n := 61032) (Nat.le_of_ble_eq_true rfl) (Nat.le_of_ble_eq_true rfl) ?_
  refine va_putF (D := D.1) (ci := 12) (v := .ref q13) (ty := tyX12 18) (C := RX12) (T := TX12) (N := 114) hx hb hts wi_X12 tyX12 tyX12_ok nmX12 hown X.1 X.2.1 X.2.2.1 X.2.2.2.1 0 rfl rfl 18 (by decide) (hts _ q6_193) (fun _ h9 => h9) rfl hin rfl (by decide +kernel) rfl rfl (by rw [List.length_map, List.length_range]; decide) dX12_init_308 (fun H locs hP hD hS => ?_)
  obtain ⟨FF16, hFF16⟩ : ∃ f : Nat → Value, f = va_up FF15 18 (.ref q13) := ⟨_, rfl⟩
  have X : Hx D TT13 A s H locs ((h, .inr (12, (List.range 114).map FF16)) :: rr13) := by subst hFF16; exact Hx_set X obj_set hP hD hS
  refine lv_aload_n hx hb dX12_init_311 rfl (lv_at hl 0 rfl) ?_
  refine lv_iconst (v := (0 : Int32)) hx hb dX12_init_312 (by decide) ?_
  refine va_put (D := D.1) (ci := 12) (v := .int (0 : Int32)) (ty := tyX12 19) (C := RX12) (T := TX12) (N := 114) hx hb hts wi_X12 tyX12 tyX12_ok nmX12 hown X.1 X.2.1 X.2.2.1 X.2.2.2.1 0 rfl rfl 19 (by decide) (hts _ q6_194) (fun _ h9 => h9) rfl (by decide +kernel) rfl rfl (by rw [List.length_map, List.length_range]; decide) dX12_init_313 (fun H locs hP hD hS => ?_)
  obtain ⟨FF17, hFF17⟩ : ∃ f : Nat → Value, f = va_up FF16 19 (.int (0 : Int32)) := ⟨_, rfl⟩
  have X : Hx D TT13 A s H locs ((h, .inr (12, (List.range 114).map FF17)) :: rr13) := by subst hFF17; exact Hx_set X obj_set hP hD hS
  refine lv_aload_n hx hb dX12_init_316 rfl (lv_at hl 0 rfl) ?_
  refine lv_iconst (v := (0 : Int32)) hx hb dX12_init_317 (by decide) ?_
  refine va_put (D := D.1) (ci := 12) (v := .int (0 : Int32)) (ty := tyX12 20) (C := RX12) (T := TX12) (N := 114) hx hb hts wi_X12 tyX12 tyX12_ok nmX12 hown X.1 X.2.1 X.2.2.1 X.2.2.2.1 0 rfl rfl 20 (by decide) (hts _ q6_195) (fun _ h9 => h9) rfl (by decide +kernel) rfl rfl (by rw [List.length_map, List.length_range]; decide) dX12_init_318 (fun H locs hP hD hS => ?_)
  obtain ⟨FF18, hFF18⟩ : ∃ f : Nat → Value, f = va_up FF17 20 (.int (0 : Int32)) := ⟨_, rfl⟩
  have X : Hx D TT13 A s H locs ((h, .inr (12, (List.range 114).map FF18)) :: rr13) := by subst hFF18; exact Hx_set X obj_set hP hD hS
  refine lv_aload_n hx hb dX12_init_321 rfl (lv_at hl 0 rfl) ?_
  refine lv_iconst (v := (0 : Int32)) hx hb dX12_init_322 (by decide) ?_
  refine va_put (D := D.1) (ci := 12) (v := .int (0 : Int32)) (ty := tyX12 21) (C := RX12) (T := TX12) (N := 114) hx hb hts wi_X12 tyX12 tyX12_ok nmX12 hown X.1 X.2.1 X.2.2.1 X.2.2.2.1 0 rfl rfl 21 (by decide) (hts _ q6_196) (fun _ h9 => h9) rfl (by decide +kernel) rfl rfl (by rw [List.length_map, List.length_range]; decide) dX12_init_323 (fun H locs hP hD hS => ?_)
  obtain ⟨FF19, hFF19⟩ : ∃ f : Nat → Value, f = va_up FF18 21 (.int (0 : Int32)) := ⟨_, rfl⟩
  have X : Hx D TT13 A s H locs ((h, .inr (12, (List.range 114).map FF19)) :: rr13) := by subst hFF19; exact Hx_set X obj_set hP hD hS
  refine lv_aload_n hx hb dX12_init_326 rfl (lv_at hl 0 rfl) ?_
  refine lv_iconst (v := (0 : Int32)) hx hb dX12_init_327 (by decide) ?_
  refine va_put (D := D.1) (ci := 12) (v := .int (0 : Int32)) (ty := tyX12 22) (C := RX12) (T := TX12) (N := 114) hx hb hts wi_X12 tyX12 tyX12_ok nmX12 hown X.1 X.2.1 X.2.2.1 X.2.2.2.1 0 rfl rfl 22 (by decide) (hts _ q6_197) (fun _ h9 => h9) rfl (by decide +kernel) rfl rfl (by rw [List.length_map, List.length_range]; decide) dX12_init_328 (fun H locs hP hD hS => ?_)
  obtain ⟨FF20, hFF20⟩ : ∃ f : Nat → Value, f = va_up FF19 22 (.int (0 : Int32)) := ⟨_, rfl⟩
  have X : Hx D TT13 A s H locs ((h, .inr (12, (List.range 114).map FF20)) :: rr13) := by subst hFF20; exact Hx_set X obj_set hP hD hS
  refine lv_aload_n hx hb dX12_init_331 rfl (lv_at hl 0 rfl) ?_
  refine lv_iconst (v := (-1 : Int32)) hx hb dX12_init_332 (by decide) ?_
  refine va_put (D := D.1) (ci := 12) (v := .int (-1 : Int32)) (ty := tyX12 23) (C := RX12) (T := TX12) (N := 114) hx hb hts wi_X12 tyX12 tyX12_ok nmX12 hown X.1 X.2.1 X.2.2.1 X.2.2.2.1 0 rfl rfl 23 (by decide) (hts _ q6_198) (fun _ h9 => h9) rfl (by decide +kernel) rfl rfl (by rw [List.length_map, List.length_range]; decide) dX12_init_333 (fun H locs hP hD hS => ?_)
  obtain ⟨FF21, hFF21⟩ : ∃ f : Nat → Value, f = va_up FF20 23 (.int (-1 : Int32)) := ⟨_, rfl⟩
  have X : Hx D TT13 A s H locs ((h, .inr (12, (List.range 114).map FF21)) :: rr13) := by subst hFF21; exact Hx_set X obj_set hP hD hS
  refine lv_aload_n hx hb dX12_init_336 rfl (lv_at hl 0 rfl) ?_
  refine lv_iconst (v := (0 : Int32)) hx hb dX12_init_337 (by decide) ?_
  refine va_put (D := D.1) (ci := 12) (v := .int (0 : Int32)) (ty := tyX12 24) (C := RX12) (T := TX12) (N := 114) hx hb hts wi_X12 tyX12 tyX12_ok nmX12 hown X.1 X.2.1 X.2.2.1 X.2.2.2.1 0 rfl rfl 24 (by decide) (hts _ q6_199) (fun _ h9 => h9) rfl (by decide +kernel) rfl rfl (by rw [List.length_map, List.length_range]; decide) dX12_init_338 (fun H locs hP hD hS => ?_)
  obtain ⟨FF22, hFF22⟩ : ∃ f : Nat → Value, f = va_up FF21 24 (.int (0 : Int32)) := ⟨_, rfl⟩
  have X : Hx D TT13 A s H locs ((h, .inr (12, (List.range 114).map FF22)) :: rr13) := by subst hFF22; exact Hx_set X obj_set hP hD hS
  refine lv_aload_n hx hb dX12_init_341 rfl (lv_at hl 0 rfl) ?_
  refine lv_iconst (v := (0 : Int32)) hx hb dX12_init_342 (by decide) ?_
  refine va_put (D := D.1) (ci := 12) (v := .int (0 : Int32)) (ty := tyX12 25) (C := RX12) (T := TX12) (N := 114) hx hb hts wi_X12 tyX12 tyX12_ok nmX12 hown X.1 X.2.1 X.2.2.1 X.2.2.2.1 0 rfl rfl 25 (by decide) (hts _ q6_200) (fun _ h9 => h9) rfl (by decide +kernel) rfl rfl (by rw [List.length_map, List.length_range]; decide) dX12_init_343 (fun H locs hP hD hS => ?_)
  obtain ⟨FF23, hFF23⟩ : ∃ f : Nat → Value, f = va_up FF22 25 (.int (0 : Int32)) := ⟨_, rfl⟩
  have X : Hx D TT13 A s H locs ((h, .inr (12, (List.range 114).map FF23)) :: rr13) := by subst hFF23; exact Hx_set X obj_set hP hD hS
  refine lv_aload_n hx hb dX12_init_346 rfl (lv_at hl 0 rfl) ?_
  refine lv_iconst (v := (0 : Int32)) hx hb dX12_init_347 (by decide) ?_
  refine va_put (D := D.1) (ci := 12) (v := .int (0 : Int32)) (ty := tyX12 26) (C := RX12) (T := TX12) (N := 114) hx hb hts wi_X12 tyX12 tyX12_ok nmX12 hown X.1 X.2.1 X.2.2.1 X.2.2.2.1 0 rfl rfl 26 (by decide) (hts _ q6_201) (fun _ h9 => h9) rfl (by decide +kernel) rfl rfl (by rw [List.length_map, List.length_range]; decide) dX12_init_348 (fun H locs hP hD hS => ?_)
  obtain ⟨FF24, hFF24⟩ : ∃ f : Nat → Value, f = va_up FF23 26 (.int (0 : Int32)) := ⟨_, rfl⟩
  have X : Hx D TT13 A s H locs ((h, .inr (12, (List.range 114).map FF24)) :: rr13) := by subst hFF24; exact Hx_set X obj_set hP hD hS
  refine lv_aload_n hx hb dX12_init_351 rfl (lv_at hl 0 rfl) ?_
  refine lv_iconst (v := (0 : Int32)) hx hb dX12_init_352 (by decide) ?_
  refine va_put (D := D.1) (ci := 12) (v := .int (0 : Int32)) (ty := tyX12 27) (C := RX12) (T := TX12) (N := 114) hx hb hts wi_X12 tyX12 tyX12_ok nmX12 hown X.1 X.2.1 X.2.2.1 X.2.2.2.1 0 rfl rfl 27 (by decide) (hts _ q6_202) (fun _ h9 => h9) rfl (by decide +kernel) rfl rfl (by rw [List.length_map, List.length_range]; decide) dX12_init_353 (fun H locs hP hD hS => ?_)
  obtain ⟨FF25, hFF25⟩ : ∃ f : Nat → Value, f = va_up FF24 27 (.int (0 : Int32)) := ⟨_, rfl⟩
  have X : Hx D TT13 A s H locs ((h, .inr (12, (List.range 114).map FF25)) :: rr13) := by subst hFF25; exact Hx_set X obj_set hP hD hS
  refine lv_aload_n hx hb dX12_init_356 rfl (lv_at hl 0 rfl) ?_
  refine lv_sipush (v := (3001 : Int32)) hx hb dX12_init_357 (by decide) ?_
  refine va_newa (a0 := (3001, .inl (fun _ => 0))) (N' := 3001) hx hb (hts _ q1_125) rfl X.1 X.2.1 X.2.2.1 X.2.2.2.1 X.2.2.2.2.1 (fun _ => rfl) (by decide) (by decide) (by decide) (Nat.le_of_ble_eq_true rfl) (Nat.le_of_ble_eq_true rfl) dX12_init_360 (fun q14 y14 H hK hP hD hS => ?_)
  obtain ⟨rr14, hrr14⟩ : ∃ r : va_W, r = rr13 ++ [(q14, .inl (y14, 3001, .inl (fun _ => 0)))] := ⟨_, rfl⟩
  obtain ⟨TT14, hTT14⟩ : ∃ r : List (ClassId × FieldType), r = TT13 ++ [(y14, .int)] := ⟨_, rfl⟩
  have X : Hx D TT14 A s H locs ((h, .inr (12, (List.range 114).map FF25)) :: rr14) := by subst hrr14 hTT14; exact ⟨hK, hP, hD, hS, X.2.2.2.2⟩
  refine W.widen (k := 14) (n := 64033) (Nat.le_of_ble_eq_true rfl) (Nat.le_of_ble_eq_true rfl) ?_
  refine va_putF (D := D.1) (ci := 12) (v := .ref q14) (ty := tyX12 28) (C := RX12) (T := TX12) (N := 114) hx hb hts wi_X12 tyX12 tyX12_ok nmX12 hown X.1 X.2.1 X.2.2.1 X.2.2.2.1 0 rfl rfl 28 (by decide) (hts _ q6_203) (fun _ h9 => h9) rfl hin rfl (by decide +kernel) rfl rfl (by rw [List.length_map, List.length_range]; decide) dX12_init_362 (fun H locs hP hD hS => ?_)
  obtain ⟨FF26, hFF26⟩ : ∃ f : Nat → Value, f = va_up FF25 28 (.ref q14) := ⟨_, rfl⟩
  have X : Hx D TT14 A s H locs ((h, .inr (12, (List.range 114).map FF26)) :: rr14) := by subst hFF26; exact Hx_set X obj_set hP hD hS
  refine lv_aload_n hx hb dX12_init_365 rfl (lv_at hl 0 rfl) ?_
  refine lv_sipush (v := (3001 : Int32)) hx hb dX12_init_366 (by decide) ?_
  refine va_newa (a0 := (3001, .inl (fun _ => 0))) (N' := 3001) hx hb (hts _ q1_125) rfl X.1 X.2.1 X.2.2.1 X.2.2.2.1 X.2.2.2.2.1 (fun _ => rfl) (by decide) (by decide) (by decide) (Nat.le_of_ble_eq_true rfl) (Nat.le_of_ble_eq_true rfl) dX12_init_369 (fun q15 y15 H hK hP hD hS => ?_)
  obtain ⟨rr15, hrr15⟩ : ∃ r : va_W, r = rr14 ++ [(q15, .inl (y15, 3001, .inl (fun _ => 0)))] := ⟨_, rfl⟩
  obtain ⟨TT15, hTT15⟩ : ∃ r : List (ClassId × FieldType), r = TT14 ++ [(y15, .int)] := ⟨_, rfl⟩
  have X : Hx D TT15 A s H locs ((h, .inr (12, (List.range 114).map FF26)) :: rr15) := by subst hrr15 hTT15; exact ⟨hK, hP, hD, hS, X.2.2.2.2⟩
  refine W.widen (k := 15) (n := 67034) (Nat.le_of_ble_eq_true rfl) (Nat.le_of_ble_eq_true rfl) ?_
  refine va_putF (D := D.1) (ci := 12) (v := .ref q15) (ty := tyX12 29) (C := RX12) (T := TX12) (N := 114) hx hb hts wi_X12 tyX12 tyX12_ok nmX12 hown X.1 X.2.1 X.2.2.1 X.2.2.2.1 0 rfl rfl 29 (by decide) (hts _ q6_204) (fun _ h9 => h9) rfl hin rfl (by decide +kernel) rfl rfl (by rw [List.length_map, List.length_range]; decide) dX12_init_371 (fun H locs hP hD hS => ?_)
  obtain ⟨FF27, hFF27⟩ : ∃ f : Nat → Value, f = va_up FF26 29 (.ref q15) := ⟨_, rfl⟩
  have X : Hx D TT15 A s H locs ((h, .inr (12, (List.range 114).map FF27)) :: rr15) := by subst hFF27; exact Hx_set X obj_set hP hD hS
  refine lv_aload_n hx hb dX12_init_374 rfl (lv_at hl 0 rfl) ?_
  refine lv_sipush (v := (3001 : Int32)) hx hb dX12_init_375 (by decide) ?_
  refine va_newa (a0 := (3001, .inl (fun _ => 0))) (N' := 3001) hx hb (hts _ q1_125) rfl X.1 X.2.1 X.2.2.1 X.2.2.2.1 X.2.2.2.2.1 (fun _ => rfl) (by decide) (by decide) (by decide) (Nat.le_of_ble_eq_true rfl) (Nat.le_of_ble_eq_true rfl) dX12_init_378 (fun q16 y16 H hK hP hD hS => ?_)
  obtain ⟨rr16, hrr16⟩ : ∃ r : va_W, r = rr15 ++ [(q16, .inl (y16, 3001, .inl (fun _ => 0)))] := ⟨_, rfl⟩
  obtain ⟨TT16, hTT16⟩ : ∃ r : List (ClassId × FieldType), r = TT15 ++ [(y16, .int)] := ⟨_, rfl⟩
  have X : Hx D TT16 A s H locs ((h, .inr (12, (List.range 114).map FF27)) :: rr16) := by subst hrr16 hTT16; exact ⟨hK, hP, hD, hS, X.2.2.2.2⟩
  refine W.widen (k := 16) (n := 70035) (Nat.le_of_ble_eq_true rfl) (Nat.le_of_ble_eq_true rfl) ?_
  refine va_putF (D := D.1) (ci := 12) (v := .ref q16) (ty := tyX12 30) (C := RX12) (T := TX12) (N := 114) hx hb hts wi_X12 tyX12 tyX12_ok nmX12 hown X.1 X.2.1 X.2.2.1 X.2.2.2.1 0 rfl rfl 30 (by decide) (hts _ q6_205) (fun _ h9 => h9) rfl hin rfl (by decide +kernel) rfl rfl (by rw [List.length_map, List.length_range]; decide) dX12_init_380 (fun H locs hP hD hS => ?_)
  obtain ⟨FF28, hFF28⟩ : ∃ f : Nat → Value, f = va_up FF27 30 (.ref q16) := ⟨_, rfl⟩
  have X : Hx D TT16 A s H locs ((h, .inr (12, (List.range 114).map FF28)) :: rr16) := by subst hFF28; exact Hx_set X obj_set hP hD hS
  refine lv_aload_n hx hb dX12_init_383 rfl (lv_at hl 0 rfl) ?_
  refine lv_sipush (v := (3001 : Int32)) hx hb dX12_init_384 (by decide) ?_
  refine va_newa (a0 := (3001, .inl (fun _ => 0))) (N' := 3001) hx hb (hts _ q1_125) rfl X.1 X.2.1 X.2.2.1 X.2.2.2.1 X.2.2.2.2.1 (fun _ => rfl) (by decide) (by decide) (by decide) (Nat.le_of_ble_eq_true rfl) (Nat.le_of_ble_eq_true rfl) dX12_init_387 (fun q17 y17 H hK hP hD hS => ?_)
  obtain ⟨rr17, hrr17⟩ : ∃ r : va_W, r = rr16 ++ [(q17, .inl (y17, 3001, .inl (fun _ => 0)))] := ⟨_, rfl⟩
  obtain ⟨TT17, hTT17⟩ : ∃ r : List (ClassId × FieldType), r = TT16 ++ [(y17, .int)] := ⟨_, rfl⟩
  have X : Hx D TT17 A s H locs ((h, .inr (12, (List.range 114).map FF28)) :: rr17) := by subst hrr17 hTT17; exact ⟨hK, hP, hD, hS, X.2.2.2.2⟩
  refine W.widen (k := 17) (n := 73036) (Nat.le_of_ble_eq_true rfl) (Nat.le_of_ble_eq_true rfl) ?_
  refine va_putF (D := D.1) (ci := 12) (v := .ref q17) (ty := tyX12 31) (C := RX12) (T := TX12) (N := 114) hx hb hts wi_X12 tyX12 tyX12_ok nmX12 hown X.1 X.2.1 X.2.2.1 X.2.2.2.1 0 rfl rfl 31 (by decide) (hts _ q6_206) (fun _ h9 => h9) rfl hin rfl (by decide +kernel) rfl rfl (by rw [List.length_map, List.length_range]; decide) dX12_init_389 (fun H locs hP hD hS => ?_)
  obtain ⟨FF29, hFF29⟩ : ∃ f : Nat → Value, f = va_up FF28 31 (.ref q17) := ⟨_, rfl⟩
  have X : Hx D TT17 A s H locs ((h, .inr (12, (List.range 114).map FF29)) :: rr17) := by subst hFF29; exact Hx_set X obj_set hP hD hS
  refine lv_aload_n hx hb dX12_init_392 rfl (lv_at hl 0 rfl) ?_
  refine lv_sipush (v := (3001 : Int32)) hx hb dX12_init_393 (by decide) ?_
  refine va_newa (a0 := (3001, .inl (fun _ => 0))) (N' := 3001) hx hb (hts _ q1_125) rfl X.1 X.2.1 X.2.2.1 X.2.2.2.1 X.2.2.2.2.1 (fun _ => rfl) (by decide) (by decide) (by decide) (Nat.le_of_ble_eq_true rfl) (Nat.le_of_ble_eq_true rfl) dX12_init_396 (fun q18 y18 H hK hP hD hS => ?_)
  obtain ⟨rr18, hrr18⟩ : ∃ r : va_W, r = rr17 ++ [(q18, .inl (y18, 3001, .inl (fun _ => 0)))] := ⟨_, rfl⟩
  obtain ⟨TT18, hTT18⟩ : ∃ r : List (ClassId × FieldType), r = TT17 ++ [(y18, .int)] := ⟨_, rfl⟩
  have X : Hx D TT18 A s H locs ((h, .inr (12, (List.range 114).map FF29)) :: rr18) := by subst hrr18 hTT18; exact ⟨hK, hP, hD, hS, X.2.2.2.2⟩
  refine W.widen (k := 18) (n := 76037) (Nat.le_of_ble_eq_true rfl) (Nat.le_of_ble_eq_true rfl) ?_
  refine va_putF (D := D.1) (ci := 12) (v := .ref q18) (ty := tyX12 32) (C := RX12) (T := TX12) (N := 114) hx hb hts wi_X12 tyX12 tyX12_ok nmX12 hown X.1 X.2.1 X.2.2.1 X.2.2.2.1 0 rfl rfl 32 (by decide) (hts _ q6_207) (fun _ h9 => h9) rfl hin rfl (by decide +kernel) rfl rfl (by rw [List.length_map, List.length_range]; decide) dX12_init_398 (fun H locs hP hD hS => ?_)
  obtain ⟨FF30, hFF30⟩ : ∃ f : Nat → Value, f = va_up FF29 32 (.ref q18) := ⟨_, rfl⟩
  have X : Hx D TT18 A s H locs ((h, .inr (12, (List.range 114).map FF30)) :: rr18) := by subst hFF30; exact Hx_set X obj_set hP hD hS
  refine lv_aload_n hx hb dX12_init_401 rfl (lv_at hl 0 rfl) ?_
  refine lv_iconst (v := (0 : Int32)) hx hb dX12_init_402 (by decide) ?_
  refine va_put (D := D.1) (ci := 12) (v := .int (0 : Int32)) (ty := tyX12 33) (C := RX12) (T := TX12) (N := 114) hx hb hts wi_X12 tyX12 tyX12_ok nmX12 hown X.1 X.2.1 X.2.2.1 X.2.2.2.1 0 rfl rfl 33 (by decide) (hts _ q6_208) (fun _ h9 => h9) rfl (by decide +kernel) rfl rfl (by rw [List.length_map, List.length_range]; decide) dX12_init_403 (fun H locs hP hD hS => ?_)
  obtain ⟨FF31, hFF31⟩ : ∃ f : Nat → Value, f = va_up FF30 33 (.int (0 : Int32)) := ⟨_, rfl⟩
  have X : Hx D TT18 A s H locs ((h, .inr (12, (List.range 114).map FF31)) :: rr18) := by subst hFF31; exact Hx_set X obj_set hP hD hS
  refine lv_aload_n hx hb dX12_init_406 rfl (lv_at hl 0 rfl) ?_
  refine lv_iconst (v := (0 : Int32)) hx hb dX12_init_407 (by decide) ?_
  refine va_put (D := D.1) (ci := 12) (v := .int (0 : Int32)) (ty := tyX12 34) (C := RX12) (T := TX12) (N := 114) hx hb hts wi_X12 tyX12 tyX12_ok nmX12 hown X.1 X.2.1 X.2.2.1 X.2.2.2.1 0 rfl rfl 34 (by decide) (hts _ q6_209) (fun _ h9 => h9) rfl (by decide +kernel) rfl rfl (by rw [List.length_map, List.length_range]; decide) dX12_init_408 (fun H locs hP hD hS => ?_)
  obtain ⟨FF32, hFF32⟩ : ∃ f : Nat → Value, f = va_up FF31 34 (.int (0 : Int32)) := ⟨_, rfl⟩
  have X : Hx D TT18 A s H locs ((h, .inr (12, (List.range 114).map FF32)) :: rr18) := by subst hFF32; exact Hx_set X obj_set hP hD hS
  refine lv_aload_n hx hb dX12_init_411 rfl (lv_at hl 0 rfl) ?_
  refine lv_iconst (v := (0 : Int32)) hx hb dX12_init_412 (by decide) ?_
  refine va_put (D := D.1) (ci := 12) (v := .int (0 : Int32)) (ty := tyX12 35) (C := RX12) (T := TX12) (N := 114) hx hb hts wi_X12 tyX12 tyX12_ok nmX12 hown X.1 X.2.1 X.2.2.1 X.2.2.2.1 0 rfl rfl 35 (by decide) (hts _ q6_210) (fun _ h9 => h9) rfl (by decide +kernel) rfl rfl (by rw [List.length_map, List.length_range]; decide) dX12_init_413 (fun H locs hP hD hS => ?_)
  obtain ⟨FF33, hFF33⟩ : ∃ f : Nat → Value, f = va_up FF32 35 (.int (0 : Int32)) := ⟨_, rfl⟩
  have X : Hx D TT18 A s H locs ((h, .inr (12, (List.range 114).map FF33)) :: rr18) := by subst hFF33; exact Hx_set X obj_set hP hD hS
  refine lv_aload_n hx hb dX12_init_416 rfl (lv_at hl 0 rfl) ?_
  refine lv_iconst (v := (0 : Int32)) hx hb dX12_init_417 (by decide) ?_
  refine va_put (D := D.1) (ci := 12) (v := .int (0 : Int32)) (ty := tyX12 36) (C := RX12) (T := TX12) (N := 114) hx hb hts wi_X12 tyX12 tyX12_ok nmX12 hown X.1 X.2.1 X.2.2.1 X.2.2.2.1 0 rfl rfl 36 (by decide) (hts _ q6_211) (fun _ h9 => h9) rfl (by decide +kernel) rfl rfl (by rw [List.length_map, List.length_range]; decide) dX12_init_418 (fun H locs hP hD hS => ?_)
  obtain ⟨FF34, hFF34⟩ : ∃ f : Nat → Value, f = va_up FF33 36 (.int (0 : Int32)) := ⟨_, rfl⟩
  have X : Hx D TT18 A s H locs ((h, .inr (12, (List.range 114).map FF34)) :: rr18) := by subst hFF34; exact Hx_set X obj_set hP hD hS
  refine lv_aload_n hx hb dX12_init_421 rfl (lv_at hl 0 rfl) ?_
  refine lv_sipush (v := (400 : Int32)) hx hb dX12_init_422 (by decide) ?_
  refine va_newa (a0 := (400, .inl (fun _ => 0))) (N' := 400) hx hb (hts _ q1_125) rfl X.1 X.2.1 X.2.2.1 X.2.2.2.1 X.2.2.2.2.1 (fun _ => rfl) (by decide) (by decide) (by decide) (Nat.le_of_ble_eq_true rfl) (Nat.le_of_ble_eq_true rfl) dX12_init_425 (fun q19 y19 H hK hP hD hS => ?_)
  obtain ⟨rr19, hrr19⟩ : ∃ r : va_W, r = rr18 ++ [(q19, .inl (y19, 400, .inl (fun _ => 0)))] := ⟨_, rfl⟩
  obtain ⟨TT19, hTT19⟩ : ∃ r : List (ClassId × FieldType), r = TT18 ++ [(y19, .int)] := ⟨_, rfl⟩
  have X : Hx D TT19 A s H locs ((h, .inr (12, (List.range 114).map FF34)) :: rr19) := by subst hrr19 hTT19; exact ⟨hK, hP, hD, hS, X.2.2.2.2⟩
  refine W.widen (k := 19) (n := 76437) (Nat.le_of_ble_eq_true rfl) (Nat.le_of_ble_eq_true rfl) ?_
  refine va_putF (D := D.1) (ci := 12) (v := .ref q19) (ty := tyX12 37) (C := RX12) (T := TX12) (N := 114) hx hb hts wi_X12 tyX12 tyX12_ok nmX12 hown X.1 X.2.1 X.2.2.1 X.2.2.2.1 0 rfl rfl 37 (by decide) (hts _ q6_212) (fun _ h9 => h9) rfl hin rfl (by decide +kernel) rfl rfl (by rw [List.length_map, List.length_range]; decide) dX12_init_427 (fun H locs hP hD hS => ?_)
  obtain ⟨FF35, hFF35⟩ : ∃ f : Nat → Value, f = va_up FF34 37 (.ref q19) := ⟨_, rfl⟩
  have X : Hx D TT19 A s H locs ((h, .inr (12, (List.range 114).map FF35)) :: rr19) := by subst hFF35; exact Hx_set X obj_set hP hD hS
  refine lv_aload_n hx hb dX12_init_430 rfl (lv_at hl 0 rfl) ?_
  refine lv_sipush (v := (400 : Int32)) hx hb dX12_init_431 (by decide) ?_
  refine va_newa (a0 := (400, .inl (fun _ => 0))) (N' := 400) hx hb (hts _ q1_125) rfl X.1 X.2.1 X.2.2.1 X.2.2.2.1 X.2.2.2.2.1 (fun _ => rfl) (by decide) (by decide) (by decide) (Nat.le_of_ble_eq_true rfl) (Nat.le_of_ble_eq_true rfl) dX12_init_434 (fun q20 y20 H hK hP hD hS => ?_)
  obtain ⟨rr20, hrr20⟩ : ∃ r : va_W, r = rr19 ++ [(q20, .inl (y20, 400, .inl (fun _ => 0)))] := ⟨_, rfl⟩
  obtain ⟨TT20, hTT20⟩ : ∃ r : List (ClassId × FieldType), r = TT19 ++ [(y20, .int)] := ⟨_, rfl⟩
  have X : Hx D TT20 A s H locs ((h, .inr (12, (List.range 114).map FF35)) :: rr20) := by subst hrr20 hTT20; exact ⟨hK, hP, hD, hS, X.2.2.2.2⟩
  refine W.widen (k := 20) (n := 76837) (Nat.le_of_ble_eq_true rfl) (Nat.le_of_ble_eq_true rfl) ?_
  refine va_putF (D := D.1) (ci := 12) (v := .ref q20) (ty := tyX12 38) (C := RX12) (T := TX12) (N := 114) hx hb hts wi_X12 tyX12 tyX12_ok nmX12 hown X.1 X.2.1 X.2.2.1 X.2.2.2.1 0 rfl rfl 38 (by decide) (hts _ q6_213) (fun _ h9 => h9) rfl hin rfl (by decide +kernel) rfl rfl (by rw [List.length_map, List.length_range]; decide) dX12_init_436 (fun H locs hP hD hS => ?_)
  obtain ⟨FF36, hFF36⟩ : ∃ f : Nat → Value, f = va_up FF35 38 (.ref q20) := ⟨_, rfl⟩
  have X : Hx D TT20 A s H locs ((h, .inr (12, (List.range 114).map FF36)) :: rr20) := by subst hFF36; exact Hx_set X obj_set hP hD hS
  refine lv_aload_n hx hb dX12_init_439 rfl (lv_at hl 0 rfl) ?_
  refine lv_sipush (v := (400 : Int32)) hx hb dX12_init_440 (by decide) ?_
  refine va_newa (a0 := (400, .inl (fun _ => 0))) (N' := 400) hx hb (hts _ q2_147) rfl X.1 X.2.1 X.2.2.1 X.2.2.2.1 X.2.2.2.2.1 (fun _ => rfl) (by decide) (by decide) (by decide) (Nat.le_of_ble_eq_true rfl) (Nat.le_of_ble_eq_true rfl) dX12_init_443 (fun q21 y21 H hK hP hD hS => ?_)
  obtain ⟨rr21, hrr21⟩ : ∃ r : va_W, r = rr20 ++ [(q21, .inl (y21, 400, .inl (fun _ => 0)))] := ⟨_, rfl⟩
  obtain ⟨TT21, hTT21⟩ : ∃ r : List (ClassId × FieldType), r = TT20 ++ [(y21, .boolean)] := ⟨_, rfl⟩
  have X : Hx D TT21 A s H locs ((h, .inr (12, (List.range 114).map FF36)) :: rr21) := by subst hrr21 hTT21; exact ⟨hK, hP, hD, hS, X.2.2.2.2⟩
  refine W.widen (k := 21) (n := 77237) (Nat.le_of_ble_eq_true rfl) (Nat.le_of_ble_eq_true rfl) ?_
  refine va_putF (D := D.1) (ci := 12) (v := .ref q21) (ty := tyX12 39) (C := RX12) (T := TX12) (N := 114) hx hb hts wi_X12 tyX12 tyX12_ok nmX12 hown X.1 X.2.1 X.2.2.1 X.2.2.2.1 0 rfl rfl 39 (by decide) (hts _ q6_214) (fun _ h9 => h9) rfl hin rfl (by decide +kernel) rfl rfl (by rw [List.length_map, List.length_range]; decide) dX12_init_445 (fun H locs hP hD hS => ?_)
  obtain ⟨FF37, hFF37⟩ : ∃ f : Nat → Value, f = va_up FF36 39 (.ref q21) := ⟨_, rfl⟩
  have X : Hx D TT21 A s H locs ((h, .inr (12, (List.range 114).map FF37)) :: rr21) := by subst hFF37; exact Hx_set X obj_set hP hD hS
  refine lv_aload_n hx hb dX12_init_448 rfl (lv_at hl 0 rfl) ?_
  refine lv_sipush (v := (400 : Int32)) hx hb dX12_init_449 (by decide) ?_
  refine va_newa (a0 := (400, .inl (fun _ => 0))) (N' := 400) hx hb (hts _ q1_125) rfl X.1 X.2.1 X.2.2.1 X.2.2.2.1 X.2.2.2.2.1 (fun _ => rfl) (by decide) (by decide) (by decide) (Nat.le_of_ble_eq_true rfl) (Nat.le_of_ble_eq_true rfl) dX12_init_452 (fun q22 y22 H hK hP hD hS => ?_)
  obtain ⟨rr22, hrr22⟩ : ∃ r : va_W, r = rr21 ++ [(q22, .inl (y22, 400, .inl (fun _ => 0)))] := ⟨_, rfl⟩
  obtain ⟨TT22, hTT22⟩ : ∃ r : List (ClassId × FieldType), r = TT21 ++ [(y22, .int)] := ⟨_, rfl⟩
  have X : Hx D TT22 A s H locs ((h, .inr (12, (List.range 114).map FF37)) :: rr22) := by subst hrr22 hTT22; exact ⟨hK, hP, hD, hS, X.2.2.2.2⟩
  refine W.widen (k := 22) (n := 77637) (Nat.le_of_ble_eq_true rfl) (Nat.le_of_ble_eq_true rfl) ?_
  refine va_putF (D := D.1) (ci := 12) (v := .ref q22) (ty := tyX12 40) (C := RX12) (T := TX12) (N := 114) hx hb hts wi_X12 tyX12 tyX12_ok nmX12 hown X.1 X.2.1 X.2.2.1 X.2.2.2.1 0 rfl rfl 40 (by decide) (hts _ q6_215) (fun _ h9 => h9) rfl hin rfl (by decide +kernel) rfl rfl (by rw [List.length_map, List.length_range]; decide) dX12_init_454 (fun H locs hP hD hS => ?_)
  obtain ⟨FF38, hFF38⟩ : ∃ f : Nat → Value, f = va_up FF37 40 (.ref q22) := ⟨_, rfl⟩
  have X : Hx D TT22 A s H locs ((h, .inr (12, (List.range 114).map FF38)) :: rr22) := by subst hFF38; exact Hx_set X obj_set hP hD hS
  refine lv_aload_n hx hb dX12_init_457 rfl (lv_at hl 0 rfl) ?_
  refine lv_sipush (v := (400 : Int32)) hx hb dX12_init_458 (by decide) ?_
  refine va_newa (a0 := (400, .inl (fun _ => 0))) (N' := 400) hx hb (hts _ q1_125) rfl X.1 X.2.1 X.2.2.1 X.2.2.2.1 X.2.2.2.2.1 (fun _ => rfl) (by decide) (by decide) (by decide) (Nat.le_of_ble_eq_true rfl) (Nat.le_of_ble_eq_true rfl) dX12_init_461 (fun q23 y23 H hK hP hD hS => ?_)
  obtain ⟨rr23, hrr23⟩ : ∃ r : va_W, r = rr22 ++ [(q23, .inl (y23, 400, .inl (fun _ => 0)))] := ⟨_, rfl⟩
  obtain ⟨TT23, hTT23⟩ : ∃ r : List (ClassId × FieldType), r = TT22 ++ [(y23, .int)] := ⟨_, rfl⟩
  have X : Hx D TT23 A s H locs ((h, .inr (12, (List.range 114).map FF38)) :: rr23) := by subst hrr23 hTT23; exact ⟨hK, hP, hD, hS, X.2.2.2.2⟩
  refine W.widen (k := 23) (n := 78037) (Nat.le_of_ble_eq_true rfl) (Nat.le_of_ble_eq_true rfl) ?_
  refine va_putF (D := D.1) (ci := 12) (v := .ref q23) (ty := tyX12 41) (C := RX12) (T := TX12) (N := 114) hx hb hts wi_X12 tyX12 tyX12_ok nmX12 hown X.1 X.2.1 X.2.2.1 X.2.2.2.1 0 rfl rfl 41 (by decide) (hts _ q6_216) (fun _ h9 => h9) rfl hin rfl (by decide +kernel) rfl rfl (by rw [List.length_map, List.length_range]; decide) dX12_init_463 (fun H locs hP hD hS => ?_)
  obtain ⟨FF39, hFF39⟩ : ∃ f : Nat → Value, f = va_up FF38 41 (.ref q23) := ⟨_, rfl⟩
  have X : Hx D TT23 A s H locs ((h, .inr (12, (List.range 114).map FF39)) :: rr23) := by subst hFF39; exact Hx_set X obj_set hP hD hS
  refine lv_aload_n hx hb dX12_init_466 rfl (lv_at hl 0 rfl) ?_
  refine lv_sipush (v := (400 : Int32)) hx hb dX12_init_467 (by decide) ?_
  refine va_newa (a0 := (400, .inl (fun _ => 0))) (N' := 400) hx hb (hts _ q1_125) rfl X.1 X.2.1 X.2.2.1 X.2.2.2.1 X.2.2.2.2.1 (fun _ => rfl) (by decide) (by decide) (by decide) (Nat.le_of_ble_eq_true rfl) (Nat.le_of_ble_eq_true rfl) dX12_init_470 (fun q24 y24 H hK hP hD hS => ?_)
  obtain ⟨rr24, hrr24⟩ : ∃ r : va_W, r = rr23 ++ [(q24, .inl (y24, 400, .inl (fun _ => 0)))] := ⟨_, rfl⟩
  obtain ⟨TT24, hTT24⟩ : ∃ r : List (ClassId × FieldType), r = TT23 ++ [(y24, .int)] := ⟨_, rfl⟩
  have X : Hx D TT24 A s H locs ((h, .inr (12, (List.range 114).map FF39)) :: rr24) := by subst hrr24 hTT24; exact ⟨hK, hP, hD, hS, X.2.2.2.2⟩
  refine W.widen (k := 24) (n := 78437) (Nat.le_of_ble_eq_true rfl) (Nat.le_of_ble_eq_true rfl) ?_
  refine va_putF (D := D.1) (ci := 12) (v := .ref q24) (ty := tyX12 42) (C := RX12) (T := TX12) (N := 114) hx hb hts wi_X12 tyX12 tyX12_ok nmX12 hown X.1 X.2.1 X.2.2.1 X.2.2.2.1 0 rfl rfl 42 (by decide) (hts _ q6_217) (fun _ h9 => h9) rfl hin rfl (by decide +kernel) rfl rfl (by rw [List.length_map, List.length_range]; decide) dX12_init_472 (fun H locs hP hD hS => ?_)
  obtain ⟨FF40, hFF40⟩ : ∃ f : Nat → Value, f = va_up FF39 42 (.ref q24) := ⟨_, rfl⟩
  have X : Hx D TT24 A s H locs ((h, .inr (12, (List.range 114).map FF40)) :: rr24) := by subst hFF40; exact Hx_set X obj_set hP hD hS
  refine lv_aload_n hx hb dX12_init_475 rfl (lv_at hl 0 rfl) ?_
  refine lv_sipush (v := (400 : Int32)) hx hb dX12_init_476 (by decide) ?_
  refine va_newa (a0 := (400, .inl (fun _ => 0))) (N' := 400) hx hb (hts _ q1_125) rfl X.1 X.2.1 X.2.2.1 X.2.2.2.1 X.2.2.2.2.1 (fun _ => rfl) (by decide) (by decide) (by decide) (Nat.le_of_ble_eq_true rfl) (Nat.le_of_ble_eq_true rfl) dX12_init_479 (fun q25 y25 H hK hP hD hS => ?_)
  obtain ⟨rr25, hrr25⟩ : ∃ r : va_W, r = rr24 ++ [(q25, .inl (y25, 400, .inl (fun _ => 0)))] := ⟨_, rfl⟩
  obtain ⟨TT25, hTT25⟩ : ∃ r : List (ClassId × FieldType), r = TT24 ++ [(y25, .int)] := ⟨_, rfl⟩
  have X : Hx D TT25 A s H locs ((h, .inr (12, (List.range 114).map FF40)) :: rr25) := by subst hrr25 hTT25; exact ⟨hK, hP, hD, hS, X.2.2.2.2⟩
  refine W.widen (k := 25) (n := 78837) (Nat.le_of_ble_eq_true rfl) (Nat.le_of_ble_eq_true rfl) ?_
  refine va_putF (D := D.1) (ci := 12) (v := .ref q25) (ty := tyX12 43) (C := RX12) (T := TX12) (N := 114) hx hb hts wi_X12 tyX12 tyX12_ok nmX12 hown X.1 X.2.1 X.2.2.1 X.2.2.2.1 0 rfl rfl 43 (by decide) (hts _ q6_218) (fun _ h9 => h9) rfl hin rfl (by decide +kernel) rfl rfl (by rw [List.length_map, List.length_range]; decide) dX12_init_481 (fun H locs hP hD hS => ?_)
  obtain ⟨FF41, hFF41⟩ : ∃ f : Nat → Value, f = va_up FF40 43 (.ref q25) := ⟨_, rfl⟩
  have X : Hx D TT25 A s H locs ((h, .inr (12, (List.range 114).map FF41)) :: rr25) := by subst hFF41; exact Hx_set X obj_set hP hD hS
  refine lv_aload_n hx hb dX12_init_484 rfl (lv_at hl 0 rfl) ?_
  refine lv_sipush (v := (400 : Int32)) hx hb dX12_init_485 (by decide) ?_
  refine va_newa (a0 := (400, .inl (fun _ => 0))) (N' := 400) hx hb (hts _ q1_125) rfl X.1 X.2.1 X.2.2.1 X.2.2.2.1 X.2.2.2.2.1 (fun _ => rfl) (by decide) (by decide) (by decide) (Nat.le_of_ble_eq_true rfl) (Nat.le_of_ble_eq_true rfl) dX12_init_488 (fun q26 y26 H hK hP hD hS => ?_)
  obtain ⟨rr26, hrr26⟩ : ∃ r : va_W, r = rr25 ++ [(q26, .inl (y26, 400, .inl (fun _ => 0)))] := ⟨_, rfl⟩
  obtain ⟨TT26, hTT26⟩ : ∃ r : List (ClassId × FieldType), r = TT25 ++ [(y26, .int)] := ⟨_, rfl⟩
  have X : Hx D TT26 A s H locs ((h, .inr (12, (List.range 114).map FF41)) :: rr26) := by subst hrr26 hTT26; exact ⟨hK, hP, hD, hS, X.2.2.2.2⟩
  refine W.widen (k := 26) (n := 79237) (Nat.le_of_ble_eq_true rfl) (Nat.le_of_ble_eq_true rfl) ?_
  refine va_putF (D := D.1) (ci := 12) (v := .ref q26) (ty := tyX12 44) (C := RX12) (T := TX12) (N := 114) hx hb hts wi_X12 tyX12 tyX12_ok nmX12 hown X.1 X.2.1 X.2.2.1 X.2.2.2.1 0 rfl rfl 44 (by decide) (hts _ q6_219) (fun _ h9 => h9) rfl hin rfl (by decide +kernel) rfl rfl (by rw [List.length_map, List.length_range]; decide) dX12_init_490 (fun H locs hP hD hS => ?_)
  obtain ⟨FF42, hFF42⟩ : ∃ f : Nat → Value, f = va_up FF41 44 (.ref q26) := ⟨_, rfl⟩
  have X : Hx D TT26 A s H locs ((h, .inr (12, (List.range 114).map FF42)) :: rr26) := by subst hFF42; exact Hx_set X obj_set hP hD hS
  refine lv_aload_n hx hb dX12_init_493 rfl (lv_at hl 0 rfl) ?_
  refine lv_sipush (v := (400 : Int32)) hx hb dX12_init_494 (by decide) ?_
  refine va_newa (a0 := (400, .inl (fun _ => 0))) (N' := 400) hx hb (hts _ q1_125) rfl X.1 X.2.1 X.2.2.1 X.2.2.2.1 X.2.2.2.2.1 (fun _ => rfl) (by decide) (by decide) (by decide) (Nat.le_of_ble_eq_true rfl) (Nat.le_of_ble_eq_true rfl) dX12_init_497 (fun q27 y27 H hK hP hD hS => ?_)
  obtain ⟨rr27, hrr27⟩ : ∃ r : va_W, r = rr26 ++ [(q27, .inl (y27, 400, .inl (fun _ => 0)))] := ⟨_, rfl⟩
  obtain ⟨TT27, hTT27⟩ : ∃ r : List (ClassId × FieldType), r = TT26 ++ [(y27, .int)] := ⟨_, rfl⟩
  have X : Hx D TT27 A s H locs ((h, .inr (12, (List.range 114).map FF42)) :: rr27) := by subst hrr27 hTT27; exact ⟨hK, hP, hD, hS, X.2.2.2.2⟩
  refine W.widen (k := 27) (n := 79637) (Nat.le_of_ble_eq_true rfl) (Nat.le_of_ble_eq_true rfl) ?_
  refine va_putF (D := D.1) (ci := 12) (v := .ref q27) (ty := tyX12 45) (C := RX12) (T := TX12) (N := 114) hx hb hts wi_X12 tyX12 tyX12_ok nmX12 hown X.1 X.2.1 X.2.2.1 X.2.2.2.1 0 rfl rfl 45 (by decide) (hts _ q6_220) (fun _ h9 => h9) rfl hin rfl (by decide +kernel) rfl rfl (by rw [List.length_map, List.length_range]; decide) dX12_init_499 (fun H locs hP hD hS => ?_)
  obtain ⟨FF43, hFF43⟩ : ∃ f : Nat → Value, f = va_up FF42 45 (.ref q27) := ⟨_, rfl⟩
  have X : Hx D TT27 A s H locs ((h, .inr (12, (List.range 114).map FF43)) :: rr27) := by subst hFF43; exact Hx_set X obj_set hP hD hS
  refine lv_aload_n hx hb dX12_init_502 rfl (lv_at hl 0 rfl) ?_
  refine lv_sipush (v := (400 : Int32)) hx hb dX12_init_503 (by decide) ?_
  refine va_newa (a0 := (400, .inl (fun _ => 0))) (N' := 400) hx hb (hts _ q1_125) rfl X.1 X.2.1 X.2.2.1 X.2.2.2.1 X.2.2.2.2.1 (fun _ => rfl) (by decide) (by decide) (by decide) (Nat.le_of_ble_eq_true rfl) (Nat.le_of_ble_eq_true rfl) dX12_init_506 (fun q28 y28 H hK hP hD hS => ?_)
  obtain ⟨rr28, hrr28⟩ : ∃ r : va_W, r = rr27 ++ [(q28, .inl (y28, 400, .inl (fun _ => 0)))] := ⟨_, rfl⟩
  obtain ⟨TT28, hTT28⟩ : ∃ r : List (ClassId × FieldType), r = TT27 ++ [(y28, .int)] := ⟨_, rfl⟩
  have X : Hx D TT28 A s H locs ((h, .inr (12, (List.range 114).map FF43)) :: rr28) := by subst hrr28 hTT28; exact ⟨hK, hP, hD, hS, X.2.2.2.2⟩
  refine W.widen (k := 28) (n := 80037) (Nat.le_of_ble_eq_true rfl) (Nat.le_of_ble_eq_true rfl) ?_
  refine va_putF (D := D.1) (ci := 12) (v := .ref q28) (ty := tyX12 46) (C := RX12) (T := TX12) (N := 114) hx hb hts wi_X12 tyX12 tyX12_ok nmX12 hown X.1 X.2.1 X.2.2.1 X.2.2.2.1 0 rfl rfl 46 (by decide) (hts _ q6_221) (fun _ h9 => h9) rfl hin rfl (by decide +kernel) rfl rfl (by rw [List.length_map, List.length_range]; decide) dX12_init_508 (fun H locs hP hD hS => ?_)
  obtain ⟨FF44, hFF44⟩ : ∃ f : Nat → Value, f = va_up FF43 46 (.ref q28) := ⟨_, rfl⟩
  have X : Hx D TT28 A s H locs ((h, .inr (12, (List.range 114).map FF44)) :: rr28) := by subst hFF44; exact Hx_set X obj_set hP hD hS
  refine lv_aload_n hx hb dX12_init_511 rfl (lv_at hl 0 rfl) ?_
  refine lv_sipush (v := (400 : Int32)) hx hb dX12_init_512 (by decide) ?_
  refine va_newa (a0 := (400, .inl (fun _ => 0))) (N' := 400) hx hb (hts _ q1_125) rfl X.1 X.2.1 X.2.2.1 X.2.2.2.1 X.2.2.2.2.1 (fun _ => rfl) (by decide) (by decide) (by decide) (Nat.le_of_ble_eq_true rfl) (Nat.le_of_ble_eq_true rfl) dX12_init_515 (fun q29 y29 H hK hP hD hS => ?_)
  obtain ⟨rr29, hrr29⟩ : ∃ r : va_W, r = rr28 ++ [(q29, .inl (y29, 400, .inl (fun _ => 0)))] := ⟨_, rfl⟩
  obtain ⟨TT29, hTT29⟩ : ∃ r : List (ClassId × FieldType), r = TT28 ++ [(y29, .int)] := ⟨_, rfl⟩
  have X : Hx D TT29 A s H locs ((h, .inr (12, (List.range 114).map FF44)) :: rr29) := by subst hrr29 hTT29; exact ⟨hK, hP, hD, hS, X.2.2.2.2⟩
  refine W.widen (k := 29) (n := 80437) (Nat.le_of_ble_eq_true rfl) (Nat.le_of_ble_eq_true rfl) ?_
  refine va_putF (D := D.1) (ci := 12) (v := .ref q29) (ty := tyX12 47) (C := RX12) (T := TX12) (N := 114) hx hb hts wi_X12 tyX12 tyX12_ok nmX12 hown X.1 X.2.1 X.2.2.1 X.2.2.2.1 0 rfl rfl 47 (by decide) (hts _ q6_222) (fun _ h9 => h9) rfl hin rfl (by decide +kernel) rfl rfl (by rw [List.length_map, List.length_range]; decide) dX12_init_517 (fun H locs hP hD hS => ?_)
  obtain ⟨FF45, hFF45⟩ : ∃ f : Nat → Value, f = va_up FF44 47 (.ref q29) := ⟨_, rfl⟩
  have X : Hx D TT29 A s H locs ((h, .inr (12, (List.range 114).map FF45)) :: rr29) := by subst hFF45; exact Hx_set X obj_set hP hD hS
  refine lv_aload_n hx hb dX12_init_520 rfl (lv_at hl 0 rfl) ?_
  refine lv_sipush (v := (400 : Int32)) hx hb dX12_init_521 (by decide) ?_
  refine va_newa (a0 := (400, .inl (fun _ => 0))) (N' := 400) hx hb (hts _ q1_125) rfl X.1 X.2.1 X.2.2.1 X.2.2.2.1 X.2.2.2.2.1 (fun _ => rfl) (by decide) (by decide) (by decide) (Nat.le_of_ble_eq_true rfl) (Nat.le_of_ble_eq_true rfl) dX12_init_524 (fun q30 y30 H hK hP hD hS => ?_)
  obtain ⟨rr30, hrr30⟩ : ∃ r : va_W, r = rr29 ++ [(q30, .inl (y30, 400, .inl (fun _ => 0)))] := ⟨_, rfl⟩
  obtain ⟨TT30, hTT30⟩ : ∃ r : List (ClassId × FieldType), r = TT29 ++ [(y30, .int)] := ⟨_, rfl⟩
  have X : Hx D TT30 A s H locs ((h, .inr (12, (List.range 114).map FF45)) :: rr30) := by subst hrr30 hTT30; exact ⟨hK, hP, hD, hS, X.2.2.2.2⟩
  refine W.widen (k := 30) (n := 80837) (Nat.le_of_ble_eq_true rfl) (Nat.le_of_ble_eq_true rfl) ?_
  refine va_putF (D := D.1) (ci := 12) (v := .ref q30) (ty := tyX12 48) (C := RX12) (T := TX12) (N := 114) hx hb hts wi_X12 tyX12 tyX12_ok nmX12 hown X.1 X.2.1 X.2.2.1 X.2.2.2.1 0 rfl rfl 48 (by decide) (hts _ q6_223) (fun _ h9 => h9) rfl hin rfl (by decide +kernel) rfl rfl (by rw [List.length_map, List.length_range]; decide) dX12_init_526 (fun H locs hP hD hS => ?_)
  obtain ⟨FF46, hFF46⟩ : ∃ f : Nat → Value, f = va_up FF45 48 (.ref q30) := ⟨_, rfl⟩
  have X : Hx D TT30 A s H locs ((h, .inr (12, (List.range 114).map FF46)) :: rr30) := by subst hFF46; exact Hx_set X obj_set hP hD hS
  refine lv_aload_n hx hb dX12_init_529 rfl (lv_at hl 0 rfl) ?_
  refine lv_sipush (v := (400 : Int32)) hx hb dX12_init_530 (by decide) ?_
  refine va_newa (a0 := (400, .inl (fun _ => 0))) (N' := 400) hx hb (hts _ q1_125) rfl X.1 X.2.1 X.2.2.1 X.2.2.2.1 X.2.2.2.2.1 (fun _ => rfl) (by decide) (by decide) (by decide) (Nat.le_of_ble_eq_true rfl) (Nat.le_of_ble_eq_true rfl) dX12_init_533 (fun q31 y31 H hK hP hD hS => ?_)
  obtain ⟨rr31, hrr31⟩ : ∃ r : va_W, r = rr30 ++ [(q31, .inl (y31, 400, .inl (fun _ => 0)))] := ⟨_, rfl⟩
  obtain ⟨TT31, hTT31⟩ : ∃ r : List (ClassId × FieldType), r = TT30 ++ [(y31, .int)] := ⟨_, rfl⟩
  have X : Hx D TT31 A s H locs ((h, .inr (12, (List.range 114).map FF46)) :: rr31) := by subst hrr31 hTT31; exact ⟨hK, hP, hD, hS, X.2.2.2.2⟩
  refine W.widen (k := 31) (n := 81237) (Nat.le_of_ble_eq_true rfl) (Nat.le_of_ble_eq_true rfl) ?_
  refine va_putF (D := D.1) (ci := 12) (v := .ref q31) (ty := tyX12 49) (C := RX12) (T := TX12) (N := 114) hx hb hts wi_X12 tyX12 tyX12_ok nmX12 hown X.1 X.2.1 X.2.2.1 X.2.2.2.1 0 rfl rfl 49 (by decide) (hts _ q6_224) (fun _ h9 => h9) rfl hin rfl (by decide +kernel) rfl rfl (by rw [List.length_map, List.length_range]; decide) dX12_init_535 (fun H locs hP hD hS => ?_)
  obtain ⟨FF47, hFF47⟩ : ∃ f : Nat → Value, f = va_up FF46 49 (.ref q31) := ⟨_, rfl⟩
  have X : Hx D TT31 A s H locs ((h, .inr (12, (List.range 114).map FF47)) :: rr31) := by subst hFF47; exact Hx_set X obj_set hP hD hS
  refine lv_aload_n hx hb dX12_init_538 rfl (lv_at hl 0 rfl) ?_
  refine lv_sipush (v := (400 : Int32)) hx hb dX12_init_539 (by decide) ?_
  refine va_newa (a0 := (400, .inl (fun _ => 0))) (N' := 400) hx hb (hts _ q1_125) rfl X.1 X.2.1 X.2.2.1 X.2.2.2.1 X.2.2.2.2.1 (fun _ => rfl) (by decide) (by decide) (by decide) (Nat.le_of_ble_eq_true rfl) (Nat.le_of_ble_eq_true rfl) dX12_init_542 (fun q32 y32 H hK hP hD hS => ?_)
  obtain ⟨rr32, hrr32⟩ : ∃ r : va_W, r = rr31 ++ [(q32, .inl (y32, 400, .inl (fun _ => 0)))] := ⟨_, rfl⟩
  obtain ⟨TT32, hTT32⟩ : ∃ r : List (ClassId × FieldType), r = TT31 ++ [(y32, .int)] := ⟨_, rfl⟩
  have X : Hx D TT32 A s H locs ((h, .inr (12, (List.range 114).map FF47)) :: rr32) := by subst hrr32 hTT32; exact ⟨hK, hP, hD, hS, X.2.2.2.2⟩
  refine W.widen (k := 32) (n := 81637) (Nat.le_of_ble_eq_true rfl) (Nat.le_of_ble_eq_true rfl) ?_
  refine va_putF (D := D.1) (ci := 12) (v := .ref q32) (ty := tyX12 50) (C := RX12) (T := TX12) (N := 114) hx hb hts wi_X12 tyX12 tyX12_ok nmX12 hown X.1 X.2.1 X.2.2.1 X.2.2.2.1 0 rfl rfl 50 (by decide) (hts _ q6_225) (fun _ h9 => h9) rfl hin rfl (by decide +kernel) rfl rfl (by rw [List.length_map, List.length_range]; decide) dX12_init_544 (fun H locs hP hD hS => ?_)
  obtain ⟨FF48, hFF48⟩ : ∃ f : Nat → Value, f = va_up FF47 50 (.ref q32) := ⟨_, rfl⟩
  have X : Hx D TT32 A s H locs ((h, .inr (12, (List.range 114).map FF48)) :: rr32) := by subst hFF48; exact Hx_set X obj_set hP hD hS
  refine lv_aload_n hx hb dX12_init_547 rfl (lv_at hl 0 rfl) ?_
  refine lv_sipush (v := (400 : Int32)) hx hb dX12_init_548 (by decide) ?_
  refine va_newa (a0 := (400, .inl (fun _ => 0))) (N' := 400) hx hb (hts _ q1_125) rfl X.1 X.2.1 X.2.2.1 X.2.2.2.1 X.2.2.2.2.1 (fun _ => rfl) (by decide) (by decide) (by decide) (Nat.le_of_ble_eq_true rfl) (Nat.le_of_ble_eq_true rfl) dX12_init_551 (fun q33 y33 H hK hP hD hS => ?_)
  obtain ⟨rr33, hrr33⟩ : ∃ r : va_W, r = rr32 ++ [(q33, .inl (y33, 400, .inl (fun _ => 0)))] := ⟨_, rfl⟩
  obtain ⟨TT33, hTT33⟩ : ∃ r : List (ClassId × FieldType), r = TT32 ++ [(y33, .int)] := ⟨_, rfl⟩
  have X : Hx D TT33 A s H locs ((h, .inr (12, (List.range 114).map FF48)) :: rr33) := by subst hrr33 hTT33; exact ⟨hK, hP, hD, hS, X.2.2.2.2⟩
  refine W.widen (k := 33) (n := 82037) (Nat.le_of_ble_eq_true rfl) (Nat.le_of_ble_eq_true rfl) ?_
  refine va_putF (D := D.1) (ci := 12) (v := .ref q33) (ty := tyX12 51) (C := RX12) (T := TX12) (N := 114) hx hb hts wi_X12 tyX12 tyX12_ok nmX12 hown X.1 X.2.1 X.2.2.1 X.2.2.2.1 0 rfl rfl 51 (by decide) (hts _ q6_226) (fun _ h9 => h9) rfl hin rfl (by decide +kernel) rfl rfl (by rw [List.length_map, List.length_range]; decide) dX12_init_553 (fun H locs hP hD hS => ?_)
  obtain ⟨FF49, hFF49⟩ : ∃ f : Nat → Value, f = va_up FF48 51 (.ref q33) := ⟨_, rfl⟩
  have X : Hx D TT33 A s H locs ((h, .inr (12, (List.range 114).map FF49)) :: rr33) := by subst hFF49; exact Hx_set X obj_set hP hD hS
  refine lv_aload_n hx hb dX12_init_556 rfl (lv_at hl 0 rfl) ?_
  refine lv_sipush (v := (400 : Int32)) hx hb dX12_init_557 (by decide) ?_
  refine va_newa (a0 := (400, .inl (fun _ => 0))) (N' := 400) hx hb (hts _ q1_125) rfl X.1 X.2.1 X.2.2.1 X.2.2.2.1 X.2.2.2.2.1 (fun _ => rfl) (by decide) (by decide) (by decide) (Nat.le_of_ble_eq_true rfl) (Nat.le_of_ble_eq_true rfl) dX12_init_560 (fun q34 y34 H hK hP hD hS => ?_)
  obtain ⟨rr34, hrr34⟩ : ∃ r : va_W, r = rr33 ++ [(q34, .inl (y34, 400, .inl (fun _ => 0)))] := ⟨_, rfl⟩
  obtain ⟨TT34, hTT34⟩ : ∃ r : List (ClassId × FieldType), r = TT33 ++ [(y34, .int)] := ⟨_, rfl⟩
  have X : Hx D TT34 A s H locs ((h, .inr (12, (List.range 114).map FF49)) :: rr34) := by subst hrr34 hTT34; exact ⟨hK, hP, hD, hS, X.2.2.2.2⟩
  refine W.widen (k := 34) (n := 82437) (Nat.le_of_ble_eq_true rfl) (Nat.le_of_ble_eq_true rfl) ?_
  refine va_putF (D := D.1) (ci := 12) (v := .ref q34) (ty := tyX12 52) (C := RX12) (T := TX12) (N := 114) hx hb hts wi_X12 tyX12 tyX12_ok nmX12 hown X.1 X.2.1 X.2.2.1 X.2.2.2.1 0 rfl rfl 52 (by decide) (hts _ q6_227) (fun _ h9 => h9) rfl hin rfl (by decide +kernel) rfl rfl (by rw [List.length_map, List.length_range]; decide) dX12_init_562 (fun H locs hP hD hS => ?_)
  obtain ⟨FF50, hFF50⟩ : ∃ f : Nat → Value, f = va_up FF49 52 (.ref q34) := ⟨_, rfl⟩
  have X : Hx D TT34 A s H locs ((h, .inr (12, (List.range 114).map FF50)) :: rr34) := by subst hFF50; exact Hx_set X obj_set hP hD hS
  refine lv_aload_n hx hb dX12_init_565 rfl (lv_at hl 0 rfl) ?_
  refine lv_sipush (v := (400 : Int32)) hx hb dX12_init_566 (by decide) ?_
  refine va_newa (a0 := (400, .inl (fun _ => 0))) (N' := 400) hx hb (hts _ q1_125) rfl X.1 X.2.1 X.2.2.1 X.2.2.2.1 X.2.2.2.2.1 (fun _ => rfl) (by decide) (by decide) (by decide) (Nat.le_of_ble_eq_true rfl) (Nat.le_of_ble_eq_true rfl) dX12_init_569 (fun q35 y35 H hK hP hD hS => ?_)
  obtain ⟨rr35, hrr35⟩ : ∃ r : va_W, r = rr34 ++ [(q35, .inl (y35, 400, .inl (fun _ => 0)))] := ⟨_, rfl⟩
  obtain ⟨TT35, hTT35⟩ : ∃ r : List (ClassId × FieldType), r = TT34 ++ [(y35, .int)] := ⟨_, rfl⟩
  have X : Hx D TT35 A s H locs ((h, .inr (12, (List.range 114).map FF50)) :: rr35) := by subst hrr35 hTT35; exact ⟨hK, hP, hD, hS, X.2.2.2.2⟩
  refine W.widen (k := 35) (n := 82837) (Nat.le_of_ble_eq_true rfl) (Nat.le_of_ble_eq_true rfl) ?_
  refine va_putF (D := D.1) (ci := 12) (v := .ref q35) (ty := tyX12 53) (C := RX12) (T := TX12) (N := 114) hx hb hts wi_X12 tyX12 tyX12_ok nmX12 hown X.1 X.2.1 X.2.2.1 X.2.2.2.1 0 rfl rfl 53 (by decide) (hts _ q6_228) (fun _ h9 => h9) rfl hin rfl (by decide +kernel) rfl rfl (by rw [List.length_map, List.length_range]; decide) dX12_init_571 (fun H locs hP hD hS => ?_)
  obtain ⟨FF51, hFF51⟩ : ∃ f : Nat → Value, f = va_up FF50 53 (.ref q35) := ⟨_, rfl⟩
  have X : Hx D TT35 A s H locs ((h, .inr (12, (List.range 114).map FF51)) :: rr35) := by subst hFF51; exact Hx_set X obj_set hP hD hS
  refine lv_aload_n hx hb dX12_init_574 rfl (lv_at hl 0 rfl) ?_
  refine lv_sipush (v := (400 : Int32)) hx hb dX12_init_575 (by decide) ?_
  refine va_newa (a0 := (400, .inl (fun _ => 0))) (N' := 400) hx hb (hts _ q1_125) rfl X.1 X.2.1 X.2.2.1 X.2.2.2.1 X.2.2.2.2.1 (fun _ => rfl) (by decide) (by decide) (by decide) (Nat.le_of_ble_eq_true rfl) (Nat.le_of_ble_eq_true rfl) dX12_init_578 (fun q36 y36 H hK hP hD hS => ?_)
  obtain ⟨rr36, hrr36⟩ : ∃ r : va_W, r = rr35 ++ [(q36, .inl (y36, 400, .inl (fun _ => 0)))] := ⟨_, rfl⟩
  obtain ⟨TT36, hTT36⟩ : ∃ r : List (ClassId × FieldType), r = TT35 ++ [(y36, .int)] := ⟨_, rfl⟩
  have X : Hx D TT36 A s H locs ((h, .inr (12, (List.range 114).map FF51)) :: rr36) := by subst hrr36 hTT36; exact ⟨hK, hP, hD, hS, X.2.2.2.2⟩
  refine W.widen (k := 36) (n := 83237) (Nat.le_of_ble_eq_true rfl) (Nat.le_of_ble_eq_true rfl) ?_
  refine va_putF (D := D.1) (ci := 12) (v := .ref q36) (ty := tyX12 54) (C := RX12) (T := TX12) (N := 114) hx hb hts wi_X12 tyX12 tyX12_ok nmX12 hown X.1 X.2.1 X.2.2.1 X.2.2.2.1 0 rfl rfl 54 (by decide) (hts _ q6_229) (fun _ h9 => h9) rfl hin rfl (by decide +kernel) rfl rfl (by rw [List.length_map, List.length_range]; decide) dX12_init_580 (fun H locs hP hD hS => ?_)
  obtain ⟨FF52, hFF52⟩ : ∃ f : Nat → Value, f = va_up FF51 54 (.ref q36) := ⟨_, rfl⟩
  have X : Hx D TT36 A s H locs ((h, .inr (12, (List.range 114).map FF52)) :: rr36) := by subst hFF52; exact Hx_set X obj_set hP hD hS
  refine lv_aload_n hx hb dX12_init_583 rfl (lv_at hl 0 rfl) ?_
  refine lv_sipush (v := (400 : Int32)) hx hb dX12_init_584 (by decide) ?_
  refine va_newa (a0 := (400, .inl (fun _ => 0))) (N' := 400) hx hb (hts _ q1_125) rfl X.1 X.2.1 X.2.2.1 X.2.2.2.1 X.2.2.2.2.1 (fun _ => rfl) (by decide) (by decide) (by decide) (Nat.le_of_ble_eq_true rfl) (Nat.le_of_ble_eq_true rfl) dX12_init_587 (fun q37 y37 H hK hP hD hS => ?_)
  obtain ⟨rr37, hrr37⟩ : ∃ r : va_W, r = rr36 ++ [(q37, .inl (y37, 400, .inl (fun _ => 0)))] := ⟨_, rfl⟩
  obtain ⟨TT37, hTT37⟩ : ∃ r : List (ClassId × FieldType), r = TT36 ++ [(y37, .int)] := ⟨_, rfl⟩
  have X : Hx D TT37 A s H locs ((h, .inr (12, (List.range 114).map FF52)) :: rr37) := by subst hrr37 hTT37; exact ⟨hK, hP, hD, hS, X.2.2.2.2⟩
  refine W.widen (k := 37) (n := 83637) (Nat.le_of_ble_eq_true rfl) (Nat.le_of_ble_eq_true rfl) ?_
  refine va_putF (D := D.1) (ci := 12) (v := .ref q37) (ty := tyX12 55) (C := RX12) (T := TX12) (N := 114) hx hb hts wi_X12 tyX12 tyX12_ok nmX12 hown X.1 X.2.1 X.2.2.1 X.2.2.2.1 0 rfl rfl 55 (by decide) (hts _ q6_230) (fun _ h9 => h9) rfl hin rfl (by decide +kernel) rfl rfl (by rw [List.length_map, List.length_range]; decide) dX12_init_589 (fun H locs hP hD hS => ?_)
  obtain ⟨FF53, hFF53⟩ : ∃ f : Nat → Value, f = va_up FF52 55 (.ref q37) := ⟨_, rfl⟩
  have X : Hx D TT37 A s H locs ((h, .inr (12, (List.range 114).map FF53)) :: rr37) := by subst hFF53; exact Hx_set X obj_set hP hD hS
  refine lv_aload_n hx hb dX12_init_592 rfl (lv_at hl 0 rfl) ?_
  refine lv_sipush (v := (1600 : Int32)) hx hb dX12_init_593 (by decide) ?_
  refine va_newa (a0 := (1600, .inr (.inl (fun _ => 0)))) (N' := 1600) hx hb (hts _ q1_124) rfl X.1 X.2.1 X.2.2.1 X.2.2.2.1 X.2.2.2.2.1 (fun _ => rfl) (by decide) (by decide) (by decide) (Nat.le_of_ble_eq_true rfl) (Nat.le_of_ble_eq_true rfl) dX12_init_596 (fun q38 y38 H hK hP hD hS => ?_)
  obtain ⟨rr38, hrr38⟩ : ∃ r : va_W, r = rr37 ++ [(q38, .inl (y38, 1600, .inr (.inl (fun _ => 0))))] := ⟨_, rfl⟩
  obtain ⟨TT38, hTT38⟩ : ∃ r : List (ClassId × FieldType), r = TT37 ++ [(y38, .long)] := ⟨_, rfl⟩
  have X : Hx D TT38 A s H locs ((h, .inr (12, (List.range 114).map FF53)) :: rr38) := by subst hrr38 hTT38; exact ⟨hK, hP, hD, hS, X.2.2.2.2⟩
  refine W.widen (k := 38) (n := 85237) (Nat.le_of_ble_eq_true rfl) (Nat.le_of_ble_eq_true rfl) ?_
  refine va_putF (D := D.1) (ci := 12) (v := .ref q38) (ty := tyX12 56) (C := RX12) (T := TX12) (N := 114) hx hb hts wi_X12 tyX12 tyX12_ok nmX12 hown X.1 X.2.1 X.2.2.1 X.2.2.2.1 0 rfl rfl 56 (by decide) (hts _ q6_231) (fun _ h9 => h9) rfl hin rfl (by decide +kernel) rfl rfl (by rw [List.length_map, List.length_range]; decide) dX12_init_598 (fun H locs hP hD hS => ?_)
  obtain ⟨FF54, hFF54⟩ : ∃ f : Nat → Value, f = va_up FF53 56 (.ref q38) := ⟨_, rfl⟩
  have X : Hx D TT38 A s H locs ((h, .inr (12, (List.range 114).map FF54)) :: rr38) := by subst hFF54; exact Hx_set X obj_set hP hD hS
  refine lv_aload_n hx hb dX12_init_601 rfl (lv_at hl 0 rfl) ?_
  refine lv_sipush (v := (400 : Int32)) hx hb dX12_init_602 (by decide) ?_
  refine va_newa (a0 := (400, .inl (fun _ => 0))) (N' := 400) hx hb (hts _ q1_125) rfl X.1 X.2.1 X.2.2.1 X.2.2.2.1 X.2.2.2.2.1 (fun _ => rfl) (by decide) (by decide) (by decide) (Nat.le_of_ble_eq_true rfl) (Nat.le_of_ble_eq_true rfl) dX12_init_605 (fun q39 y39 H hK hP hD hS => ?_)
  obtain ⟨rr39, hrr39⟩ : ∃ r : va_W, r = rr38 ++ [(q39, .inl (y39, 400, .inl (fun _ => 0)))] := ⟨_, rfl⟩
  obtain ⟨TT39, hTT39⟩ : ∃ r : List (ClassId × FieldType), r = TT38 ++ [(y39, .int)] := ⟨_, rfl⟩
  have X : Hx D TT39 A s H locs ((h, .inr (12, (List.range 114).map FF54)) :: rr39) := by subst hrr39 hTT39; exact ⟨hK, hP, hD, hS, X.2.2.2.2⟩
  refine W.widen (k := 39) (n := 85637) (Nat.le_of_ble_eq_true rfl) (Nat.le_of_ble_eq_true rfl) ?_
  refine va_putF (D := D.1) (ci := 12) (v := .ref q39) (ty := tyX12 57) (C := RX12) (T := TX12) (N := 114) hx hb hts wi_X12 tyX12 tyX12_ok nmX12 hown X.1 X.2.1 X.2.2.1 X.2.2.2.1 0 rfl rfl 57 (by decide) (hts _ q6_232) (fun _ h9 => h9) rfl hin rfl (by decide +kernel) rfl rfl (by rw [List.length_map, List.length_range]; decide) dX12_init_607 (fun H locs hP hD hS => ?_)
  obtain ⟨FF55, hFF55⟩ : ∃ f : Nat → Value, f = va_up FF54 57 (.ref q39) := ⟨_, rfl⟩
  have X : Hx D TT39 A s H locs ((h, .inr (12, (List.range 114).map FF55)) :: rr39) := by subst hFF55; exact Hx_set X obj_set hP hD hS
  refine lv_aload_n hx hb dX12_init_610 rfl (lv_at hl 0 rfl) ?_
  refine lv_iconst (v := (0 : Int32)) hx hb dX12_init_611 (by decide) ?_
  refine va_put (D := D.1) (ci := 12) (v := .int (0 : Int32)) (ty := tyX12 58) (C := RX12) (T := TX12) (N := 114) hx hb hts wi_X12 tyX12 tyX12_ok nmX12 hown X.1 X.2.1 X.2.2.1 X.2.2.2.1 0 rfl rfl 58 (by decide) (hts _ q6_233) (fun _ h9 => h9) rfl (by decide +kernel) rfl rfl (by rw [List.length_map, List.length_range]; decide) dX12_init_612 (fun H locs hP hD hS => ?_)
  obtain ⟨FF56, hFF56⟩ : ∃ f : Nat → Value, f = va_up FF55 58 (.int (0 : Int32)) := ⟨_, rfl⟩
  have X : Hx D TT39 A s H locs ((h, .inr (12, (List.range 114).map FF56)) :: rr39) := by subst hFF56; exact Hx_set X obj_set hP hD hS
  refine lv_aload_n hx hb dX12_init_615 rfl (lv_at hl 0 rfl) ?_
  refine lv_iconst (v := (0 : Int32)) hx hb dX12_init_616 (by decide) ?_
  refine va_put (D := D.1) (ci := 12) (v := .int (0 : Int32)) (ty := tyX12 59) (C := RX12) (T := TX12) (N := 114) hx hb hts wi_X12 tyX12 tyX12_ok nmX12 hown X.1 X.2.1 X.2.2.1 X.2.2.2.1 0 rfl rfl 59 (by decide) (hts _ q6_234) (fun _ h9 => h9) rfl (by decide +kernel) rfl rfl (by rw [List.length_map, List.length_range]; decide) dX12_init_617 (fun H locs hP hD hS => ?_)
  obtain ⟨FF57, hFF57⟩ : ∃ f : Nat → Value, f = va_up FF56 59 (.int (0 : Int32)) := ⟨_, rfl⟩
  have X : Hx D TT39 A s H locs ((h, .inr (12, (List.range 114).map FF57)) :: rr39) := by subst hFF57; exact Hx_set X obj_set hP hD hS
  refine lv_aload_n hx hb dX12_init_620 rfl (lv_at hl 0 rfl) ?_
  refine lv_iconst (v := (0 : Int32)) hx hb dX12_init_621 (by decide) ?_
  refine va_put (D := D.1) (ci := 12) (v := .int (0 : Int32)) (ty := tyX12 60) (C := RX12) (T := TX12) (N := 114) hx hb hts wi_X12 tyX12 tyX12_ok nmX12 hown X.1 X.2.1 X.2.2.1 X.2.2.2.1 0 rfl rfl 60 (by decide) (hts _ q6_235) (fun _ h9 => h9) rfl (by decide +kernel) rfl rfl (by rw [List.length_map, List.length_range]; decide) dX12_init_622 (fun H locs hP hD hS => ?_)
  obtain ⟨FF58, hFF58⟩ : ∃ f : Nat → Value, f = va_up FF57 60 (.int (0 : Int32)) := ⟨_, rfl⟩
  have X : Hx D TT39 A s H locs ((h, .inr (12, (List.range 114).map FF58)) :: rr39) := by subst hFF58; exact Hx_set X obj_set hP hD hS
  refine lv_aload_n hx hb dX12_init_625 rfl (lv_at hl 0 rfl) ?_
  refine lv_iconst (v := (0 : Int32)) hx hb dX12_init_626 (by decide) ?_
  refine va_put (D := D.1) (ci := 12) (v := .int (0 : Int32)) (ty := tyX12 61) (C := RX12) (T := TX12) (N := 114) hx hb hts wi_X12 tyX12 tyX12_ok nmX12 hown X.1 X.2.1 X.2.2.1 X.2.2.2.1 0 rfl rfl 61 (by decide) (hts _ q6_236) (fun _ h9 => h9) rfl (by decide +kernel) rfl rfl (by rw [List.length_map, List.length_range]; decide) dX12_init_627 (fun H locs hP hD hS => ?_)
  obtain ⟨FF59, hFF59⟩ : ∃ f : Nat → Value, f = va_up FF58 61 (.int (0 : Int32)) := ⟨_, rfl⟩
  have X : Hx D TT39 A s H locs ((h, .inr (12, (List.range 114).map FF59)) :: rr39) := by subst hFF59; exact Hx_set X obj_set hP hD hS
  refine lv_aload_n hx hb dX12_init_630 rfl (lv_at hl 0 rfl) ?_
  refine lv_iconst (v := (0 : Int32)) hx hb dX12_init_631 (by decide) ?_
  refine va_put (D := D.1) (ci := 12) (v := .int (0 : Int32)) (ty := tyX12 62) (C := RX12) (T := TX12) (N := 114) hx hb hts wi_X12 tyX12 tyX12_ok nmX12 hown X.1 X.2.1 X.2.2.1 X.2.2.2.1 0 rfl rfl 62 (by decide) (hts _ q6_237) (fun _ h9 => h9) rfl (by decide +kernel) rfl rfl (by rw [List.length_map, List.length_range]; decide) dX12_init_632 (fun H locs hP hD hS => ?_)
  obtain ⟨FF60, hFF60⟩ : ∃ f : Nat → Value, f = va_up FF59 62 (.int (0 : Int32)) := ⟨_, rfl⟩
  have X : Hx D TT39 A s H locs ((h, .inr (12, (List.range 114).map FF60)) :: rr39) := by subst hFF60; exact Hx_set X obj_set hP hD hS
  refine lv_aload_n hx hb dX12_init_635 rfl (lv_at hl 0 rfl) ?_
  refine lv_iconst (v := (0 : Int32)) hx hb dX12_init_636 (by decide) ?_
  refine va_put (D := D.1) (ci := 12) (v := .int (0 : Int32)) (ty := tyX12 63) (C := RX12) (T := TX12) (N := 114) hx hb hts wi_X12 tyX12 tyX12_ok nmX12 hown X.1 X.2.1 X.2.2.1 X.2.2.2.1 0 rfl rfl 63 (by decide) (hts _ q6_238) (fun _ h9 => h9) rfl (by decide +kernel) rfl rfl (by rw [List.length_map, List.length_range]; decide) dX12_init_637 (fun H locs hP hD hS => ?_)
  obtain ⟨FF61, hFF61⟩ : ∃ f : Nat → Value, f = va_up FF60 63 (.int (0 : Int32)) := ⟨_, rfl⟩
  have X : Hx D TT39 A s H locs ((h, .inr (12, (List.range 114).map FF61)) :: rr39) := by subst hFF61; exact Hx_set X obj_set hP hD hS
  refine lv_aload_n hx hb dX12_init_640 rfl (lv_at hl 0 rfl) ?_
  refine lv_iconst (v := (0 : Int32)) hx hb dX12_init_641 (by decide) ?_
  refine va_put (D := D.1) (ci := 12) (v := .int (0 : Int32)) (ty := tyX12 64) (C := RX12) (T := TX12) (N := 114) hx hb hts wi_X12 tyX12 tyX12_ok nmX12 hown X.1 X.2.1 X.2.2.1 X.2.2.2.1 0 rfl rfl 64 (by decide) (hts _ q6_239) (fun _ h9 => h9) rfl (by decide +kernel) rfl rfl (by rw [List.length_map, List.length_range]; decide) dX12_init_642 (fun H locs hP hD hS => ?_)
  obtain ⟨FF62, hFF62⟩ : ∃ f : Nat → Value, f = va_up FF61 64 (.int (0 : Int32)) := ⟨_, rfl⟩
  have X : Hx D TT39 A s H locs ((h, .inr (12, (List.range 114).map FF62)) :: rr39) := by subst hFF62; exact Hx_set X obj_set hP hD hS
  refine lv_aload_n hx hb dX12_init_645 rfl (lv_at hl 0 rfl) ?_
  refine lv_sipush (v := (600 : Int32)) hx hb dX12_init_646 (by decide) ?_
  refine va_newa (a0 := (600, .inl (fun _ => 0))) (N' := 600) hx hb (hts _ q1_45) rfl X.1 X.2.1 X.2.2.1 X.2.2.2.1 X.2.2.2.2.1 (fun _ => rfl) (by decide) (by decide) (by decide) (Nat.le_of_ble_eq_true rfl) (Nat.le_of_ble_eq_true rfl) dX12_init_649 (fun q40 y40 H hK hP hD hS => ?_)
  obtain ⟨rr40, hrr40⟩ : ∃ r : va_W, r = rr39 ++ [(q40, .inl (y40, 600, .inl (fun _ => 0)))] := ⟨_, rfl⟩
  obtain ⟨TT40, hTT40⟩ : ∃ r : List (ClassId × FieldType), r = TT39 ++ [(y40, .byte)] := ⟨_, rfl⟩
  have X : Hx D TT40 A s H locs ((h, .inr (12, (List.range 114).map FF62)) :: rr40) := by subst hrr40 hTT40; exact ⟨hK, hP, hD, hS, X.2.2.2.2⟩
  refine W.widen (k := 40) (n := 86237) (Nat.le_of_ble_eq_true rfl) (Nat.le_of_ble_eq_true rfl) ?_
  refine va_putF (D := D.1) (ci := 12) (v := .ref q40) (ty := tyX12 65) (C := RX12) (T := TX12) (N := 114) hx hb hts wi_X12 tyX12 tyX12_ok nmX12 hown X.1 X.2.1 X.2.2.1 X.2.2.2.1 0 rfl rfl 65 (by decide) (hts _ q7_0) (fun _ h9 => h9) rfl hin rfl (by decide +kernel) rfl rfl (by rw [List.length_map, List.length_range]; decide) dX12_init_651 (fun H locs hP hD hS => ?_)
  obtain ⟨FF63, hFF63⟩ : ∃ f : Nat → Value, f = va_up FF62 65 (.ref q40) := ⟨_, rfl⟩
  have X : Hx D TT40 A s H locs ((h, .inr (12, (List.range 114).map FF63)) :: rr40) := by subst hFF63; exact Hx_set X obj_set hP hD hS
  refine lv_aload_n hx hb dX12_init_654 rfl (lv_at hl 0 rfl) ?_
  refine lv_bipush (v := (60 : Int32)) hx hb dX12_init_655 (by decide) ?_
  refine va_newa (a0 := (60, .inl (fun _ => 0))) (N' := 60) hx hb (hts _ q1_125) rfl X.1 X.2.1 X.2.2.1 X.2.2.2.1 X.2.2.2.2.1 (fun _ => rfl) (by decide) (by decide) (by decide) (Nat.le_of_ble_eq_true rfl) (Nat.le_of_ble_eq_true rfl) dX12_init_657 (fun q41 y41 H hK hP hD hS => ?_)
  obtain ⟨rr41, hrr41⟩ : ∃ r : va_W, r = rr40 ++ [(q41, .inl (y41, 60, .inl (fun _ => 0)))] := ⟨_, rfl⟩
  obtain ⟨TT41, hTT41⟩ : ∃ r : List (ClassId × FieldType), r = TT40 ++ [(y41, .int)] := ⟨_, rfl⟩
  have X : Hx D TT41 A s H locs ((h, .inr (12, (List.range 114).map FF63)) :: rr41) := by subst hrr41 hTT41; exact ⟨hK, hP, hD, hS, X.2.2.2.2⟩
  refine W.widen (k := 41) (n := 86297) (Nat.le_of_ble_eq_true rfl) (Nat.le_of_ble_eq_true rfl) ?_
  refine va_putF (D := D.1) (ci := 12) (v := .ref q41) (ty := tyX12 66) (C := RX12) (T := TX12) (N := 114) hx hb hts wi_X12 tyX12 tyX12_ok nmX12 hown X.1 X.2.1 X.2.2.1 X.2.2.2.1 0 rfl rfl 66 (by decide) (hts _ q7_1) (fun _ h9 => h9) rfl hin rfl (by decide +kernel) rfl rfl (by rw [List.length_map, List.length_range]; decide) dX12_init_659 (fun H locs hP hD hS => ?_)
  obtain ⟨FF64, hFF64⟩ : ∃ f : Nat → Value, f = va_up FF63 66 (.ref q41) := ⟨_, rfl⟩
  have X : Hx D TT41 A s H locs ((h, .inr (12, (List.range 114).map FF64)) :: rr41) := by subst hFF64; exact Hx_set X obj_set hP hD hS
  refine lv_aload_n hx hb dX12_init_662 rfl (lv_at hl 0 rfl) ?_
  refine lv_bipush (v := (40 : Int32)) hx hb dX12_init_663 (by decide) ?_
  refine va_newa (a0 := (40, .inl (fun _ => 0))) (N' := 40) hx hb (hts _ q1_125) rfl X.1 X.2.1 X.2.2.1 X.2.2.2.1 X.2.2.2.2.1 (fun _ => rfl) (by decide) (by decide) (by decide) (Nat.le_of_ble_eq_true rfl) (Nat.le_of_ble_eq_true rfl) dX12_init_665 (fun q42 y42 H hK hP hD hS => ?_)
  obtain ⟨rr42, hrr42⟩ : ∃ r : va_W, r = rr41 ++ [(q42, .inl (y42, 40, .inl (fun _ => 0)))] := ⟨_, rfl⟩
  obtain ⟨TT42, hTT42⟩ : ∃ r : List (ClassId × FieldType), r = TT41 ++ [(y42, .int)] := ⟨_, rfl⟩
  have X : Hx D TT42 A s H locs ((h, .inr (12, (List.range 114).map FF64)) :: rr42) := by subst hrr42 hTT42; exact ⟨hK, hP, hD, hS, X.2.2.2.2⟩
  refine W.widen (k := 42) (n := 86337) (Nat.le_of_ble_eq_true rfl) (Nat.le_of_ble_eq_true rfl) ?_
  refine va_putF (D := D.1) (ci := 12) (v := .ref q42) (ty := tyX12 67) (C := RX12) (T := TX12) (N := 114) hx hb hts wi_X12 tyX12 tyX12_ok nmX12 hown X.1 X.2.1 X.2.2.1 X.2.2.2.1 0 rfl rfl 67 (by decide) (hts _ q7_2) (fun _ h9 => h9) rfl hin rfl (by decide +kernel) rfl rfl (by rw [List.length_map, List.length_range]; decide) dX12_init_667 (fun H locs hP hD hS => ?_)
  obtain ⟨FF65, hFF65⟩ : ∃ f : Nat → Value, f = va_up FF64 67 (.ref q42) := ⟨_, rfl⟩
  have X : Hx D TT42 A s H locs ((h, .inr (12, (List.range 114).map FF65)) :: rr42) := by subst hFF65; exact Hx_set X obj_set hP hD hS
  refine lv_aload_n hx hb dX12_init_670 rfl (lv_at hl 0 rfl) ?_
  refine lv_bipush (v := (40 : Int32)) hx hb dX12_init_671 (by decide) ?_
  refine va_newa (a0 := (40, .inl (fun _ => 0))) (N' := 40) hx hb (hts _ q2_147) rfl X.1 X.2.1 X.2.2.1 X.2.2.2.1 X.2.2.2.2.1 (fun _ => rfl) (by decide) (by decide) (by decide) (Nat.le_of_ble_eq_true rfl) (Nat.le_of_ble_eq_true rfl) dX12_init_673 (fun q43 y43 H hK hP hD hS => ?_)
  obtain ⟨rr43, hrr43⟩ : ∃ r : va_W, r = rr42 ++ [(q43, .inl (y43, 40, .inl (fun _ => 0)))] := ⟨_, rfl⟩
  obtain ⟨TT43, hTT43⟩ : ∃ r : List (ClassId × FieldType), r = TT42 ++ [(y43, .boolean)] := ⟨_, rfl⟩
  have X : Hx D TT43 A s H locs ((h, .inr (12, (List.range 114).map FF65)) :: rr43) := by subst hrr43 hTT43; exact ⟨hK, hP, hD, hS, X.2.2.2.2⟩
  refine W.widen (k := 43) (n := 86377) (Nat.le_of_ble_eq_true rfl) (Nat.le_of_ble_eq_true rfl) ?_
  refine va_putF (D := D.1) (ci := 12) (v := .ref q43) (ty := tyX12 68) (C := RX12) (T := TX12) (N := 114) hx hb hts wi_X12 tyX12 tyX12_ok nmX12 hown X.1 X.2.1 X.2.2.1 X.2.2.2.1 0 rfl rfl 68 (by decide) (hts _ q7_3) (fun _ h9 => h9) rfl hin rfl (by decide +kernel) rfl rfl (by rw [List.length_map, List.length_range]; decide) dX12_init_675 (fun H locs hP hD hS => ?_)
  obtain ⟨FF66, hFF66⟩ : ∃ f : Nat → Value, f = va_up FF65 68 (.ref q43) := ⟨_, rfl⟩
  have X : Hx D TT43 A s H locs ((h, .inr (12, (List.range 114).map FF66)) :: rr43) := by subst hFF66; exact Hx_set X obj_set hP hD hS
  refine lv_aload_n hx hb dX12_init_678 rfl (lv_at hl 0 rfl) ?_
  refine lv_bipush (v := (40 : Int32)) hx hb dX12_init_679 (by decide) ?_
  refine va_newa (a0 := (40, .inl (fun _ => 0))) (N' := 40) hx hb (hts _ q1_125) rfl X.1 X.2.1 X.2.2.1 X.2.2.2.1 X.2.2.2.2.1 (fun _ => rfl) (by decide) (by decide) (by decide) (Nat.le_of_ble_eq_true rfl) (Nat.le_of_ble_eq_true rfl) dX12_init_681 (fun q44 y44 H hK hP hD hS => ?_)
  obtain ⟨rr44, hrr44⟩ : ∃ r : va_W, r = rr43 ++ [(q44, .inl (y44, 40, .inl (fun _ => 0)))] := ⟨_, rfl⟩
  obtain ⟨TT44, hTT44⟩ : ∃ r : List (ClassId × FieldType), r = TT43 ++ [(y44, .int)] := ⟨_, rfl⟩
  have X : Hx D TT44 A s H locs ((h, .inr (12, (List.range 114).map FF66)) :: rr44) := by subst hrr44 hTT44; exact ⟨hK, hP, hD, hS, X.2.2.2.2⟩
  refine W.widen (k := 44) (n := 86417) (Nat.le_of_ble_eq_true rfl) (Nat.le_of_ble_eq_true rfl) ?_
  refine va_putF (D := D.1) (ci := 12) (v := .ref q44) (ty := tyX12 69) (C := RX12) (T := TX12) (N := 114) hx hb hts wi_X12 tyX12 tyX12_ok nmX12 hown X.1 X.2.1 X.2.2.1 X.2.2.2.1 0 rfl rfl 69 (by decide) (hts _ q7_4) (fun _ h9 => h9) rfl hin rfl (by decide +kernel) rfl rfl (by rw [List.length_map, List.length_range]; decide) dX12_init_683 (fun H locs hP hD hS => ?_)
  obtain ⟨FF67, hFF67⟩ : ∃ f : Nat → Value, f = va_up FF66 69 (.ref q44) := ⟨_, rfl⟩
  have X : Hx D TT44 A s H locs ((h, .inr (12, (List.range 114).map FF67)) :: rr44) := by subst hFF67; exact Hx_set X obj_set hP hD hS
  refine lv_aload_n hx hb dX12_init_686 rfl (lv_at hl 0 rfl) ?_
  refine lv_bipush (v := (40 : Int32)) hx hb dX12_init_687 (by decide) ?_
  refine va_newa (a0 := (40, .inl (fun _ => 0))) (N' := 40) hx hb (hts _ q1_125) rfl X.1 X.2.1 X.2.2.1 X.2.2.2.1 X.2.2.2.2.1 (fun _ => rfl) (by decide) (by decide) (by decide) (Nat.le_of_ble_eq_true rfl) (Nat.le_of_ble_eq_true rfl) dX12_init_689 (fun q45 y45 H hK hP hD hS => ?_)
  obtain ⟨rr45, hrr45⟩ : ∃ r : va_W, r = rr44 ++ [(q45, .inl (y45, 40, .inl (fun _ => 0)))] := ⟨_, rfl⟩
  obtain ⟨TT45, hTT45⟩ : ∃ r : List (ClassId × FieldType), r = TT44 ++ [(y45, .int)] := ⟨_, rfl⟩
  have X : Hx D TT45 A s H locs ((h, .inr (12, (List.range 114).map FF67)) :: rr45) := by subst hrr45 hTT45; exact ⟨hK, hP, hD, hS, X.2.2.2.2⟩
  refine W.widen (k := 45) (n := 86457) (Nat.le_of_ble_eq_true rfl) (Nat.le_of_ble_eq_true rfl) ?_
  refine va_putF (D := D.1) (ci := 12) (v := .ref q45) (ty := tyX12 70) (C := RX12) (T := TX12) (N := 114) hx hb hts wi_X12 tyX12 tyX12_ok nmX12 hown X.1 X.2.1 X.2.2.1 X.2.2.2.1 0 rfl rfl 70 (by decide) (hts _ q7_5) (fun _ h9 => h9) rfl hin rfl (by decide +kernel) rfl rfl (by rw [List.length_map, List.length_range]; decide) dX12_init_691 (fun H locs hP hD hS => ?_)
  obtain ⟨FF68, hFF68⟩ : ∃ f : Nat → Value, f = va_up FF67 70 (.ref q45) := ⟨_, rfl⟩
  have X : Hx D TT45 A s H locs ((h, .inr (12, (List.range 114).map FF68)) :: rr45) := by subst hFF68; exact Hx_set X obj_set hP hD hS
  refine lv_aload_n hx hb dX12_init_694 rfl (lv_at hl 0 rfl) ?_
  refine lv_bipush (v := (40 : Int32)) hx hb dX12_init_695 (by decide) ?_
  refine va_newa (a0 := (40, .inl (fun _ => 0))) (N' := 40) hx hb (hts _ q1_125) rfl X.1 X.2.1 X.2.2.1 X.2.2.2.1 X.2.2.2.2.1 (fun _ => rfl) (by decide) (by decide) (by decide) (Nat.le_of_ble_eq_true rfl) (Nat.le_of_ble_eq_true rfl) dX12_init_697 (fun q46 y46 H hK hP hD hS => ?_)
  obtain ⟨rr46, hrr46⟩ : ∃ r : va_W, r = rr45 ++ [(q46, .inl (y46, 40, .inl (fun _ => 0)))] := ⟨_, rfl⟩
  obtain ⟨TT46, hTT46⟩ : ∃ r : List (ClassId × FieldType), r = TT45 ++ [(y46, .int)] := ⟨_, rfl⟩
  have X : Hx D TT46 A s H locs ((h, .inr (12, (List.range 114).map FF68)) :: rr46) := by subst hrr46 hTT46; exact ⟨hK, hP, hD, hS, X.2.2.2.2⟩
  refine W.widen (k := 46) (n := 86497) (Nat.le_of_ble_eq_true rfl) (Nat.le_of_ble_eq_true rfl) ?_
  refine va_putF (D := D.1) (ci := 12) (v := .ref q46) (ty := tyX12 71) (C := RX12) (T := TX12) (N := 114) hx hb hts wi_X12 tyX12 tyX12_ok nmX12 hown X.1 X.2.1 X.2.2.1 X.2.2.2.1 0 rfl rfl 71 (by decide) (hts _ q7_6) (fun _ h9 => h9) rfl hin rfl (by decide +kernel) rfl rfl (by rw [List.length_map, List.length_range]; decide) dX12_init_699 (fun H locs hP hD hS => ?_)
  obtain ⟨FF69, hFF69⟩ : ∃ f : Nat → Value, f = va_up FF68 71 (.ref q46) := ⟨_, rfl⟩
  have X : Hx D TT46 A s H locs ((h, .inr (12, (List.range 114).map FF69)) :: rr46) := by subst hFF69; exact Hx_set X obj_set hP hD hS
  refine lv_aload_n hx hb dX12_init_702 rfl (lv_at hl 0 rfl) ?_
  refine lv_bipush (v := (40 : Int32)) hx hb dX12_init_703 (by decide) ?_
  refine va_newa (a0 := (40, .inl (fun _ => 0))) (N' := 40) hx hb (hts _ q1_125) rfl X.1 X.2.1 X.2.2.1 X.2.2.2.1 X.2.2.2.2.1 (fun _ => rfl) (by decide) (by decide) (by decide) (Nat.le_of_ble_eq_true rfl) (Nat.le_of_ble_eq_true rfl) dX12_init_705 (fun q47 y47 H hK hP hD hS => ?_)
  obtain ⟨rr47, hrr47⟩ : ∃ r : va_W, r = rr46 ++ [(q47, .inl (y47, 40, .inl (fun _ => 0)))] := ⟨_, rfl⟩
  obtain ⟨TT47, hTT47⟩ : ∃ r : List (ClassId × FieldType), r = TT46 ++ [(y47, .int)] := ⟨_, rfl⟩
  have X : Hx D TT47 A s H locs ((h, .inr (12, (List.range 114).map FF69)) :: rr47) := by subst hrr47 hTT47; exact ⟨hK, hP, hD, hS, X.2.2.2.2⟩
  refine W.widen (k := 47) (n := 86537) (Nat.le_of_ble_eq_true rfl) (Nat.le_of_ble_eq_true rfl) ?_
  refine va_putF (D := D.1) (ci := 12) (v := .ref q47) (ty := tyX12 72) (C := RX12) (T := TX12) (N := 114) hx hb hts wi_X12 tyX12 tyX12_ok nmX12 hown X.1 X.2.1 X.2.2.1 X.2.2.2.1 0 rfl rfl 72 (by decide) (hts _ q7_7) (fun _ h9 => h9) rfl hin rfl (by decide +kernel) rfl rfl (by rw [List.length_map, List.length_range]; decide) dX12_init_707 (fun H locs hP hD hS => ?_)
  obtain ⟨FF70, hFF70⟩ : ∃ f : Nat → Value, f = va_up FF69 72 (.ref q47) := ⟨_, rfl⟩
  have X : Hx D TT47 A s H locs ((h, .inr (12, (List.range 114).map FF70)) :: rr47) := by subst hFF70; exact Hx_set X obj_set hP hD hS
  refine lv_aload_n hx hb dX12_init_710 rfl (lv_at hl 0 rfl) ?_
  refine lv_bipush (v := (40 : Int32)) hx hb dX12_init_711 (by decide) ?_
  refine va_newa (a0 := (40, .inl (fun _ => 0))) (N' := 40) hx hb (hts _ q1_125) rfl X.1 X.2.1 X.2.2.1 X.2.2.2.1 X.2.2.2.2.1 (fun _ => rfl) (by decide) (by decide) (by decide) (Nat.le_of_ble_eq_true rfl) (Nat.le_of_ble_eq_true rfl) dX12_init_713 (fun q48 y48 H hK hP hD hS => ?_)
  obtain ⟨rr48, hrr48⟩ : ∃ r : va_W, r = rr47 ++ [(q48, .inl (y48, 40, .inl (fun _ => 0)))] := ⟨_, rfl⟩
  obtain ⟨TT48, hTT48⟩ : ∃ r : List (ClassId × FieldType), r = TT47 ++ [(y48, .int)] := ⟨_, rfl⟩
  have X : Hx D TT48 A s H locs ((h, .inr (12, (List.range 114).map FF70)) :: rr48) := by subst hrr48 hTT48; exact ⟨hK, hP, hD, hS, X.2.2.2.2⟩
  refine W.widen (k := 48) (n := 86577) (Nat.le_of_ble_eq_true rfl) (Nat.le_of_ble_eq_true rfl) ?_
  refine va_putF (D := D.1) (ci := 12) (v := .ref q48) (ty := tyX12 73) (C := RX12) (T := TX12) (N := 114) hx hb hts wi_X12 tyX12 tyX12_ok nmX12 hown X.1 X.2.1 X.2.2.1 X.2.2.2.1 0 rfl rfl 73 (by decide) (hts _ q7_8) (fun _ h9 => h9) rfl hin rfl (by decide +kernel) rfl rfl (by rw [List.length_map, List.length_range]; decide) dX12_init_715 (fun H locs hP hD hS => ?_)
  obtain ⟨FF71, hFF71⟩ : ∃ f : Nat → Value, f = va_up FF70 73 (.ref q48) := ⟨_, rfl⟩
  have X : Hx D TT48 A s H locs ((h, .inr (12, (List.range 114).map FF71)) :: rr48) := by subst hFF71; exact Hx_set X obj_set hP hD hS
  refine lv_aload_n hx hb dX12_init_718 rfl (lv_at hl 0 rfl) ?_
  refine lv_bipush (v := (12 : Int32)) hx hb dX12_init_719 (by decide) ?_
  refine va_newa (a0 := (12, .inl (fun _ => 0))) (N' := 12) hx hb (hts _ q1_125) rfl X.1 X.2.1 X.2.2.1 X.2.2.2.1 X.2.2.2.2.1 (fun _ => rfl) (by decide) (by decide) (by decide) (Nat.le_of_ble_eq_true rfl) (Nat.le_of_ble_eq_true rfl) dX12_init_721 (fun q49 y49 H hK hP hD hS => ?_)
  obtain ⟨rr49, hrr49⟩ : ∃ r : va_W, r = rr48 ++ [(q49, .inl (y49, 12, .inl (fun _ => 0)))] := ⟨_, rfl⟩
  obtain ⟨TT49, hTT49⟩ : ∃ r : List (ClassId × FieldType), r = TT48 ++ [(y49, .int)] := ⟨_, rfl⟩
  have X : Hx D TT49 A s H locs ((h, .inr (12, (List.range 114).map FF71)) :: rr49) := by subst hrr49 hTT49; exact ⟨hK, hP, hD, hS, X.2.2.2.2⟩
  refine W.widen (k := 49) (n := 86589) (Nat.le_of_ble_eq_true rfl) (Nat.le_of_ble_eq_true rfl) ?_
  refine va_putF (D := D.1) (ci := 12) (v := .ref q49) (ty := tyX12 74) (C := RX12) (T := TX12) (N := 114) hx hb hts wi_X12 tyX12 tyX12_ok nmX12 hown X.1 X.2.1 X.2.2.1 X.2.2.2.1 0 rfl rfl 74 (by decide) (hts _ q7_9) (fun _ h9 => h9) rfl hin rfl (by decide +kernel) rfl rfl (by rw [List.length_map, List.length_range]; decide) dX12_init_723 (fun H locs hP hD hS => ?_)
  obtain ⟨FF72, hFF72⟩ : ∃ f : Nat → Value, f = va_up FF71 74 (.ref q49) := ⟨_, rfl⟩
  have X : Hx D TT49 A s H locs ((h, .inr (12, (List.range 114).map FF72)) :: rr49) := by subst hFF72; exact Hx_set X obj_set hP hD hS
  refine lv_aload_n hx hb dX12_init_726 rfl (lv_at hl 0 rfl) ?_
  refine lv_bipush (v := (12 : Int32)) hx hb dX12_init_727 (by decide) ?_
  refine va_newa (a0 := (12, .inl (fun _ => 0))) (N' := 12) hx hb (hts _ q1_125) rfl X.1 X.2.1 X.2.2.1 X.2.2.2.1 X.2.2.2.2.1 (fun _ => rfl) (by decide) (by decide) (by decide) (Nat.le_of_ble_eq_true rfl) (Nat.le_of_ble_eq_true rfl) dX12_init_729 (fun q50 y50 H hK hP hD hS => ?_)
  obtain ⟨rr50, hrr50⟩ : ∃ r : va_W, r = rr49 ++ [(q50, .inl (y50, 12, .inl (fun _ => 0)))] := ⟨_, rfl⟩
  obtain ⟨TT50, hTT50⟩ : ∃ r : List (ClassId × FieldType), r = TT49 ++ [(y50, .int)] := ⟨_, rfl⟩
  have X : Hx D TT50 A s H locs ((h, .inr (12, (List.range 114).map FF72)) :: rr50) := by subst hrr50 hTT50; exact ⟨hK, hP, hD, hS, X.2.2.2.2⟩
  refine W.widen (k := 50) (n := 86601) (Nat.le_of_ble_eq_true rfl) (Nat.le_of_ble_eq_true rfl) ?_
  refine va_putF (D := D.1) (ci := 12) (v := .ref q50) (ty := tyX12 75) (C := RX12) (T := TX12) (N := 114) hx hb hts wi_X12 tyX12 tyX12_ok nmX12 hown X.1 X.2.1 X.2.2.1 X.2.2.2.1 0 rfl rfl 75 (by decide) (hts _ q7_10) (fun _ h9 => h9) rfl hin rfl (by decide +kernel) rfl rfl (by rw [List.length_map, List.length_range]; decide) dX12_init_731 (fun H locs hP hD hS => ?_)
  obtain ⟨FF73, hFF73⟩ : ∃ f : Nat → Value, f = va_up FF72 75 (.ref q50) := ⟨_, rfl⟩
  have X : Hx D TT50 A s H locs ((h, .inr (12, (List.range 114).map FF73)) :: rr50) := by subst hFF73; exact Hx_set X obj_set hP hD hS
  refine lv_aload_n hx hb dX12_init_734 rfl (lv_at hl 0 rfl) ?_
  refine lv_bipush (v := (52 : Int32)) hx hb dX12_init_735 (by decide) ?_
  refine va_newa (a0 := (52, .inl (fun _ => 0))) (N' := 52) hx hb (hts _ q1_125) rfl X.1 X.2.1 X.2.2.1 X.2.2.2.1 X.2.2.2.2.1 (fun _ => rfl) (by decide) (by decide) (by decide) (Nat.le_of_ble_eq_true rfl) (Nat.le_of_ble_eq_true rfl) dX12_init_737 (fun q51 y51 H hK hP hD hS => ?_)
  obtain ⟨rr51, hrr51⟩ : ∃ r : va_W, r = rr50 ++ [(q51, .inl (y51, 52, .inl (fun _ => 0)))] := ⟨_, rfl⟩
  obtain ⟨TT51, hTT51⟩ : ∃ r : List (ClassId × FieldType), r = TT50 ++ [(y51, .int)] := ⟨_, rfl⟩
  have X : Hx D TT51 A s H locs ((h, .inr (12, (List.range 114).map FF73)) :: rr51) := by subst hrr51 hTT51; exact ⟨hK, hP, hD, hS, X.2.2.2.2⟩
  refine W.widen (k := 51) (n := 86653) (Nat.le_of_ble_eq_true rfl) (Nat.le_of_ble_eq_true rfl) ?_
  refine va_putF (D := D.1) (ci := 12) (v := .ref q51) (ty := tyX12 76) (C := RX12) (T := TX12) (N := 114) hx hb hts wi_X12 tyX12 tyX12_ok nmX12 hown X.1 X.2.1 X.2.2.1 X.2.2.2.1 0 rfl rfl 76 (by decide) (hts _ q7_11) (fun _ h9 => h9) rfl hin rfl (by decide +kernel) rfl rfl (by rw [List.length_map, List.length_range]; decide) dX12_init_739 (fun H locs hP hD hS => ?_)
  obtain ⟨FF74, hFF74⟩ : ∃ f : Nat → Value, f = va_up FF73 76 (.ref q51) := ⟨_, rfl⟩
  have X : Hx D TT51 A s H locs ((h, .inr (12, (List.range 114).map FF74)) :: rr51) := by subst hFF74; exact Hx_set X obj_set hP hD hS
  refine lv_aload_n hx hb dX12_init_742 rfl (lv_at hl 0 rfl) ?_
  refine lv_iconst (v := (0 : Int32)) hx hb dX12_init_743 (by decide) ?_
  refine va_put (D := D.1) (ci := 12) (v := .int (0 : Int32)) (ty := tyX12 77) (C := RX12) (T := TX12) (N := 114) hx hb hts wi_X12 tyX12 tyX12_ok nmX12 hown X.1 X.2.1 X.2.2.1 X.2.2.2.1 0 rfl rfl 77 (by decide) (hts _ q7_12) (fun _ h9 => h9) rfl (by decide +kernel) rfl rfl (by rw [List.length_map, List.length_range]; decide) dX12_init_744 (fun H locs hP hD hS => ?_)
  obtain ⟨FF75, hFF75⟩ : ∃ f : Nat → Value, f = va_up FF74 77 (.int (0 : Int32)) := ⟨_, rfl⟩
  have X : Hx D TT51 A s H locs ((h, .inr (12, (List.range 114).map FF75)) :: rr51) := by subst hFF75; exact Hx_set X obj_set hP hD hS
  refine lv_aload_n hx hb dX12_init_747 rfl (lv_at hl 0 rfl) ?_
  refine lv_bipush (v := (8 : Int32)) hx hb dX12_init_748 (by decide) ?_
  refine va_newa (a0 := (8, .inl (fun _ => 0))) (N' := 8) hx hb (hts _ q1_125) rfl X.1 X.2.1 X.2.2.1 X.2.2.2.1 X.2.2.2.2.1 (fun _ => rfl) (by decide) (by decide) (by decide) (Nat.le_of_ble_eq_true rfl) (Nat.le_of_ble_eq_true rfl) dX12_init_750 (fun q52 y52 H hK hP hD hS => ?_)
  obtain ⟨rr52, hrr52⟩ : ∃ r : va_W, r = rr51 ++ [(q52, .inl (y52, 8, .inl (fun _ => 0)))] := ⟨_, rfl⟩
  obtain ⟨TT52, hTT52⟩ : ∃ r : List (ClassId × FieldType), r = TT51 ++ [(y52, .int)] := ⟨_, rfl⟩
  have X : Hx D TT52 A s H locs ((h, .inr (12, (List.range 114).map FF75)) :: rr52) := by subst hrr52 hTT52; exact ⟨hK, hP, hD, hS, X.2.2.2.2⟩
  refine W.widen (k := 52) (n := 86661) (Nat.le_of_ble_eq_true rfl) (Nat.le_of_ble_eq_true rfl) ?_
  refine va_putF (D := D.1) (ci := 12) (v := .ref q52) (ty := tyX12 78) (C := RX12) (T := TX12) (N := 114) hx hb hts wi_X12 tyX12 tyX12_ok nmX12 hown X.1 X.2.1 X.2.2.1 X.2.2.2.1 0 rfl rfl 78 (by decide) (hts _ q7_13) (fun _ h9 => h9) rfl hin rfl (by decide +kernel) rfl rfl (by rw [List.length_map, List.length_range]; decide) dX12_init_752 (fun H locs hP hD hS => ?_)
  obtain ⟨FF76, hFF76⟩ : ∃ f : Nat → Value, f = va_up FF75 78 (.ref q52) := ⟨_, rfl⟩
  have X : Hx D TT52 A s H locs ((h, .inr (12, (List.range 114).map FF76)) :: rr52) := by subst hFF76; exact Hx_set X obj_set hP hD hS
  refine lv_aload_n hx hb dX12_init_755 rfl (lv_at hl 0 rfl) ?_
  refine lv_sipush (v := (192 : Int32)) hx hb dX12_init_756 (by decide) ?_
  refine va_newa (a0 := (192, .inr (.inl (fun _ => 0)))) (N' := 192) hx hb (hts _ q1_124) rfl X.1 X.2.1 X.2.2.1 X.2.2.2.1 X.2.2.2.2.1 (fun _ => rfl) (by decide) (by decide) (by decide) (Nat.le_of_ble_eq_true rfl) (Nat.le_of_ble_eq_true rfl) dX12_init_759 (fun q53 y53 H hK hP hD hS => ?_)
  obtain ⟨rr53, hrr53⟩ : ∃ r : va_W, r = rr52 ++ [(q53, .inl (y53, 192, .inr (.inl (fun _ => 0))))] := ⟨_, rfl⟩
  obtain ⟨TT53, hTT53⟩ : ∃ r : List (ClassId × FieldType), r = TT52 ++ [(y53, .long)] := ⟨_, rfl⟩
  have X : Hx D TT53 A s H locs ((h, .inr (12, (List.range 114).map FF76)) :: rr53) := by subst hrr53 hTT53; exact ⟨hK, hP, hD, hS, X.2.2.2.2⟩
  refine W.widen (k := 53) (n := 86853) (Nat.le_of_ble_eq_true rfl) (Nat.le_of_ble_eq_true rfl) ?_
  refine va_putF (D := D.1) (ci := 12) (v := .ref q53) (ty := tyX12 79) (C := RX12) (T := TX12) (N := 114) hx hb hts wi_X12 tyX12 tyX12_ok nmX12 hown X.1 X.2.1 X.2.2.1 X.2.2.2.1 0 rfl rfl 79 (by decide) (hts _ q7_14) (fun _ h9 => h9) rfl hin rfl (by decide +kernel) rfl rfl (by rw [List.length_map, List.length_range]; decide) dX12_init_761 (fun H locs hP hD hS => ?_)
  obtain ⟨FF77, hFF77⟩ : ∃ f : Nat → Value, f = va_up FF76 79 (.ref q53) := ⟨_, rfl⟩
  have X : Hx D TT53 A s H locs ((h, .inr (12, (List.range 114).map FF77)) :: rr53) := by subst hFF77; exact Hx_set X obj_set hP hD hS
  refine lv_aload_n hx hb dX12_init_764 rfl (lv_at hl 0 rfl) ?_
  refine lv_bipush (v := (40 : Int32)) hx hb dX12_init_765 (by decide) ?_
  refine va_newa (a0 := (40, .inr (.inl (fun _ => 0)))) (N' := 40) hx hb (hts _ q1_124) rfl X.1 X.2.1 X.2.2.1 X.2.2.2.1 X.2.2.2.2.1 (fun _ => rfl) (by decide) (by decide) (by decide) (Nat.le_of_ble_eq_true rfl) (Nat.le_of_ble_eq_true rfl) dX12_init_767 (fun q54 y54 H hK hP hD hS => ?_)
  obtain ⟨rr54, hrr54⟩ : ∃ r : va_W, r = rr53 ++ [(q54, .inl (y54, 40, .inr (.inl (fun _ => 0))))] := ⟨_, rfl⟩
  obtain ⟨TT54, hTT54⟩ : ∃ r : List (ClassId × FieldType), r = TT53 ++ [(y54, .long)] := ⟨_, rfl⟩
  have X : Hx D TT54 A s H locs ((h, .inr (12, (List.range 114).map FF77)) :: rr54) := by subst hrr54 hTT54; exact ⟨hK, hP, hD, hS, X.2.2.2.2⟩
  refine W.widen (k := 54) (n := 86893) (Nat.le_of_ble_eq_true rfl) (Nat.le_of_ble_eq_true rfl) ?_
  refine va_putF (D := D.1) (ci := 12) (v := .ref q54) (ty := tyX12 80) (C := RX12) (T := TX12) (N := 114) hx hb hts wi_X12 tyX12 tyX12_ok nmX12 hown X.1 X.2.1 X.2.2.1 X.2.2.2.1 0 rfl rfl 80 (by decide) (hts _ q7_15) (fun _ h9 => h9) rfl hin rfl (by decide +kernel) rfl rfl (by rw [List.length_map, List.length_range]; decide) dX12_init_769 (fun H locs hP hD hS => ?_)
  obtain ⟨FF78, hFF78⟩ : ∃ f : Nat → Value, f = va_up FF77 80 (.ref q54) := ⟨_, rfl⟩
  have X : Hx D TT54 A s H locs ((h, .inr (12, (List.range 114).map FF78)) :: rr54) := by subst hFF78; exact Hx_set X obj_set hP hD hS
  refine lv_aload_n hx hb dX12_init_772 rfl (lv_at hl 0 rfl) ?_
  refine lv_bipush (v := (40 : Int32)) hx hb dX12_init_773 (by decide) ?_
  refine va_newa (a0 := (40, .inr (.inl (fun _ => 0)))) (N' := 40) hx hb (hts _ q1_124) rfl X.1 X.2.1 X.2.2.1 X.2.2.2.1 X.2.2.2.2.1 (fun _ => rfl) (by decide) (by decide) (by decide) (Nat.le_of_ble_eq_true rfl) (Nat.le_of_ble_eq_true rfl) dX12_init_775 (fun q55 y55 H hK hP hD hS => ?_)
  obtain ⟨rr55, hrr55⟩ : ∃ r : va_W, r = rr54 ++ [(q55, .inl (y55, 40, .inr (.inl (fun _ => 0))))] := ⟨_, rfl⟩
  obtain ⟨TT55, hTT55⟩ : ∃ r : List (ClassId × FieldType), r = TT54 ++ [(y55, .long)] := ⟨_, rfl⟩
  have X : Hx D TT55 A s H locs ((h, .inr (12, (List.range 114).map FF78)) :: rr55) := by subst hrr55 hTT55; exact ⟨hK, hP, hD, hS, X.2.2.2.2⟩
  refine W.widen (k := 55) (n := 86933) (Nat.le_of_ble_eq_true rfl) (Nat.le_of_ble_eq_true rfl) ?_
  refine va_putF (D := D.1) (ci := 12) (v := .ref q55) (ty := tyX12 81) (C := RX12) (T := TX12) (N := 114) hx hb hts wi_X12 tyX12 tyX12_ok nmX12 hown X.1 X.2.1 X.2.2.1 X.2.2.2.1 0 rfl rfl 81 (by decide) (hts _ q7_16) (fun _ h9 => h9) rfl hin rfl (by decide +kernel) rfl rfl (by rw [List.length_map, List.length_range]; decide) dX12_init_777 (fun H locs hP hD hS => ?_)
  obtain ⟨FF79, hFF79⟩ : ∃ f : Nat → Value, f = va_up FF78 81 (.ref q55) := ⟨_, rfl⟩
  have X : Hx D TT55 A s H locs ((h, .inr (12, (List.range 114).map FF79)) :: rr55) := by subst hFF79; exact Hx_set X obj_set hP hD hS
  refine lv_aload_n hx hb dX12_init_780 rfl (lv_at hl 0 rfl) ?_
  refine lv_sipush (v := (1280 : Int32)) hx hb dX12_init_781 (by decide) ?_
  refine va_newa (a0 := (1280, .inr (.inl (fun _ => 0)))) (N' := 1280) hx hb (hts _ q1_124) rfl X.1 X.2.1 X.2.2.1 X.2.2.2.1 X.2.2.2.2.1 (fun _ => rfl) (by decide) (by decide) (by decide) (Nat.le_of_ble_eq_true rfl) (Nat.le_of_ble_eq_true rfl) dX12_init_784 (fun q56 y56 H hK hP hD hS => ?_)
  obtain ⟨rr56, hrr56⟩ : ∃ r : va_W, r = rr55 ++ [(q56, .inl (y56, 1280, .inr (.inl (fun _ => 0))))] := ⟨_, rfl⟩
  obtain ⟨TT56, hTT56⟩ : ∃ r : List (ClassId × FieldType), r = TT55 ++ [(y56, .long)] := ⟨_, rfl⟩
  have X : Hx D TT56 A s H locs ((h, .inr (12, (List.range 114).map FF79)) :: rr56) := by subst hrr56 hTT56; exact ⟨hK, hP, hD, hS, X.2.2.2.2⟩
  refine W.widen (k := 56) (n := 88213) (Nat.le_of_ble_eq_true rfl) (Nat.le_of_ble_eq_true rfl) ?_
  refine va_putF (D := D.1) (ci := 12) (v := .ref q56) (ty := tyX12 82) (C := RX12) (T := TX12) (N := 114) hx hb hts wi_X12 tyX12 tyX12_ok nmX12 hown X.1 X.2.1 X.2.2.1 X.2.2.2.1 0 rfl rfl 82 (by decide) (hts _ q7_17) (fun _ h9 => h9) rfl hin rfl (by decide +kernel) rfl rfl (by rw [List.length_map, List.length_range]; decide) dX12_init_786 (fun H locs hP hD hS => ?_)
  obtain ⟨FF80, hFF80⟩ : ∃ f : Nat → Value, f = va_up FF79 82 (.ref q56) := ⟨_, rfl⟩
  have X : Hx D TT56 A s H locs ((h, .inr (12, (List.range 114).map FF80)) :: rr56) := by subst hFF80; exact Hx_set X obj_set hP hD hS
  refine lv_aload_n hx hb dX12_init_789 rfl (lv_at hl 0 rfl) ?_
  refine lv_bipush (v := (52 : Int32)) hx hb dX12_init_790 (by decide) ?_
  refine va_newa (a0 := (52, .inl (fun _ => 0))) (N' := 52) hx hb (hts _ q1_125) rfl X.1 X.2.1 X.2.2.1 X.2.2.2.1 X.2.2.2.2.1 (fun _ => rfl) (by decide) (by decide) (by decide) (Nat.le_of_ble_eq_true rfl) (Nat.le_of_ble_eq_true rfl) dX12_init_792 (fun q57 y57 H hK hP hD hS => ?_)
  obtain ⟨rr57, hrr57⟩ : ∃ r : va_W, r = rr56 ++ [(q57, .inl (y57, 52, .inl (fun _ => 0)))] := ⟨_, rfl⟩
  obtain ⟨TT57, hTT57⟩ : ∃ r : List (ClassId × FieldType), r = TT56 ++ [(y57, .int)] := ⟨_, rfl⟩
  have X : Hx D TT57 A s H locs ((h, .inr (12, (List.range 114).map FF80)) :: rr57) := by subst hrr57 hTT57; exact ⟨hK, hP, hD, hS, X.2.2.2.2⟩
  refine W.widen (k := 57) (n := 88265) (Nat.le_of_ble_eq_true rfl) (Nat.le_of_ble_eq_true rfl) ?_
  refine va_putF (D := D.1) (ci := 12) (v := .ref q57) (ty := tyX12 83) (C := RX12) (T := TX12) (N := 114) hx hb hts wi_X12 tyX12 tyX12_ok nmX12 hown X.1 X.2.1 X.2.2.1 X.2.2.2.1 0 rfl rfl 83 (by decide) (hts _ q7_18) (fun _ h9 => h9) rfl hin rfl (by decide +kernel) rfl rfl (by rw [List.length_map, List.length_range]; decide) dX12_init_794 (fun H locs hP hD hS => ?_)
  obtain ⟨FF81, hFF81⟩ : ∃ f : Nat → Value, f = va_up FF80 83 (.ref q57) := ⟨_, rfl⟩
  have X : Hx D TT57 A s H locs ((h, .inr (12, (List.range 114).map FF81)) :: rr57) := by subst hFF81; exact Hx_set X obj_set hP hD hS
  refine lv_aload_n hx hb dX12_init_797 rfl (lv_at hl 0 rfl) ?_
  refine lv_bipush (v := (52 : Int32)) hx hb dX12_init_798 (by decide) ?_
  refine va_newa (a0 := (52, .inl (fun _ => 0))) (N' := 52) hx hb (hts _ q1_125) rfl X.1 X.2.1 X.2.2.1 X.2.2.2.1 X.2.2.2.2.1 (fun _ => rfl) (by decide) (by decide) (by decide) (Nat.le_of_ble_eq_true rfl) (Nat.le_of_ble_eq_true rfl) dX12_init_800 (fun q58 y58 H hK hP hD hS => ?_)
  obtain ⟨rr58, hrr58⟩ : ∃ r : va_W, r = rr57 ++ [(q58, .inl (y58, 52, .inl (fun _ => 0)))] := ⟨_, rfl⟩
  obtain ⟨TT58, hTT58⟩ : ∃ r : List (ClassId × FieldType), r = TT57 ++ [(y58, .int)] := ⟨_, rfl⟩
  have X : Hx D TT58 A s H locs ((h, .inr (12, (List.range 114).map FF81)) :: rr58) := by subst hrr58 hTT58; exact ⟨hK, hP, hD, hS, X.2.2.2.2⟩
  refine W.widen (k := 58) (n := 88317) (Nat.le_of_ble_eq_true rfl) (Nat.le_of_ble_eq_true rfl) ?_
  refine va_putF (D := D.1) (ci := 12) (v := .ref q58) (ty := tyX12 84) (C := RX12) (T := TX12) (N := 114) hx hb hts wi_X12 tyX12 tyX12_ok nmX12 hown X.1 X.2.1 X.2.2.1 X.2.2.2.1 0 rfl rfl 84 (by decide) (hts _ q7_19) (fun _ h9 => h9) rfl hin rfl (by decide +kernel) rfl rfl (by rw [List.length_map, List.length_range]; decide) dX12_init_802 (fun H locs hP hD hS => ?_)
  obtain ⟨FF82, hFF82⟩ : ∃ f : Nat → Value, f = va_up FF81 84 (.ref q58) := ⟨_, rfl⟩
  have X : Hx D TT58 A s H locs ((h, .inr (12, (List.range 114).map FF82)) :: rr58) := by subst hFF82; exact Hx_set X obj_set hP hD hS
  refine lv_aload_n hx hb dX12_init_805 rfl (lv_at hl 0 rfl) ?_
  refine lv_bipush (v := (52 : Int32)) hx hb dX12_init_806 (by decide) ?_
  refine va_newa (a0 := (52, .inl (fun _ => 0))) (N' := 52) hx hb (hts _ q1_125) rfl X.1 X.2.1 X.2.2.1 X.2.2.2.1 X.2.2.2.2.1 (fun _ => rfl) (by decide) (by decide) (by decide) (Nat.le_of_ble_eq_true rfl) (Nat.le_of_ble_eq_true rfl) dX12_init_808 (fun q59 y59 H hK hP hD hS => ?_)
  obtain ⟨rr59, hrr59⟩ : ∃ r : va_W, r = rr58 ++ [(q59, .inl (y59, 52, .inl (fun _ => 0)))] := ⟨_, rfl⟩
  obtain ⟨TT59, hTT59⟩ : ∃ r : List (ClassId × FieldType), r = TT58 ++ [(y59, .int)] := ⟨_, rfl⟩
  have X : Hx D TT59 A s H locs ((h, .inr (12, (List.range 114).map FF82)) :: rr59) := by subst hrr59 hTT59; exact ⟨hK, hP, hD, hS, X.2.2.2.2⟩
  refine W.widen (k := 59) (n := 88369) (Nat.le_of_ble_eq_true rfl) (Nat.le_of_ble_eq_true rfl) ?_
  refine va_putF (D := D.1) (ci := 12) (v := .ref q59) (ty := tyX12 85) (C := RX12) (T := TX12) (N := 114) hx hb hts wi_X12 tyX12 tyX12_ok nmX12 hown X.1 X.2.1 X.2.2.1 X.2.2.2.1 0 rfl rfl 85 (by decide) (hts _ q7_20) (fun _ h9 => h9) rfl hin rfl (by decide +kernel) rfl rfl (by rw [List.length_map, List.length_range]; decide) dX12_init_810 (fun H locs hP hD hS => ?_)
  obtain ⟨FF83, hFF83⟩ : ∃ f : Nat → Value, f = va_up FF82 85 (.ref q59) := ⟨_, rfl⟩
  have X : Hx D TT59 A s H locs ((h, .inr (12, (List.range 114).map FF83)) :: rr59) := by subst hFF83; exact Hx_set X obj_set hP hD hS
  refine lv_aload_n hx hb dX12_init_813 rfl (lv_at hl 0 rfl) ?_
  refine lv_bipush (v := (12 : Int32)) hx hb dX12_init_814 (by decide) ?_
  refine va_newa (a0 := (12, .inl (fun _ => 0))) (N' := 12) hx hb (hts _ q1_125) rfl X.1 X.2.1 X.2.2.1 X.2.2.2.1 X.2.2.2.2.1 (fun _ => rfl) (by decide) (by decide) (by decide) (Nat.le_of_ble_eq_true rfl) (Nat.le_of_ble_eq_true rfl) dX12_init_816 (fun q60 y60 H hK hP hD hS => ?_)
  obtain ⟨rr60, hrr60⟩ : ∃ r : va_W, r = rr59 ++ [(q60, .inl (y60, 12, .inl (fun _ => 0)))] := ⟨_, rfl⟩
  obtain ⟨TT60, hTT60⟩ : ∃ r : List (ClassId × FieldType), r = TT59 ++ [(y60, .int)] := ⟨_, rfl⟩
  have X : Hx D TT60 A s H locs ((h, .inr (12, (List.range 114).map FF83)) :: rr60) := by subst hrr60 hTT60; exact ⟨hK, hP, hD, hS, X.2.2.2.2⟩
  refine W.widen (k := 60) (n := 88381) (Nat.le_of_ble_eq_true rfl) (Nat.le_of_ble_eq_true rfl) ?_
  refine va_putF (D := D.1) (ci := 12) (v := .ref q60) (ty := tyX12 86) (C := RX12) (T := TX12) (N := 114) hx hb hts wi_X12 tyX12 tyX12_ok nmX12 hown X.1 X.2.1 X.2.2.1 X.2.2.2.1 0 rfl rfl 86 (by decide) (hts _ q7_21) (fun _ h9 => h9) rfl hin rfl (by decide +kernel) rfl rfl (by rw [List.length_map, List.length_range]; decide) dX12_init_818 (fun H locs hP hD hS => ?_)
  obtain ⟨FF84, hFF84⟩ : ∃ f : Nat → Value, f = va_up FF83 86 (.ref q60) := ⟨_, rfl⟩
  have X : Hx D TT60 A s H locs ((h, .inr (12, (List.range 114).map FF84)) :: rr60) := by subst hFF84; exact Hx_set X obj_set hP hD hS
  refine lv_aload_n hx hb dX12_init_821 rfl (lv_at hl 0 rfl) ?_
  refine lv_lconst (v := (0 : Int64)) hx hb dX12_init_822 (by decide) ?_
  refine va_put (D := D.1) (ci := 12) (v := .long (0 : Int64)) (ty := tyX12 87) (C := RX12) (T := TX12) (N := 114) hx hb hts wi_X12 tyX12 tyX12_ok nmX12 hown X.1 X.2.1 X.2.2.1 X.2.2.2.1 0 rfl rfl 87 (by decide) (hts _ q7_22) (fun _ h9 => h9) rfl (by decide +kernel) rfl rfl (by rw [List.length_map, List.length_range]; decide) dX12_init_823 (fun H locs hP hD hS => ?_)
  obtain ⟨FF85, hFF85⟩ : ∃ f : Nat → Value, f = va_up FF84 87 (.long (0 : Int64)) := ⟨_, rfl⟩
  have X : Hx D TT60 A s H locs ((h, .inr (12, (List.range 114).map FF85)) :: rr60) := by subst hFF85; exact Hx_set X obj_set hP hD hS
  refine lv_aload_n hx hb dX12_init_826 rfl (lv_at hl 0 rfl) ?_
  refine lv_iconst (v := (0 : Int32)) hx hb dX12_init_827 (by decide) ?_
  refine va_put (D := D.1) (ci := 12) (v := .int (0 : Int32)) (ty := tyX12 88) (C := RX12) (T := TX12) (N := 114) hx hb hts wi_X12 tyX12 tyX12_ok nmX12 hown X.1 X.2.1 X.2.2.1 X.2.2.2.1 0 rfl rfl 88 (by decide) (hts _ q7_23) (fun _ h9 => h9) rfl (by decide +kernel) rfl rfl (by rw [List.length_map, List.length_range]; decide) dX12_init_828 (fun H locs hP hD hS => ?_)
  obtain ⟨FF86, hFF86⟩ : ∃ f : Nat → Value, f = va_up FF85 88 (.int (0 : Int32)) := ⟨_, rfl⟩
  have X : Hx D TT60 A s H locs ((h, .inr (12, (List.range 114).map FF86)) :: rr60) := by subst hFF86; exact Hx_set X obj_set hP hD hS
  refine lv_aload_n hx hb dX12_init_831 rfl (lv_at hl 0 rfl) ?_
  refine lv_bipush (v := (64 : Int32)) hx hb dX12_init_832 (by decide) ?_
  refine va_newa (a0 := (64, .inr (.inl (fun _ => 0)))) (N' := 64) hx hb (hts _ q1_124) rfl X.1 X.2.1 X.2.2.1 X.2.2.2.1 X.2.2.2.2.1 (fun _ => rfl) (by decide) (by decide) (by decide) (Nat.le_of_ble_eq_true rfl) (Nat.le_of_ble_eq_true rfl) dX12_init_834 (fun q61 y61 H hK hP hD hS => ?_)
  obtain ⟨rr61, hrr61⟩ : ∃ r : va_W, r = rr60 ++ [(q61, .inl (y61, 64, .inr (.inl (fun _ => 0))))] := ⟨_, rfl⟩
  obtain ⟨TT61, hTT61⟩ : ∃ r : List (ClassId × FieldType), r = TT60 ++ [(y61, .long)] := ⟨_, rfl⟩
  have X : Hx D TT61 A s H locs ((h, .inr (12, (List.range 114).map FF86)) :: rr61) := by subst hrr61 hTT61; exact ⟨hK, hP, hD, hS, X.2.2.2.2⟩
  refine W.widen (k := 61) (n := 88445) (Nat.le_of_ble_eq_true rfl) (Nat.le_of_ble_eq_true rfl) ?_
  refine va_putF (D := D.1) (ci := 12) (v := .ref q61) (ty := tyX12 89) (C := RX12) (T := TX12) (N := 114) hx hb hts wi_X12 tyX12 tyX12_ok nmX12 hown X.1 X.2.1 X.2.2.1 X.2.2.2.1 0 rfl rfl 89 (by decide) (hts _ q7_24) (fun _ h9 => h9) rfl hin rfl (by decide +kernel) rfl rfl (by rw [List.length_map, List.length_range]; decide) dX12_init_836 (fun H locs hP hD hS => ?_)
  obtain ⟨FF87, hFF87⟩ : ∃ f : Nat → Value, f = va_up FF86 89 (.ref q61) := ⟨_, rfl⟩
  have X : Hx D TT61 A s H locs ((h, .inr (12, (List.range 114).map FF87)) :: rr61) := by subst hFF87; exact Hx_set X obj_set hP hD hS
  refine lv_aload_n hx hb dX12_init_839 rfl (lv_at hl 0 rfl) ?_
  refine lv_bipush (v := (64 : Int32)) hx hb dX12_init_840 (by decide) ?_
  refine va_newa (a0 := (64, .inl (fun _ => 0))) (N' := 64) hx hb (hts _ q1_125) rfl X.1 X.2.1 X.2.2.1 X.2.2.2.1 X.2.2.2.2.1 (fun _ => rfl) (by decide) (by decide) (by decide) (Nat.le_of_ble_eq_true rfl) (Nat.le_of_ble_eq_true rfl) dX12_init_842 (fun q62 y62 H hK hP hD hS => ?_)
  obtain ⟨rr62, hrr62⟩ : ∃ r : va_W, r = rr61 ++ [(q62, .inl (y62, 64, .inl (fun _ => 0)))] := ⟨_, rfl⟩
  obtain ⟨TT62, hTT62⟩ : ∃ r : List (ClassId × FieldType), r = TT61 ++ [(y62, .int)] := ⟨_, rfl⟩
  have X : Hx D TT62 A s H locs ((h, .inr (12, (List.range 114).map FF87)) :: rr62) := by subst hrr62 hTT62; exact ⟨hK, hP, hD, hS, X.2.2.2.2⟩
  refine W.widen (k := 62) (n := 88509) (Nat.le_of_ble_eq_true rfl) (Nat.le_of_ble_eq_true rfl) ?_
  refine va_putF (D := D.1) (ci := 12) (v := .ref q62) (ty := tyX12 90) (C := RX12) (T := TX12) (N := 114) hx hb hts wi_X12 tyX12 tyX12_ok nmX12 hown X.1 X.2.1 X.2.2.1 X.2.2.2.1 0 rfl rfl 90 (by decide) (hts _ q7_25) (fun _ h9 => h9) rfl hin rfl (by decide +kernel) rfl rfl (by rw [List.length_map, List.length_range]; decide) dX12_init_844 (fun H locs hP hD hS => ?_)
  obtain ⟨FF88, hFF88⟩ : ∃ f : Nat → Value, f = va_up FF87 90 (.ref q62) := ⟨_, rfl⟩
  have X : Hx D TT62 A s H locs ((h, .inr (12, (List.range 114).map FF88)) :: rr62) := by subst hFF88; exact Hx_set X obj_set hP hD hS
  refine lv_aload_n hx hb dX12_init_847 rfl (lv_at hl 0 rfl) ?_
  refine lv_ldc2 hx hb hown (hts _ q6_174) dX12_init_848 ?_
  refine va_put (D := D.1) (ci := 12) (v := .long (4607182418800017408 : Int64)) (ty := tyX12 91) (C := RX12) (T := TX12) (N := 114) hx hb hts wi_X12 tyX12 tyX12_ok nmX12 hown X.1 X.2.1 X.2.2.1 X.2.2.2.1 0 rfl rfl 91 (by decide) (hts _ q7_26) (fun _ h9 => h9) rfl (by decide +kernel) rfl rfl (by rw [List.length_map, List.length_range]; decide) dX12_init_851 (fun H locs hP hD hS => ?_)
  obtain ⟨FF89, hFF89⟩ : ∃ f : Nat → Value, f = va_up FF88 91 (.long (4607182418800017408 : Int64)) := ⟨_, rfl⟩
  have X : Hx D TT62 A s H locs ((h, .inr (12, (List.range 114).map FF89)) :: rr62) := by subst hFF89; exact Hx_set X obj_set hP hD hS
  refine lv_aload_n hx hb dX12_init_854 rfl (lv_at hl 0 rfl) ?_
  refine lv_sipush (v := (400 : Int32)) hx hb dX12_init_855 (by decide) ?_
  refine va_newa (a0 := (400, .inr (.inl (fun _ => 0)))) (N' := 400) hx hb (hts _ q1_124) rfl X.1 X.2.1 X.2.2.1 X.2.2.2.1 X.2.2.2.2.1 (fun _ => rfl) (by decide) (by decide) (by decide) (Nat.le_of_ble_eq_true rfl) (Nat.le_of_ble_eq_true rfl) dX12_init_858 (fun q63 y63 H hK hP hD hS => ?_)
  obtain ⟨rr63, hrr63⟩ : ∃ r : va_W, r = rr62 ++ [(q63, .inl (y63, 400, .inr (.inl (fun _ => 0))))] := ⟨_, rfl⟩
  obtain ⟨TT63, hTT63⟩ : ∃ r : List (ClassId × FieldType), r = TT62 ++ [(y63, .long)] := ⟨_, rfl⟩
  have X : Hx D TT63 A s H locs ((h, .inr (12, (List.range 114).map FF89)) :: rr63) := by subst hrr63 hTT63; exact ⟨hK, hP, hD, hS, X.2.2.2.2⟩
  refine W.widen (k := 63) (n := 88909) (Nat.le_of_ble_eq_true rfl) (Nat.le_of_ble_eq_true rfl) ?_
  refine va_putF (D := D.1) (ci := 12) (v := .ref q63) (ty := tyX12 92) (C := RX12) (T := TX12) (N := 114) hx hb hts wi_X12 tyX12 tyX12_ok nmX12 hown X.1 X.2.1 X.2.2.1 X.2.2.2.1 0 rfl rfl 92 (by decide) (hts _ q7_27) (fun _ h9 => h9) rfl hin rfl (by decide +kernel) rfl rfl (by rw [List.length_map, List.length_range]; decide) dX12_init_860 (fun H locs hP hD hS => ?_)
  obtain ⟨FF90, hFF90⟩ : ∃ f : Nat → Value, f = va_up FF89 92 (.ref q63) := ⟨_, rfl⟩
  have X : Hx D TT63 A s H locs ((h, .inr (12, (List.range 114).map FF90)) :: rr63) := by subst hFF90; exact Hx_set X obj_set hP hD hS
  refine lv_aload_n hx hb dX12_init_863 rfl (lv_at hl 0 rfl) ?_
  refine lv_iconst (v := (0 : Int32)) hx hb dX12_init_864 (by decide) ?_
  refine va_put (D := D.1) (ci := 12) (v := .int (0 : Int32)) (ty := tyX12 93) (C := RX12) (T := TX12) (N := 114) hx hb hts wi_X12 tyX12 tyX12_ok nmX12 hown X.1 X.2.1 X.2.2.1 X.2.2.2.1 0 rfl rfl 93 (by decide) (hts _ q7_28) (fun _ h9 => h9) rfl (by decide +kernel) rfl rfl (by rw [List.length_map, List.length_range]; decide) dX12_init_865 (fun H locs hP hD hS => ?_)
  obtain ⟨FF91, hFF91⟩ : ∃ f : Nat → Value, f = va_up FF90 93 (.int (0 : Int32)) := ⟨_, rfl⟩
  have X : Hx D TT63 A s H locs ((h, .inr (12, (List.range 114).map FF91)) :: rr63) := by subst hFF91; exact Hx_set X obj_set hP hD hS
  refine lv_aload_n hx hb dX12_init_868 rfl (lv_at hl 0 rfl) ?_
  refine lv_lconst (v := (0 : Int64)) hx hb dX12_init_869 (by decide) ?_
  refine va_put (D := D.1) (ci := 12) (v := .long (0 : Int64)) (ty := tyX12 94) (C := RX12) (T := TX12) (N := 114) hx hb hts wi_X12 tyX12 tyX12_ok nmX12 hown X.1 X.2.1 X.2.2.1 X.2.2.2.1 0 rfl rfl 94 (by decide) (hts _ q7_29) (fun _ h9 => h9) rfl (by decide +kernel) rfl rfl (by rw [List.length_map, List.length_range]; decide) dX12_init_870 (fun H locs hP hD hS => ?_)
  obtain ⟨FF92, hFF92⟩ : ∃ f : Nat → Value, f = va_up FF91 94 (.long (0 : Int64)) := ⟨_, rfl⟩
  have X : Hx D TT63 A s H locs ((h, .inr (12, (List.range 114).map FF92)) :: rr63) := by subst hFF92; exact Hx_set X obj_set hP hD hS
  refine lv_aload_n hx hb dX12_init_873 rfl (lv_at hl 0 rfl) ?_
  refine lv_iconst (v := (0 : Int32)) hx hb dX12_init_874 (by decide) ?_
  refine va_put (D := D.1) (ci := 12) (v := .int (0 : Int32)) (ty := tyX12 95) (C := RX12) (T := TX12) (N := 114) hx hb hts wi_X12 tyX12 tyX12_ok nmX12 hown X.1 X.2.1 X.2.2.1 X.2.2.2.1 0 rfl rfl 95 (by decide) (hts _ q7_30) (fun _ h9 => h9) rfl (by decide +kernel) rfl rfl (by rw [List.length_map, List.length_range]; decide) dX12_init_875 (fun H locs hP hD hS => ?_)
  obtain ⟨FF93, hFF93⟩ : ∃ f : Nat → Value, f = va_up FF92 95 (.int (0 : Int32)) := ⟨_, rfl⟩
  have X : Hx D TT63 A s H locs ((h, .inr (12, (List.range 114).map FF93)) :: rr63) := by subst hFF93; exact Hx_set X obj_set hP hD hS
  refine lv_aload_n hx hb dX12_init_878 rfl (lv_at hl 0 rfl) ?_
  refine lv_iconst (v := (0 : Int32)) hx hb dX12_init_879 (by decide) ?_
  refine va_put (D := D.1) (ci := 12) (v := .int (0 : Int32)) (ty := tyX12 96) (C := RX12) (T := TX12) (N := 114) hx hb hts wi_X12 tyX12 tyX12_ok nmX12 hown X.1 X.2.1 X.2.2.1 X.2.2.2.1 0 rfl rfl 96 (by decide) (hts _ q7_31) (fun _ h9 => h9) rfl (by decide +kernel) rfl rfl (by rw [List.length_map, List.length_range]; decide) dX12_init_880 (fun H locs hP hD hS => ?_)
  obtain ⟨FF94, hFF94⟩ : ∃ f : Nat → Value, f = va_up FF93 96 (.int (0 : Int32)) := ⟨_, rfl⟩
  have X : Hx D TT63 A s H locs ((h, .inr (12, (List.range 114).map FF94)) :: rr63) := by subst hFF94; exact Hx_set X obj_set hP hD hS
  refine lv_aload_n hx hb dX12_init_883 rfl (lv_at hl 0 rfl) ?_
  refine lv_lconst (v := (0 : Int64)) hx hb dX12_init_884 (by decide) ?_
  refine va_put (D := D.1) (ci := 12) (v := .long (0 : Int64)) (ty := tyX12 97) (C := RX12) (T := TX12) (N := 114) hx hb hts wi_X12 tyX12 tyX12_ok nmX12 hown X.1 X.2.1 X.2.2.1 X.2.2.2.1 0 rfl rfl 97 (by decide) (hts _ q7_32) (fun _ h9 => h9) rfl (by decide +kernel) rfl rfl (by rw [List.length_map, List.length_range]; decide) dX12_init_885 (fun H locs hP hD hS => ?_)
  obtain ⟨FF95, hFF95⟩ : ∃ f : Nat → Value, f = va_up FF94 97 (.long (0 : Int64)) := ⟨_, rfl⟩
  have X : Hx D TT63 A s H locs ((h, .inr (12, (List.range 114).map FF95)) :: rr63) := by subst hFF95; exact Hx_set X obj_set hP hD hS
  refine lv_aload_n hx hb dX12_init_888 rfl (lv_at hl 0 rfl) ?_
  refine lv_bipush (v := (100 : Int32)) hx hb dX12_init_889 (by decide) ?_
  refine va_newa (a0 := (100, .inl (fun _ => 0))) (N' := 100) hx hb (hts _ q1_45) rfl X.1 X.2.1 X.2.2.1 X.2.2.2.1 X.2.2.2.2.1 (fun _ => rfl) (by decide) (by decide) (by decide) (Nat.le_of_ble_eq_true rfl) (Nat.le_of_ble_eq_true rfl) dX12_init_891 (fun q64 y64 H hK hP hD hS => ?_)
  obtain ⟨rr64, hrr64⟩ : ∃ r : va_W, r = rr63 ++ [(q64, .inl (y64, 100, .inl (fun _ => 0)))] := ⟨_, rfl⟩
  obtain ⟨TT64, hTT64⟩ : ∃ r : List (ClassId × FieldType), r = TT63 ++ [(y64, .byte)] := ⟨_, rfl⟩
  have X : Hx D TT64 A s H locs ((h, .inr (12, (List.range 114).map FF95)) :: rr64) := by subst hrr64 hTT64; exact ⟨hK, hP, hD, hS, X.2.2.2.2⟩
  refine W.widen (k := 64) (n := 89009) (Nat.le_of_ble_eq_true rfl) (Nat.le_of_ble_eq_true rfl) ?_
  refine va_putF (D := D.1) (ci := 12) (v := .ref q64) (ty := tyX12 98) (C := RX12) (T := TX12) (N := 114) hx hb hts wi_X12 tyX12 tyX12_ok nmX12 hown X.1 X.2.1 X.2.2.1 X.2.2.2.1 0 rfl rfl 98 (by decide) (hts _ q7_33) (fun _ h9 => h9) rfl hin rfl (by decide +kernel) rfl rfl (by rw [List.length_map, List.length_range]; decide) dX12_init_893 (fun H locs hP hD hS => ?_)
  obtain ⟨FF96, hFF96⟩ : ∃ f : Nat → Value, f = va_up FF95 98 (.ref q64) := ⟨_, rfl⟩
  have X : Hx D TT64 A s H locs ((h, .inr (12, (List.range 114).map FF96)) :: rr64) := by subst hFF96; exact Hx_set X obj_set hP hD hS
  refine lv_aload_n hx hb dX12_init_896 rfl (lv_at hl 0 rfl) ?_
  refine lv_iconst (v := (0 : Int32)) hx hb dX12_init_897 (by decide) ?_
  refine va_put (D := D.1) (ci := 12) (v := .int (0 : Int32)) (ty := tyX12 99) (C := RX12) (T := TX12) (N := 114) hx hb hts wi_X12 tyX12 tyX12_ok nmX12 hown X.1 X.2.1 X.2.2.1 X.2.2.2.1 0 rfl rfl 99 (by decide) (hts _ q7_34) (fun _ h9 => h9) rfl (by decide +kernel) rfl rfl (by rw [List.length_map, List.length_range]; decide) dX12_init_898 (fun H locs hP hD hS => ?_)
  obtain ⟨FF97, hFF97⟩ : ∃ f : Nat → Value, f = va_up FF96 99 (.int (0 : Int32)) := ⟨_, rfl⟩
  have X : Hx D TT64 A s H locs ((h, .inr (12, (List.range 114).map FF97)) :: rr64) := by subst hFF97; exact Hx_set X obj_set hP hD hS
  refine lv_aload_n hx hb dX12_init_901 rfl (lv_at hl 0 rfl) ?_
  refine lv_bipush (v := (30 : Int32)) hx hb dX12_init_902 (by decide) ?_
  refine va_newa (a0 := (30, .inl (fun _ => 0))) (N' := 30) hx hb (hts _ q1_45) rfl X.1 X.2.1 X.2.2.1 X.2.2.2.1 X.2.2.2.2.1 (fun _ => rfl) (by decide) (by decide) (by decide) (Nat.le_of_ble_eq_true rfl) (Nat.le_of_ble_eq_true rfl) dX12_init_904 (fun q65 y65 H hK hP hD hS => ?_)
  obtain ⟨rr65, hrr65⟩ : ∃ r : va_W, r = rr64 ++ [(q65, .inl (y65, 30, .inl (fun _ => 0)))] := ⟨_, rfl⟩
  obtain ⟨TT65, hTT65⟩ : ∃ r : List (ClassId × FieldType), r = TT64 ++ [(y65, .byte)] := ⟨_, rfl⟩
  have X : Hx D TT65 A s H locs ((h, .inr (12, (List.range 114).map FF97)) :: rr65) := by subst hrr65 hTT65; exact ⟨hK, hP, hD, hS, X.2.2.2.2⟩
  refine W.widen (k := 65) (n := 89039) (Nat.le_of_ble_eq_true rfl) (Nat.le_of_ble_eq_true rfl) ?_
  refine va_putF (D := D.1) (ci := 12) (v := .ref q65) (ty := tyX12 100) (C := RX12) (T := TX12) (N := 114) hx hb hts wi_X12 tyX12 tyX12_ok nmX12 hown X.1 X.2.1 X.2.2.1 X.2.2.2.1 0 rfl rfl 100 (by decide) (hts _ q7_35) (fun _ h9 => h9) rfl hin rfl (by decide +kernel) rfl rfl (by rw [List.length_map, List.length_range]; decide) dX12_init_906 (fun H locs hP hD hS => ?_)
  obtain ⟨FF98, hFF98⟩ : ∃ f : Nat → Value, f = va_up FF97 100 (.ref q65) := ⟨_, rfl⟩
  have X : Hx D TT65 A s H locs ((h, .inr (12, (List.range 114).map FF98)) :: rr65) := by subst hFF98; exact Hx_set X obj_set hP hD hS
  refine lv_aload_n hx hb dX12_init_909 rfl (lv_at hl 0 rfl) ?_
  refine lv_iconst (v := (0 : Int32)) hx hb dX12_init_910 (by decide) ?_
  refine va_put (D := D.1) (ci := 12) (v := .int (0 : Int32)) (ty := tyX12 101) (C := RX12) (T := TX12) (N := 114) hx hb hts wi_X12 tyX12 tyX12_ok nmX12 hown X.1 X.2.1 X.2.2.1 X.2.2.2.1 0 rfl rfl 101 (by decide) (hts _ q7_36) (fun _ h9 => h9) rfl (by decide +kernel) rfl rfl (by rw [List.length_map, List.length_range]; decide) dX12_init_911 (fun H locs hP hD hS => ?_)
  obtain ⟨FF99, hFF99⟩ : ∃ f : Nat → Value, f = va_up FF98 101 (.int (0 : Int32)) := ⟨_, rfl⟩
  have X : Hx D TT65 A s H locs ((h, .inr (12, (List.range 114).map FF99)) :: rr65) := by subst hFF99; exact Hx_set X obj_set hP hD hS
  refine lv_aload_n hx hb dX12_init_914 rfl (lv_at hl 0 rfl) ?_
  refine lv_iconst (v := (4 : Int32)) hx hb dX12_init_915 (by decide) ?_
  refine va_newa (a0 := (4, .inl (fun _ => 0))) (N' := 4) hx hb (hts _ q1_125) rfl X.1 X.2.1 X.2.2.1 X.2.2.2.1 X.2.2.2.2.1 (fun _ => rfl) (by decide) (by decide) (by decide) (Nat.le_of_ble_eq_true rfl) (Nat.le_of_ble_eq_true rfl) dX12_init_916 (fun q66 y66 H hK hP hD hS => ?_)
  obtain ⟨rr66, hrr66⟩ : ∃ r : va_W, r = rr65 ++ [(q66, .inl (y66, 4, .inl (fun _ => 0)))] := ⟨_, rfl⟩
  obtain ⟨TT66, hTT66⟩ : ∃ r : List (ClassId × FieldType), r = TT65 ++ [(y66, .int)] := ⟨_, rfl⟩
  have X : Hx D TT66 A s H locs ((h, .inr (12, (List.range 114).map FF99)) :: rr66) := by subst hrr66 hTT66; exact ⟨hK, hP, hD, hS, X.2.2.2.2⟩
  refine W.widen (k := 66) (n := 89043) (Nat.le_of_ble_eq_true rfl) (Nat.le_of_ble_eq_true rfl) ?_
  refine va_putF (D := D.1) (ci := 12) (v := .ref q66) (ty := tyX12 102) (C := RX12) (T := TX12) (N := 114) hx hb hts wi_X12 tyX12 tyX12_ok nmX12 hown X.1 X.2.1 X.2.2.1 X.2.2.2.1 0 rfl rfl 102 (by decide) (hts _ q7_37) (fun _ h9 => h9) rfl hin rfl (by decide +kernel) rfl rfl (by rw [List.length_map, List.length_range]; decide) dX12_init_918 (fun H locs hP hD hS => ?_)
  obtain ⟨FF100, hFF100⟩ : ∃ f : Nat → Value, f = va_up FF99 102 (.ref q66) := ⟨_, rfl⟩
  have X : Hx D TT66 A s H locs ((h, .inr (12, (List.range 114).map FF100)) :: rr66) := by subst hFF100; exact Hx_set X obj_set hP hD hS
  refine lv_aload_n hx hb dX12_init_921 rfl (lv_at hl 0 rfl) ?_
  refine lv_iconst (v := (4 : Int32)) hx hb dX12_init_922 (by decide) ?_
  refine va_newa (a0 := (4, .inl (fun _ => 0))) (N' := 4) hx hb (hts _ q1_125) rfl X.1 X.2.1 X.2.2.1 X.2.2.2.1 X.2.2.2.2.1 (fun _ => rfl) (by decide) (by decide) (by decide) (Nat.le_of_ble_eq_true rfl) (Nat.le_of_ble_eq_true rfl) dX12_init_923 (fun q67 y67 H hK hP hD hS => ?_)
  obtain ⟨rr67, hrr67⟩ : ∃ r : va_W, r = rr66 ++ [(q67, .inl (y67, 4, .inl (fun _ => 0)))] := ⟨_, rfl⟩
  obtain ⟨TT67, hTT67⟩ : ∃ r : List (ClassId × FieldType), r = TT66 ++ [(y67, .int)] := ⟨_, rfl⟩
  have X : Hx D TT67 A s H locs ((h, .inr (12, (List.range 114).map FF100)) :: rr67) := by subst hrr67 hTT67; exact ⟨hK, hP, hD, hS, X.2.2.2.2⟩
  refine W.widen (k := 67) (n := 89047) (Nat.le_of_ble_eq_true rfl) (Nat.le_of_ble_eq_true rfl) ?_
  refine va_putF (D := D.1) (ci := 12) (v := .ref q67) (ty := tyX12 103) (C := RX12) (T := TX12) (N := 114) hx hb hts wi_X12 tyX12 tyX12_ok nmX12 hown X.1 X.2.1 X.2.2.1 X.2.2.2.1 0 rfl rfl 103 (by decide) (hts _ q7_38) (fun _ h9 => h9) rfl hin rfl (by decide +kernel) rfl rfl (by rw [List.length_map, List.length_range]; decide) dX12_init_925 (fun H locs hP hD hS => ?_)
  obtain ⟨FF101, hFF101⟩ : ∃ f : Nat → Value, f = va_up FF100 103 (.ref q67) := ⟨_, rfl⟩
  have X : Hx D TT67 A s H locs ((h, .inr (12, (List.range 114).map FF101)) :: rr67) := by subst hFF101; exact Hx_set X obj_set hP hD hS
  refine lv_aload_n hx hb dX12_init_928 rfl (lv_at hl 0 rfl) ?_
  refine lv_sipush (v := (160 : Int32)) hx hb dX12_init_929 (by decide) ?_
  refine va_newa (a0 := (160, .inr (.inl (fun _ => 0)))) (N' := 160) hx hb (hts _ q1_124) rfl X.1 X.2.1 X.2.2.1 X.2.2.2.1 X.2.2.2.2.1 (fun _ => rfl) (by decide) (by decide) (by decide) (Nat.le_of_ble_eq_true rfl) (Nat.le_of_ble_eq_true rfl) dX12_init_932 (fun q68 y68 H hK hP hD hS => ?_)
  obtain ⟨rr68, hrr68⟩ : ∃ r : va_W, r = rr67 ++ [(q68, .inl (y68, 160, .inr (.inl (fun _ => 0))))] := ⟨_, rfl⟩
  obtain ⟨TT68, hTT68⟩ : ∃ r : List (ClassId × FieldType), r = TT67 ++ [(y68, .long)] := ⟨_, rfl⟩
  have X : Hx D TT68 A s H locs ((h, .inr (12, (List.range 114).map FF101)) :: rr68) := by subst hrr68 hTT68; exact ⟨hK, hP, hD, hS, X.2.2.2.2⟩
  refine W.widen (k := 68) (n := 89207) (Nat.le_of_ble_eq_true rfl) (Nat.le_of_ble_eq_true rfl) ?_
  refine va_putF (D := D.1) (ci := 12) (v := .ref q68) (ty := tyX12 104) (C := RX12) (T := TX12) (N := 114) hx hb hts wi_X12 tyX12 tyX12_ok nmX12 hown X.1 X.2.1 X.2.2.1 X.2.2.2.1 0 rfl rfl 104 (by decide) (hts _ q7_39) (fun _ h9 => h9) rfl hin rfl (by decide +kernel) rfl rfl (by rw [List.length_map, List.length_range]; decide) dX12_init_934 (fun H locs hP hD hS => ?_)
  obtain ⟨FF102, hFF102⟩ : ∃ f : Nat → Value, f = va_up FF101 104 (.ref q68) := ⟨_, rfl⟩
  have X : Hx D TT68 A s H locs ((h, .inr (12, (List.range 114).map FF102)) :: rr68) := by subst hFF102; exact Hx_set X obj_set hP hD hS
  refine lv_aload_n hx hb dX12_init_937 rfl (lv_at hl 0 rfl) ?_
  refine lv_sipush (v := (160 : Int32)) hx hb dX12_init_938 (by decide) ?_
  refine va_newa (a0 := (160, .inr (.inl (fun _ => 0)))) (N' := 160) hx hb (hts _ q1_124) rfl X.1 X.2.1 X.2.2.1 X.2.2.2.1 X.2.2.2.2.1 (fun _ => rfl) (by decide) (by decide) (by decide) (Nat.le_of_ble_eq_true rfl) (Nat.le_of_ble_eq_true rfl) dX12_init_941 (fun q69 y69 H hK hP hD hS => ?_)
  obtain ⟨rr69, hrr69⟩ : ∃ r : va_W, r = rr68 ++ [(q69, .inl (y69, 160, .inr (.inl (fun _ => 0))))] := ⟨_, rfl⟩
  obtain ⟨TT69, hTT69⟩ : ∃ r : List (ClassId × FieldType), r = TT68 ++ [(y69, .long)] := ⟨_, rfl⟩
  have X : Hx D TT69 A s H locs ((h, .inr (12, (List.range 114).map FF102)) :: rr69) := by subst hrr69 hTT69; exact ⟨hK, hP, hD, hS, X.2.2.2.2⟩
  refine W.widen (k := 69) (n := 89367) (Nat.le_of_ble_eq_true rfl) (Nat.le_of_ble_eq_true rfl) ?_
  refine va_putF (D := D.1) (ci := 12) (v := .ref q69) (ty := tyX12 105) (C := RX12) (T := TX12) (N := 114) hx hb hts wi_X12 tyX12 tyX12_ok nmX12 hown X.1 X.2.1 X.2.2.1 X.2.2.2.1 0 rfl rfl 105 (by decide) (hts _ q7_40) (fun _ h9 => h9) rfl hin rfl (by decide +kernel) rfl rfl (by rw [List.length_map, List.length_range]; decide) dX12_init_943 (fun H locs hP hD hS => ?_)
  obtain ⟨FF103, hFF103⟩ : ∃ f : Nat → Value, f = va_up FF102 105 (.ref q69) := ⟨_, rfl⟩
  have X : Hx D TT69 A s H locs ((h, .inr (12, (List.range 114).map FF103)) :: rr69) := by subst hFF103; exact Hx_set X obj_set hP hD hS
  refine lv_aload_n hx hb dX12_init_946 rfl (lv_at hl 0 rfl) ?_
  refine lv_sipush (v := (5120 : Int32)) hx hb dX12_init_947 (by decide) ?_
  refine va_newa (a0 := (5120, .inr (.inl (fun _ => 0)))) (N' := 5120) hx hb (hts _ q1_124) rfl X.1 X.2.1 X.2.2.1 X.2.2.2.1 X.2.2.2.2.1 (fun _ => rfl) (by decide) (by decide) (by decide) (Nat.le_of_ble_eq_true rfl) (Nat.le_of_ble_eq_true rfl) dX12_init_950 (fun q70 y70 H hK hP hD hS => ?_)
  obtain ⟨rr70, hrr70⟩ : ∃ r : va_W, r = rr69 ++ [(q70, .inl (y70, 5120, .inr (.inl (fun _ => 0))))] := ⟨_, rfl⟩
  obtain ⟨TT70, hTT70⟩ : ∃ r : List (ClassId × FieldType), r = TT69 ++ [(y70, .long)] := ⟨_, rfl⟩
  have X : Hx D TT70 A s H locs ((h, .inr (12, (List.range 114).map FF103)) :: rr70) := by subst hrr70 hTT70; exact ⟨hK, hP, hD, hS, X.2.2.2.2⟩
  refine W.widen (k := 70) (n := 94487) (Nat.le_of_ble_eq_true rfl) (Nat.le_of_ble_eq_true rfl) ?_
  refine va_putF (D := D.1) (ci := 12) (v := .ref q70) (ty := tyX12 106) (C := RX12) (T := TX12) (N := 114) hx hb hts wi_X12 tyX12 tyX12_ok nmX12 hown X.1 X.2.1 X.2.2.1 X.2.2.2.1 0 rfl rfl 106 (by decide) (hts _ q7_41) (fun _ h9 => h9) rfl hin rfl (by decide +kernel) rfl rfl (by rw [List.length_map, List.length_range]; decide) dX12_init_952 (fun H locs hP hD hS => ?_)
  obtain ⟨FF104, hFF104⟩ : ∃ f : Nat → Value, f = va_up FF103 106 (.ref q70) := ⟨_, rfl⟩
  have X : Hx D TT70 A s H locs ((h, .inr (12, (List.range 114).map FF104)) :: rr70) := by subst hFF104; exact Hx_set X obj_set hP hD hS
  refine lv_aload_n hx hb dX12_init_955 rfl (lv_at hl 0 rfl) ?_
  refine lv_sipush (v := (624 : Int32)) hx hb dX12_init_956 (by decide) ?_
  refine va_newa (a0 := (624, .inl (fun _ => 0))) (N' := 624) hx hb (hts _ q1_125) rfl X.1 X.2.1 X.2.2.1 X.2.2.2.1 X.2.2.2.2.1 (fun _ => rfl) (by decide) (by decide) (by decide) (Nat.le_of_ble_eq_true rfl) (Nat.le_of_ble_eq_true rfl) dX12_init_959 (fun q71 y71 H hK hP hD hS => ?_)
  obtain ⟨rr71, hrr71⟩ : ∃ r : va_W, r = rr70 ++ [(q71, .inl (y71, 624, .inl (fun _ => 0)))] := ⟨_, rfl⟩
  obtain ⟨TT71, hTT71⟩ : ∃ r : List (ClassId × FieldType), r = TT70 ++ [(y71, .int)] := ⟨_, rfl⟩
  have X : Hx D TT71 A s H locs ((h, .inr (12, (List.range 114).map FF104)) :: rr71) := by subst hrr71 hTT71; exact ⟨hK, hP, hD, hS, X.2.2.2.2⟩
  refine W.widen (k := 71) (n := 95111) (Nat.le_of_ble_eq_true rfl) (Nat.le_of_ble_eq_true rfl) ?_
  refine va_putF (D := D.1) (ci := 12) (v := .ref q71) (ty := tyX12 107) (C := RX12) (T := TX12) (N := 114) hx hb hts wi_X12 tyX12 tyX12_ok nmX12 hown X.1 X.2.1 X.2.2.1 X.2.2.2.1 0 rfl rfl 107 (by decide) (hts _ q7_42) (fun _ h9 => h9) rfl hin rfl (by decide +kernel) rfl rfl (by rw [List.length_map, List.length_range]; decide) dX12_init_961 (fun H locs hP hD hS => ?_)
  obtain ⟨FF105, hFF105⟩ : ∃ f : Nat → Value, f = va_up FF104 107 (.ref q71) := ⟨_, rfl⟩
  have X : Hx D TT71 A s H locs ((h, .inr (12, (List.range 114).map FF105)) :: rr71) := by subst hFF105; exact Hx_set X obj_set hP hD hS
  refine lv_aload_n hx hb dX12_init_964 rfl (lv_at hl 0 rfl) ?_
  refine lv_bipush (v := (48 : Int32)) hx hb dX12_init_965 (by decide) ?_
  refine va_newa (a0 := (48, .inl (fun _ => 0))) (N' := 48) hx hb (hts _ q1_125) rfl X.1 X.2.1 X.2.2.1 X.2.2.2.1 X.2.2.2.2.1 (fun _ => rfl) (by decide) (by decide) (by decide) (Nat.le_of_ble_eq_true rfl) (Nat.le_of_ble_eq_true rfl) dX12_init_967 (fun q72 y72 H hK hP hD hS => ?_)
  obtain ⟨rr72, hrr72⟩ : ∃ r : va_W, r = rr71 ++ [(q72, .inl (y72, 48, .inl (fun _ => 0)))] := ⟨_, rfl⟩
  obtain ⟨TT72, hTT72⟩ : ∃ r : List (ClassId × FieldType), r = TT71 ++ [(y72, .int)] := ⟨_, rfl⟩
  have X : Hx D TT72 A s H locs ((h, .inr (12, (List.range 114).map FF105)) :: rr72) := by subst hrr72 hTT72; exact ⟨hK, hP, hD, hS, X.2.2.2.2⟩
  refine W.widen (k := 72) (n := 95159) (Nat.le_of_ble_eq_true rfl) (Nat.le_of_ble_eq_true rfl) ?_
  refine va_putF (D := D.1) (ci := 12) (v := .ref q72) (ty := tyX12 108) (C := RX12) (T := TX12) (N := 114) hx hb hts wi_X12 tyX12 tyX12_ok nmX12 hown X.1 X.2.1 X.2.2.1 X.2.2.2.1 0 rfl rfl 108 (by decide) (hts _ q7_43) (fun _ h9 => h9) rfl hin rfl (by decide +kernel) rfl rfl (by rw [List.length_map, List.length_range]; decide) dX12_init_969 (fun H locs hP hD hS => ?_)
  obtain ⟨FF106, hFF106⟩ : ∃ f : Nat → Value, f = va_up FF105 108 (.ref q72) := ⟨_, rfl⟩
  have X : Hx D TT72 A s H locs ((h, .inr (12, (List.range 114).map FF106)) :: rr72) := by subst hFF106; exact Hx_set X obj_set hP hD hS
  refine lv_aload_n hx hb dX12_init_972 rfl (lv_at hl 0 rfl) ?_
  refine lv_iconst (v := (4 : Int32)) hx hb dX12_init_973 (by decide) ?_
  refine va_newa (a0 := (4, .inr (.inl (fun _ => 0)))) (N' := 4) hx hb (hts _ q1_124) rfl X.1 X.2.1 X.2.2.1 X.2.2.2.1 X.2.2.2.2.1 (fun _ => rfl) (by decide) (by decide) (by decide) (Nat.le_of_ble_eq_true rfl) (Nat.le_of_ble_eq_true rfl) dX12_init_974 (fun q73 y73 H hK hP hD hS => ?_)
  obtain ⟨rr73, hrr73⟩ : ∃ r : va_W, r = rr72 ++ [(q73, .inl (y73, 4, .inr (.inl (fun _ => 0))))] := ⟨_, rfl⟩
  obtain ⟨TT73, hTT73⟩ : ∃ r : List (ClassId × FieldType), r = TT72 ++ [(y73, .long)] := ⟨_, rfl⟩
  have X : Hx D TT73 A s H locs ((h, .inr (12, (List.range 114).map FF106)) :: rr73) := by subst hrr73 hTT73; exact ⟨hK, hP, hD, hS, X.2.2.2.2⟩
  refine W.widen (k := 73) (n := 95163) (Nat.le_of_ble_eq_true rfl) (Nat.le_of_ble_eq_true rfl) ?_
  refine va_putF (D := D.1) (ci := 12) (v := .ref q73) (ty := tyX12 109) (C := RX12) (T := TX12) (N := 114) hx hb hts wi_X12 tyX12 tyX12_ok nmX12 hown X.1 X.2.1 X.2.2.1 X.2.2.2.1 0 rfl rfl 109 (by decide) (hts _ q7_44) (fun _ h9 => h9) rfl hin rfl (by decide +kernel) rfl rfl (by rw [List.length_map, List.length_range]; decide) dX12_init_976 (fun H locs hP hD hS => ?_)
  obtain ⟨FF107, hFF107⟩ : ∃ f : Nat → Value, f = va_up FF106 109 (.ref q73) := ⟨_, rfl⟩
  have X : Hx D TT73 A s H locs ((h, .inr (12, (List.range 114).map FF107)) :: rr73) := by subst hFF107; exact Hx_set X obj_set hP hD hS
  refine lv_aload_n hx hb dX12_init_979 rfl (lv_at hl 0 rfl) ?_
  refine lv_iconst (v := (4 : Int32)) hx hb dX12_init_980 (by decide) ?_
  refine va_newa (a0 := (4, .inl (fun _ => 0))) (N' := 4) hx hb (hts _ q1_125) rfl X.1 X.2.1 X.2.2.1 X.2.2.2.1 X.2.2.2.2.1 (fun _ => rfl) (by decide) (by decide) (by decide) (Nat.le_of_ble_eq_true rfl) (Nat.le_of_ble_eq_true rfl) dX12_init_981 (fun q74 y74 H hK hP hD hS => ?_)
  obtain ⟨rr74, hrr74⟩ : ∃ r : va_W, r = rr73 ++ [(q74, .inl (y74, 4, .inl (fun _ => 0)))] := ⟨_, rfl⟩
  obtain ⟨TT74, hTT74⟩ : ∃ r : List (ClassId × FieldType), r = TT73 ++ [(y74, .int)] := ⟨_, rfl⟩
  have X : Hx D TT74 A s H locs ((h, .inr (12, (List.range 114).map FF107)) :: rr74) := by subst hrr74 hTT74; exact ⟨hK, hP, hD, hS, X.2.2.2.2⟩
  refine W.widen (k := 74) (n := 95167) (Nat.le_of_ble_eq_true rfl) (Nat.le_of_ble_eq_true rfl) ?_
  refine va_putF (D := D.1) (ci := 12) (v := .ref q74) (ty := tyX12 110) (C := RX12) (T := TX12) (N := 114) hx hb hts wi_X12 tyX12 tyX12_ok nmX12 hown X.1 X.2.1 X.2.2.1 X.2.2.2.1 0 rfl rfl 110 (by decide) (hts _ q7_45) (fun _ h9 => h9) rfl hin rfl (by decide +kernel) rfl rfl (by rw [List.length_map, List.length_range]; decide) dX12_init_983 (fun H locs hP hD hS => ?_)
  obtain ⟨FF108, hFF108⟩ : ∃ f : Nat → Value, f = va_up FF107 110 (.ref q74) := ⟨_, rfl⟩
  have X : Hx D TT74 A s H locs ((h, .inr (12, (List.range 114).map FF108)) :: rr74) := by subst hFF108; exact Hx_set X obj_set hP hD hS
  refine lv_aload_n hx hb dX12_init_986 rfl (lv_at hl 0 rfl) ?_
  refine lv_sipush (v := (256 : Int32)) hx hb dX12_init_987 (by decide) ?_
  refine va_newa (a0 := (256, .inr (.inl (fun _ => 0)))) (N' := 256) hx hb (hts _ q1_124) rfl X.1 X.2.1 X.2.2.1 X.2.2.2.1 X.2.2.2.2.1 (fun _ => rfl) (by decide) (by decide) (by decide) (Nat.le_of_ble_eq_true rfl) (Nat.le_of_ble_eq_true rfl) dX12_init_990 (fun q75 y75 H hK hP hD hS => ?_)
  obtain ⟨rr75, hrr75⟩ : ∃ r : va_W, r = rr74 ++ [(q75, .inl (y75, 256, .inr (.inl (fun _ => 0))))] := ⟨_, rfl⟩
  obtain ⟨TT75, hTT75⟩ : ∃ r : List (ClassId × FieldType), r = TT74 ++ [(y75, .long)] := ⟨_, rfl⟩
  have X : Hx D TT75 A s H locs ((h, .inr (12, (List.range 114).map FF108)) :: rr75) := by subst hrr75 hTT75; exact ⟨hK, hP, hD, hS, X.2.2.2.2⟩
  refine W.widen (k := 75) (n := 95423) (Nat.le_of_ble_eq_true rfl) (Nat.le_of_ble_eq_true rfl) ?_
  refine va_putF (D := D.1) (ci := 12) (v := .ref q75) (ty := tyX12 111) (C := RX12) (T := TX12) (N := 114) hx hb hts wi_X12 tyX12 tyX12_ok nmX12 hown X.1 X.2.1 X.2.2.1 X.2.2.2.1 0 rfl rfl 111 (by decide) (hts _ q7_46) (fun _ h9 => h9) rfl hin rfl (by decide +kernel) rfl rfl (by rw [List.length_map, List.length_range]; decide) dX12_init_992 (fun H locs hP hD hS => ?_)
  obtain ⟨FF109, hFF109⟩ : ∃ f : Nat → Value, f = va_up FF108 111 (.ref q75) := ⟨_, rfl⟩
  have X : Hx D TT75 A s H locs ((h, .inr (12, (List.range 114).map FF109)) :: rr75) := by subst hFF109; exact Hx_set X obj_set hP hD hS
  refine lv_aload_n hx hb dX12_init_995 rfl (lv_at hl 0 rfl) ?_
  refine lv_sipush (v := (256 : Int32)) hx hb dX12_init_996 (by decide) ?_
  refine va_newa (a0 := (256, .inl (fun _ => 0))) (N' := 256) hx hb (hts _ q1_125) rfl X.1 X.2.1 X.2.2.1 X.2.2.2.1 X.2.2.2.2.1 (fun _ => rfl) (by decide) (by decide) (by decide) (Nat.le_of_ble_eq_true rfl) (Nat.le_of_ble_eq_true rfl) dX12_init_999 (fun q76 y76 H hK hP hD hS => ?_)
  obtain ⟨rr76, hrr76⟩ : ∃ r : va_W, r = rr75 ++ [(q76, .inl (y76, 256, .inl (fun _ => 0)))] := ⟨_, rfl⟩
  obtain ⟨TT76, hTT76⟩ : ∃ r : List (ClassId × FieldType), r = TT75 ++ [(y76, .int)] := ⟨_, rfl⟩
  have X : Hx D TT76 A s H locs ((h, .inr (12, (List.range 114).map FF109)) :: rr76) := by subst hrr76 hTT76; exact ⟨hK, hP, hD, hS, X.2.2.2.2⟩
  refine W.widen (k := 76) (n := 95679) (Nat.le_of_ble_eq_true rfl) (Nat.le_of_ble_eq_true rfl) ?_
  refine va_putF (D := D.1) (ci := 12) (v := .ref q76) (ty := tyX12 112) (C := RX12) (T := TX12) (N := 114) hx hb hts wi_X12 tyX12 tyX12_ok nmX12 hown X.1 X.2.1 X.2.2.1 X.2.2.2.1 0 rfl rfl 112 (by decide) (hts _ q7_47) (fun _ h9 => h9) rfl hin rfl (by decide +kernel) rfl rfl (by rw [List.length_map, List.length_range]; decide) dX12_init_1001 (fun H locs hP hD hS => ?_)
  obtain ⟨FF110, hFF110⟩ : ∃ f : Nat → Value, f = va_up FF109 112 (.ref q76) := ⟨_, rfl⟩
  have X : Hx D TT76 A s H locs ((h, .inr (12, (List.range 114).map FF110)) :: rr76) := by subst hFF110; exact Hx_set X obj_set hP hD hS
  refine lv_aload_n hx hb dX12_init_1004 rfl (lv_at hl 0 rfl) ?_
  refine lv_iconst (v := (4 : Int32)) hx hb dX12_init_1005 (by decide) ?_
  refine va_newa (a0 := (4, .inr (.inl (fun _ => 0)))) (N' := 4) hx hb (hts _ q1_124) rfl X.1 X.2.1 X.2.2.1 X.2.2.2.1 X.2.2.2.2.1 (fun _ => rfl) (by decide) (by decide) (by decide) (Nat.le_of_ble_eq_true rfl) (Nat.le_of_ble_eq_true rfl) dX12_init_1006 (fun q77 y77 H hK hP hD hS => ?_)
  obtain ⟨rr77, hrr77⟩ : ∃ r : va_W, r = rr76 ++ [(q77, .inl (y77, 4, .inr (.inl (fun _ => 0))))] := ⟨_, rfl⟩
  obtain ⟨TT77, hTT77⟩ : ∃ r : List (ClassId × FieldType), r = TT76 ++ [(y77, .long)] := ⟨_, rfl⟩
  have X : Hx D TT77 A s H locs ((h, .inr (12, (List.range 114).map FF110)) :: rr77) := by subst hrr77 hTT77; exact ⟨hK, hP, hD, hS, X.2.2.2.2⟩
  refine W.widen (k := 77) (n := 95683) (Nat.le_of_ble_eq_true rfl) (Nat.le_of_ble_eq_true rfl) ?_
  refine va_putF (D := D.1) (ci := 12) (v := .ref q77) (ty := tyX12 113) (C := RX12) (T := TX12) (N := 114) hx hb hts wi_X12 tyX12 tyX12_ok nmX12 hown X.1 X.2.1 X.2.2.1 X.2.2.2.1 0 rfl rfl 113 (by decide) (hts _ q7_48) (fun _ h9 => h9) rfl hin rfl (by decide +kernel) rfl rfl (by rw [List.length_map, List.length_range]; decide) dX12_init_1008 (fun H locs hP hD hS => ?_)
  obtain ⟨FF111, hFF111⟩ : ∃ f : Nat → Value, f = va_up FF110 113 (.ref q77) := ⟨_, rfl⟩
  have X : Hx D TT77 A s H locs ((h, .inr (12, (List.range 114).map FF111)) :: rr77) := by subst hFF111; exact Hx_set X obj_set hP hD hS
  subst hFF1
  subst hFF2
  subst hFF3
  subst hFF4
  subst hFF5
  subst hFF6
  subst hrr4
  subst hTT4
  subst hFF7
  subst hrr5
  subst hTT5
  subst hFF8
  subst hrr6
  subst hTT6
  subst hFF9
  subst hrr7
  subst hTT7
  subst hFF10
  subst hrr8
  subst hTT8
  subst hFF11
  subst hrr9
  subst hTT9
  subst hFF12
  subst hrr10
  subst hTT10
  subst hFF13
  subst hrr11
  subst hTT11
  subst hFF14
  subst hrr12
  subst hTT12
  subst hFF15
  subst hrr13
  subst hTT13
  subst hFF16
  subst hFF17
  subst hFF18
  subst hFF19
  subst hFF20
  subst hFF21
  subst hFF22
  subst hFF23
  subst hFF24
  subst hFF25
  subst hrr14
  subst hTT14
  subst hFF26
  subst hrr15
  subst hTT15
  subst hFF27
  subst hrr16
  subst hTT16
  subst hFF28
  subst hrr17
  subst hTT17
  subst hFF29
  subst hrr18
  subst hTT18
  subst hFF30
  subst hFF31
  subst hFF32
  subst hFF33
  subst hFF34
  subst hrr19
  subst hTT19
  subst hFF35
  subst hrr20
  subst hTT20
  subst hFF36
  subst hrr21
  subst hTT21
  subst hFF37
  subst hrr22
  subst hTT22
  subst hFF38
  subst hrr23
  subst hTT23
  subst hFF39
  subst hrr24
  subst hTT24
  subst hFF40
  subst hrr25
  subst hTT25
  subst hFF41
  subst hrr26
  subst hTT26
  subst hFF42
  subst hrr27
  subst hTT27
  subst hFF43
  subst hrr28
  subst hTT28
  subst hFF44
  subst hrr29
  subst hTT29
  subst hFF45
  subst hrr30
  subst hTT30
  subst hFF46
  subst hrr31
  subst hTT31
  subst hFF47
  subst hrr32
  subst hTT32
  subst hFF48
  subst hrr33
  subst hTT33
  subst hFF49
  subst hrr34
  subst hTT34
  subst hFF50
  subst hrr35
  subst hTT35
  subst hFF51
  subst hrr36
  subst hTT36
  subst hFF52
  subst hrr37
  subst hTT37
  subst hFF53
  subst hrr38
  subst hTT38
  subst hFF54
  subst hrr39
  subst hTT39
  subst hFF55
  subst hFF56
  subst hFF57
  subst hFF58
  subst hFF59
  subst hFF60
  subst hFF61
  subst hFF62
  subst hrr40
  subst hTT40
  subst hFF63
  subst hrr41
  subst hTT41
  subst hFF64
  subst hrr42
  subst hTT42
  subst hFF65
  subst hrr43
  subst hTT43
  subst hFF66
  subst hrr44
  subst hTT44
  subst hFF67
  subst hrr45
  subst hTT45
  subst hFF68
  subst hrr46
  subst hTT46
  subst hFF69
  subst hrr47
  subst hTT47
  subst hFF70
  subst hrr48
  subst hTT48
  subst hFF71
  subst hrr49
  subst hTT49
  subst hFF72
  subst hrr50
  subst hTT50
  subst hFF73
  subst hrr51
  subst hTT51
  subst hFF74
  subst hFF75
  subst hrr52
  subst hTT52
  subst hFF76
  subst hrr53
  subst hTT53
  subst hFF77
  subst hrr54
  subst hTT54
  subst hFF78
  subst hrr55
  subst hTT55
  subst hFF79
  subst hrr56
  subst hTT56
  subst hFF80
  subst hrr57
  subst hTT57
  subst hFF81
  subst hrr58
  subst hTT58
  subst hFF82
  subst hrr59
  subst hTT59
  subst hFF83
  subst hrr60
  subst hTT60
  subst hFF84
  subst hFF85
  subst hFF86
  subst hrr61
  subst hTT61
  subst hFF87
  subst hrr62
  subst hTT62
  subst hFF88
  subst hFF89
  subst hrr63
  subst hTT63
  subst hFF90
  subst hFF91
  subst hFF92
  subst hFF93
  subst hFF94
  subst hFF95
  subst hrr64
  subst hTT64
  subst hFF96
  subst hFF97
  subst hrr65
  subst hTT65
  subst hFF98
  subst hFF99
  subst hrr66
  subst hTT66
  subst hFF100
  subst hrr67
  subst hTT67
  subst hFF101
  subst hrr68
  subst hTT68
  subst hFF102
  subst hrr69
  subst hTT69
  subst hFF103
  subst hrr70
  subst hTT70
  subst hFF104
  subst hrr71
  subst hTT71
  subst hFF105
  subst hrr72
  subst hTT72
  subst hFF106
  subst hrr73
  subst hTT73
  subst hFF107
  subst hrr74
  subst hTT74
  subst hFF108
  subst hrr75
  subst hTT75
  subst hFF109
  subst hrr76
  subst hTT76
  subst hFF110
  subst hrr77
  subst hTT77
  subst hFF111
  have e1 : (List.range 114).map (va_up (va_up (va_up (va_up (va_up (va_up (va_up (va_up (va_up (va_up (va_up (va_up (va_up (va_up (va_up (va_up (va_up (va_up (va_up (va_up (va_up (va_up (va_up (va_up (va_up (va_up (va_up (va_up (va_up (va_up (va_up (va_up (va_up (va_up (va_up (va_up (va_up (va_up (va_up (va_up (va_up (va_up (va_up (va_up (va_up (va_up (va_up (va_up (va_up (va_up (va_up (va_up (va_up (va_up (va_up (va_up (va_up (va_up (va_up (va_up (va_up (va_up (va_up (va_up (va_up (va_up (va_up (va_up (va_up (va_up (va_up (va_up (va_up (va_up (va_up (va_up (va_up (va_up (va_up (va_up (va_up (va_up (va_up (va_up (va_up (va_up (va_up (va_up (va_up (va_up (va_up (va_up (va_up (va_up (va_up (va_up (va_up (va_up (va_up (va_up (va_up (va_up (va_up (va_up (va_up (va_up (va_up (va_up (va_up (va_up (va_up (dfl kdX12) 3 (.ref q1)) 4 (.int (0 : Int32))) 5 (.ref q2)) 6 (.int (0 : Int32))) 7 (.ref q3)) 8 (.int (0 : Int32))) 9 (.ref q4)) 10 (.ref q5)) 11 (.ref q6)) 12 (.ref q7)) 13 (.ref q8)) 14 (.ref q9)) 15 (.ref q10)) 16 (.ref q11)) 17 (.ref q12)) 18 (.ref q13)) 19 (.int (0 : Int32))) 20 (.int (0 : Int32))) 21 (.int (0 : Int32))) 22 (.int (0 : Int32))) 23 (.int (-1 : Int32))) 24 (.int (0 : Int32))) 25 (.int (0 : Int32))) 26 (.int (0 : Int32))) 27 (.int (0 : Int32))) 28 (.ref q14)) 29 (.ref q15)) 30 (.ref q16)) 31 (.ref q17)) 32 (.ref q18)) 33 (.int (0 : Int32))) 34 (.int (0 : Int32))) 35 (.int (0 : Int32))) 36 (.int (0 : Int32))) 37 (.ref q19)) 38 (.ref q20)) 39 (.ref q21)) 40 (.ref q22)) 41 (.ref q23)) 42 (.ref q24)) 43 (.ref q25)) 44 (.ref q26)) 45 (.ref q27)) 46 (.ref q28)) 47 (.ref q29)) 48 (.ref q30)) 49 (.ref q31)) 50 (.ref q32)) 51 (.ref q33)) 52 (.ref q34)) 53 (.ref q35)) 54 (.ref q36)) 55 (.ref q37)) 56 (.ref q38)) 57 (.ref q39)) 58 (.int (0 : Int32))) 59 (.int (0 : Int32))) 60 (.int (0 : Int32))) 61 (.int (0 : Int32))) 62 (.int (0 : Int32))) 63 (.int (0 : Int32))) 64 (.int (0 : Int32))) 65 (.ref q40)) 66 (.ref q41)) 67 (.ref q42)) 68 (.ref q43)) 69 (.ref q44)) 70 (.ref q45)) 71 (.ref q46)) 72 (.ref q47)) 73 (.ref q48)) 74 (.ref q49)) 75 (.ref q50)) 76 (.ref q51)) 77 (.int (0 : Int32))) 78 (.ref q52)) 79 (.ref q53)) 80 (.ref q54)) 81 (.ref q55)) 82 (.ref q56)) 83 (.ref q57)) 84 (.ref q58)) 85 (.ref q59)) 86 (.ref q60)) 87 (.long (0 : Int64))) 88 (.int (0 : Int32))) 89 (.ref q61)) 90 (.ref q62)) 91 (.long (4607182418800017408 : Int64))) 92 (.ref q63)) 93 (.int (0 : Int32))) 94 (.long (0 : Int64))) 95 (.int (0 : Int32))) 96 (.int (0 : Int32))) 97 (.long (0 : Int64))) 98 (.ref q64)) 99 (.int (0 : Int32))) 100 (.ref q65)) 101 (.int (0 : Int32))) 102 (.ref q66)) 103 (.ref q67)) 104 (.ref q68)) 105 (.ref q69)) 106 (.ref q70)) 107 (.ref q71)) 108 (.ref q72)) 109 (.ref q73)) 110 (.ref q74)) 111 (.ref q75)) 112 (.ref q76)) 113 (.ref q77)) = (List.range 114).map (fld kdX12 (fun k => ([0, 0, 0, q1, 0, q2, 0, q3, 0, q4, q5, q6, q7, q8, q9, q10, q11, q12, q13, 0, 0, 0, 0, 0, 0, 0, 0, 0, q14, q15, q16, q17, q18, 0, 0, 0, 0, q19, q20, q21, q22, q23, q24, q25, q26, q27, q28, q29, q30, q31, q32, q33, q34, q35, q36, q37, q38, q39, 0, 0, 0, 0, 0, 0, 0, q40, q41, q42, q43, q44, q45, q46, q47, q48, q49, q50, q51, 0, q52, q53, q54, q55, q56, q57, q58, q59, q60, 0, 0, q61, q62, 0, q63, 0, 0, 0, 0, 0, q64, 0, q65, 0, q66, q67, q68, q69, q70, q71, q72, q73, q74, q75, q76, q77] : List Nat).getD k 0) g0X12) := by rfl
  have e2 : ([(q1, .inl (y1, 3000, .inl (fun _ => 0))), (q2, .inl (y2, 3001, .inl (fun _ => 0))), (q3, .inl (y3, 26, .inr (.inl (vp_updL (vp_updL (vp_updL (vp_updL (vp_updL (vp_updL (vp_updL (vp_updL (vp_updL (vp_updL (vp_updL (vp_updL (vp_updL (vp_updL (vp_updL (vp_updL (vp_updL (vp_updL (vp_updL (vp_updL (vp_updL (vp_updL (vp_updL (vp_updL (vp_updL (vp_updL (fun _ => 0) (0 : Int32).toNatClampNeg (1885434484 : Int64)) (1 : Int32).toNatClampNeg (1936224119 : Int64)) (2 : Int32).toNatClampNeg (6513005 : Int64)) (3 : Int32).toNatClampNeg (1650814060 : Int64)) (4 : Int32).toNatClampNeg (1952998766 : Int64)) (5 : Int32).toNatClampNeg (2003330414 : Int64)) (6 : Int32).toNatClampNeg (7302244 : Int64)) (7 : Int32).toNatClampNeg (1937007984 : Int64)) (8 : Int32).toNatClampNeg (499984329587 : Int64)) (9 : Int32).toNatClampNeg (439905906546 : Int64)) (10 : Int32).toNatClampNeg (1667590508 : Int64)) (11 : Int32).toNatClampNeg (1919512180 : Int64)) (12 : Int32).toNatClampNeg (6382195 : Int64)) (13 : Int32).toNatClampNeg (465557353332 : Int64)) (14 : Int32).toNatClampNeg (1836020596 : Int64)) (15 : Int32).toNatClampNeg (6775652 : Int64)) (16 : Int32).toNatClampNeg (1953658213 : Int64)) (17 : Int32).toNatClampNeg (439721161573 : Int64)) (18 : Int32).toNatClampNeg (500136506472 : Int64)) (19 : Int32).toNatClampNeg (1652126821 : Int64)) (20 : Int32).toNatClampNeg (495673373300 : Int64)) (21 : Int32).toNatClampNeg (1667785074 : Int64)) (22 : Int32).toNatClampNeg (6909556 : Int64)) (23 : Int32).toNatClampNeg (1819242087 : Int64)) (24 : Int32).toNatClampNeg (439905902964 : Int64)) (25 : Int32).toNatClampNeg (110429873532005 : Int64))))), (q4, .inl (y4, 3001, .inl (fun _ => 0))), (q5, .inl (y5, 3001, .inl (fun _ => 0))), (q6, .inl (y6, 3001, .inl (fun _ => 0))), (q7, .inl (y7, 3001, .inr (.inl (fun _ => 0)))), (q8, .inl (y8, 3001, .inl (fun _ => 0))), (q9, .inl (y9, 8000, .inl (fun _ => 0))), (q10, .inl (y10, 8000, .inl (fun _ => 0))), (q11, .inl (y11, 8000, .inl (fun _ => 0))), (q12, .inl (y12, 8000, .inl (fun _ => 0))), (q13, .inl (y13, 8000, .inr (.inl (fun _ => 0)))), (q14, .inl (y14, 3001, .inl (fun _ => 0))), (q15, .inl (y15, 3001, .inl (fun _ => 0))), (q16, .inl (y16, 3001, .inl (fun _ => 0))), (q17, .inl (y17, 3001, .inl (fun _ => 0))), (q18, .inl (y18, 3001, .inl (fun _ => 0))), (q19, .inl (y19, 400, .inl (fun _ => 0))), (q20, .inl (y20, 400, .inl (fun _ => 0))), (q21, .inl (y21, 400, .inl (fun _ => 0))), (q22, .inl (y22, 400, .inl (fun _ => 0))), (q23, .inl (y23, 400, .inl (fun _ => 0))), (q24, .inl (y24, 400, .inl (fun _ => 0))), (q25, .inl (y25, 400, .inl (fun _ => 0))), (q26, .inl (y26, 400, .inl (fun _ => 0))), (q27, .inl (y27, 400, .inl (fun _ => 0))), (q28, .inl (y28, 400, .inl (fun _ => 0))), (q29, .inl (y29, 400, .inl (fun _ => 0))), (q30, .inl (y30, 400, .inl (fun _ => 0))), (q31, .inl (y31, 400, .inl (fun _ => 0))), (q32, .inl (y32, 400, .inl (fun _ => 0))), (q33, .inl (y33, 400, .inl (fun _ => 0))), (q34, .inl (y34, 400, .inl (fun _ => 0))), (q35, .inl (y35, 400, .inl (fun _ => 0))), (q36, .inl (y36, 400, .inl (fun _ => 0))), (q37, .inl (y37, 400, .inl (fun _ => 0))), (q38, .inl (y38, 1600, .inr (.inl (fun _ => 0)))), (q39, .inl (y39, 400, .inl (fun _ => 0))), (q40, .inl (y40, 600, .inl (fun _ => 0))), (q41, .inl (y41, 60, .inl (fun _ => 0))), (q42, .inl (y42, 40, .inl (fun _ => 0))), (q43, .inl (y43, 40, .inl (fun _ => 0))), (q44, .inl (y44, 40, .inl (fun _ => 0))), (q45, .inl (y45, 40, .inl (fun _ => 0))), (q46, .inl (y46, 40, .inl (fun _ => 0))), (q47, .inl (y47, 40, .inl (fun _ => 0))), (q48, .inl (y48, 40, .inl (fun _ => 0))), (q49, .inl (y49, 12, .inl (fun _ => 0))), (q50, .inl (y50, 12, .inl (fun _ => 0))), (q51, .inl (y51, 52, .inl (fun _ => 0))), (q52, .inl (y52, 8, .inl (fun _ => 0))), (q53, .inl (y53, 192, .inr (.inl (fun _ => 0)))), (q54, .inl (y54, 40, .inr (.inl (fun _ => 0)))), (q55, .inl (y55, 40, .inr (.inl (fun _ => 0)))), (q56, .inl (y56, 1280, .inr (.inl (fun _ => 0)))), (q57, .inl (y57, 52, .inl (fun _ => 0))), (q58, .inl (y58, 52, .inl (fun _ => 0))), (q59, .inl (y59, 52, .inl (fun _ => 0))), (q60, .inl (y60, 12, .inl (fun _ => 0))), (q61, .inl (y61, 64, .inr (.inl (fun _ => 0)))), (q62, .inl (y62, 64, .inl (fun _ => 0))), (q63, .inl (y63, 400, .inr (.inl (fun _ => 0)))), (q64, .inl (y64, 100, .inl (fun _ => 0))), (q65, .inl (y65, 30, .inl (fun _ => 0))), (q66, .inl (y66, 4, .inl (fun _ => 0))), (q67, .inl (y67, 4, .inl (fun _ => 0))), (q68, .inl (y68, 160, .inr (.inl (fun _ => 0)))), (q69, .inl (y69, 160, .inr (.inl (fun _ => 0)))), (q70, .inl (y70, 5120, .inr (.inl (fun _ => 0)))), (q71, .inl (y71, 624, .inl (fun _ => 0))), (q72, .inl (y72, 48, .inl (fun _ => 0))), (q73, .inl (y73, 4, .inr (.inl (fun _ => 0)))), (q74, .inl (y74, 4, .inl (fun _ => 0))), (q75, .inl (y75, 256, .inr (.inl (fun _ => 0)))), (q76, .inl (y76, 256, .inl (fun _ => 0))), (q77, .inl (y77, 4, .inr (.inl (fun _ => 0))))] : va_W) = ksX12.map (arF akX12 lnX12 (fun k => ([0, 0, 0, q1, 0, q2, 0, q3, 0, q4, q5, q6, q7, q8, q9, q10, q11, q12, q13, 0, 0, 0, 0, 0, 0, 0, 0, 0, q14, q15, q16, q17, q18, 0, 0, 0, 0, q19, q20, q21, q22, q23, q24, q25, q26, q27, q28, q29, q30, q31, q32, q33, q34, q35, q36, q37, q38, q39, 0, 0, 0, 0, 0, 0, 0, q40, q41, q42, q43, q44, q45, q46, q47, q48, q49, q50, q51, 0, q52, q53, q54, q55, q56, q57, q58, q59, q60, 0, 0, q61, q62, 0, q63, 0, 0, 0, 0, 0, q64, 0, q65, 0, q66, q67, q68, q69, q70, q71, q72, q73, q74, q75, q76, q77] : List Nat).getD k 0) (fun k => ([y1, y1, y1, y1, y1, y2, y1, y3, y1, y4, y5, y6, y7, y8, y9, y10, y11, y12, y13, y1, y1, y1, y1, y1, y1, y1, y1, y1, y14, y15, y16, y17, y18, y1, y1, y1, y1, y19, y20, y21, y22, y23, y24, y25, y26, y27, y28, y29, y30, y31, y32, y33, y34, y35, y36, y37, y38, y39, y1, y1, y1, y1, y1, y1, y1, y40, y41, y42, y43, y44, y45, y46, y47, y48, y49, y50, y51, y1, y52, y53, y54, y55, y56, y57, y58, y59, y60, y1, y1, y61, y62, y1, y63, y1, y1, y1, y1, y1, y64, y1, y65, y1, y66, y67, y68, y69, y70, y71, y72, y73, y74, y75, y76, y77] : List ClassId).getD k y1) g0X12) := by rfl
  have X := X
  have hP9 : va_P D.1 vwCl (wX12 h (fun k => ([0, 0, 0, q1, 0, q2, 0, q3, 0, q4, q5, q6, q7, q8, q9, q10, q11, q12, q13, 0, 0, 0, 0, 0, 0, 0, 0, 0, q14, q15, q16, q17, q18, 0, 0, 0, 0, q19, q20, q21, q22, q23, q24, q25, q26, q27, q28, q29, q30, q31, q32, q33, q34, q35, q36, q37, q38, q39, 0, 0, 0, 0, 0, 0, 0, q40, q41, q42, q43, q44, q45, q46, q47, q48, q49, q50, q51, 0, q52, q53, q54, q55, q56, q57, q58, q59, q60, 0, 0, q61, q62, 0, q63, 0, 0, 0, 0, 0, q64, 0, q65, 0, q66, q67, q68, q69, q70, q71, q72, q73, q74, q75, q76, q77] : List Nat).getD k 0) (fun k => ([y1, y1, y1, y1, y1, y2, y1, y3, y1, y4, y5, y6, y7, y8, y9, y10, y11, y12, y13, y1, y1, y1, y1, y1, y1, y1, y1, y1, y14, y15, y16, y17, y18, y1, y1, y1, y1, y19, y20, y21, y22, y23, y24, y25, y26, y27, y28, y29, y30, y31, y32, y33, y34, y35, y36, y37, y38, y39, y1, y1, y1, y1, y1, y1, y1, y40, y41, y42, y43, y44, y45, y46, y47, y48, y49, y50, y51, y1, y52, y53, y54, y55, y56, y57, y58, y59, y60, y1, y1, y61, y62, y1, y63, y1, y1, y1, y1, y1, y64, y1, y65, y1, y66, y67, y68, y69, y70, y71, y72, y73, y74, y75, y76, y77] : List ClassId).getD k y1) g0X12) H := (obj_eq e1 e2) ▸ X.2.1
  have hD9 : va_D A (wX12 h (fun k => ([0, 0, 0, q1, 0, q2, 0, q3, 0, q4, q5, q6, q7, q8, q9, q10, q11, q12, q13, 0, 0, 0, 0, 0, 0, 0, 0, 0, q14, q15, q16, q17, q18, 0, 0, 0, 0, q19, q20, q21, q22, q23, q24, q25, q26, q27, q28, q29, q30, q31, q32, q33, q34, q35, q36, q37, q38, q39, 0, 0, 0, 0, 0, 0, 0, q40, q41, q42, q43, q44, q45, q46, q47, q48, q49, q50, q51, 0, q52, q53, q54, q55, q56, q57, q58, q59, q60, 0, 0, q61, q62, 0, q63, 0, 0, 0, 0, 0, q64, 0, q65, 0, q66, q67, q68, q69, q70, q71, q72, q73, q74, q75, q76, q77] : List Nat).getD k 0) (fun k => ([y1, y1, y1, y1, y1, y2, y1, y3, y1, y4, y5, y6, y7, y8, y9, y10, y11, y12, y13, y1, y1, y1, y1, y1, y1, y1, y1, y1, y14, y15, y16, y17, y18, y1, y1, y1, y1, y19, y20, y21, y22, y23, y24, y25, y26, y27, y28, y29, y30, y31, y32, y33, y34, y35, y36, y37, y38, y39, y1, y1, y1, y1, y1, y1, y1, y40, y41, y42, y43, y44, y45, y46, y47, y48, y49, y50, y51, y1, y52, y53, y54, y55, y56, y57, y58, y59, y60, y1, y1, y61, y62, y1, y63, y1, y1, y1, y1, y1, y64, y1, y65, y1, y66, y67, y68, y69, y70, y71, y72, y73, y74, y75, y76, y77] : List ClassId).getD k y1) g0X12) := (obj_eq e1 e2) ▸ X.2.2.1
  have hK9 : va_K D.1 vwCl (tX12 (fun k => ([y1, y1, y1, y1, y1, y2, y1, y3, y1, y4, y5, y6, y7, y8, y9, y10, y11, y12, y13, y1, y1, y1, y1, y1, y1, y1, y1, y1, y14, y15, y16, y17, y18, y1, y1, y1, y1, y19, y20, y21, y22, y23, y24, y25, y26, y27, y28, y29, y30, y31, y32, y33, y34, y35, y36, y37, y38, y39, y1, y1, y1, y1, y1, y1, y1, y40, y41, y42, y43, y44, y45, y46, y47, y48, y49, y50, y51, y1, y52, y53, y54, y55, y56, y57, y58, y59, y60, y1, y1, y61, y62, y1, y63, y1, y1, y1, y1, y1, y64, y1, y65, y1, y66, y67, y68, y69, y70, y71, y72, y73, y74, y75, y76, y77] : List ClassId).getD k y1)) s := X.1
  exact W.vret hx hb hr (fun t ht hW => ⟨⟨((fun k => ([0, 0, 0, q1, 0, q2, 0, q3, 0, q4, q5, q6, q7, q8, q9, q10, q11, q12, q13, 0, 0, 0, 0, 0, 0, 0, 0, 0, q14, q15, q16, q17, q18, 0, 0, 0, 0, q19, q20, q21, q22, q23, q24, q25, q26, q27, q28, q29, q30, q31, q32, q33, q34, q35, q36, q37, q38, q39, 0, 0, 0, 0, 0, 0, 0, q40, q41, q42, q43, q44, q45, q46, q47, q48, q49, q50, q51, 0, q52, q53, q54, q55, q56, q57, q58, q59, q60, 0, 0, q61, q62, 0, q63, 0, 0, 0, 0, 0, q64, 0, q65, 0, q66, q67, q68, q69, q70, q71, q72, q73, q74, q75, q76, q77] : List Nat).getD k 0), (fun k => ([y1, y1, y1, y1, y1, y2, y1, y3, y1, y4, y5, y6, y7, y8, y9, y10, y11, y12, y13, y1, y1, y1, y1, y1, y1, y1, y1, y1, y14, y15, y16, y17, y18, y1, y1, y1, y1, y19, y20, y21, y22, y23, y24, y25, y26, y27, y28, y29, y30, y31, y32, y33, y34, y35, y36, y37, y38, y39, y1, y1, y1, y1, y1, y1, y1, y40, y41, y42, y43, y44, y45, y46, y47, y48, y49, y50, y51, y1, y52, y53, y54, y55, y56, y57, y58, y59, y60, y1, y1, y61, y62, y1, y63, y1, y1, y1, y1, y1, y64, y1, y65, y1, y66, y67, y68, y69, y70, y71, y72, y73, y74, y75, y76, y77] : List ClassId).getD k y1)), rfl, trivial, by rw [ht]; exact hP9, va_K.moved hW.alike hK9, hD9⟩, X.2.2.2.1.F ht⟩) X.2.2.2.1.2.2 dX12_init_1011 hlk
