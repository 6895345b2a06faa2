theorem q6_215 : Cond.fieldLink RX12 119 "TurningHallModel" "faultKind" "I" ∈ lw_all := lw_in (tc_6 (List.mem_of_getElem? (i := 215) rfl)) rfl
theorem q6_216 : Cond.fieldLink RX12 122 "TurningHallModel" "faultAt" "I" ∈ lw_all := lw_in (tc_6 (List.mem_of_getElem? (i := 216) rfl)) rfl
theorem q6_214 : Cond.fieldLink RX12 116 "TurningHallModel" "t" "I" ∈ lw_all := lw_in (tc_6 (List.mem_of_getElem? (i := 214) rfl)) rfl
theorem q8_177 : Cond.methodLink RX12 537 yX12_fault ∈ lw_all := lw_in (tc_8 (List.mem_of_getElem? (i := 177) rfl)) rfl
theorem q8_179 : Cond.instanceMethod yX12_fault ∈ lw_all := lw_in (tc_8 (List.mem_of_getElem? (i := 179) rfl)) rfl
theorem q0_79 : Cond.selects RX12 yX12_fault yX12_fault ∈ lw_all := lw_in (tc_0 (List.mem_of_getElem? (i := 79) rfl)) rfl
theorem q8_180 : Cond.code yX12_fault cX12_fault 3 (some .boolean) ∈ lw_all := lw_in (tc_8 (List.mem_of_getElem? (i := 180) rfl)) rfl
theorem q6_217 : Cond.fieldLink RX12 125 "TurningHallModel" "tooMuch" "I" ∈ lw_all := lw_in (tc_6 (List.mem_of_getElem? (i := 217) rfl)) rfl
theorem q6_218 : Cond.fieldLink RX12 128 "TurningHallModel" "nodes" "I" ∈ lw_all := lw_in (tc_6 (List.mem_of_getElem? (i := 218) rfl)) rfl
theorem q8_181 : Cond.methodLink RX12 541 yX12_much ∈ lw_all := lw_in (tc_8 (List.mem_of_getElem? (i := 181) rfl)) rfl
theorem q8_183 : Cond.instanceMethod yX12_much ∈ lw_all := lw_in (tc_8 (List.mem_of_getElem? (i := 183) rfl)) rfl
theorem q0_80 : Cond.selects RX12 yX12_much yX12_much ∈ lw_all := lw_in (tc_0 (List.mem_of_getElem? (i := 80) rfl)) rfl
theorem q8_184 : Cond.code yX12_much cX12_much 2 none ∈ lw_all := lw_in (tc_8 (List.mem_of_getElem? (i := 184) rfl)) rfl
theorem q8_173 : Cond.methodLink RX12 544 yX12_cannot ∈ lw_all := lw_in (tc_8 (List.mem_of_getElem? (i := 173) rfl)) rfl
theorem q8_175 : Cond.instanceMethod yX12_cannot ∈ lw_all := lw_in (tc_8 (List.mem_of_getElem? (i := 175) rfl)) rfl
theorem q0_78 : Cond.selects RX12 yX12_cannot yX12_cannot ∈ lw_all := lw_in (tc_0 (List.mem_of_getElem? (i := 78) rfl)) rfl
theorem q8_176 : Cond.code yX12_cannot cX12_cannot 1 (some .boolean) ∈ lw_all := lw_in (tc_8 (List.mem_of_getElem? (i := 176) rfl)) rfl
theorem q6_208 : Cond.fieldLink RX12 98 "TurningHallModel" "op" "[I" ∈ lw_all := lw_in (tc_6 (List.mem_of_getElem? (i := 208) rfl)) rfl
theorem q6_213 : Cond.fieldLink RX12 113 "TurningHallModel" "acts" "I" ∈ lw_all := lw_in (tc_6 (List.mem_of_getElem? (i := 213) rfl)) rfl
theorem q6_209 : Cond.fieldLink RX12 101 "TurningHallModel" "arg" "[I" ∈ lw_all := lw_in (tc_6 (List.mem_of_getElem? (i := 209) rfl)) rfl
theorem q6_210 : Cond.fieldLink RX12 104 "TurningHallModel" "also" "[I" ∈ lw_all := lw_in (tc_6 (List.mem_of_getElem? (i := 210) rfl)) rfl
theorem q6_211 : Cond.fieldLink RX12 107 "TurningHallModel" "spot" "[I" ∈ lw_all := lw_in (tc_6 (List.mem_of_getElem? (i := 211) rfl)) rfl
theorem q6_222 : Cond.fieldLink RX12 141 "TurningHallModel" "nSort" "[I" ∈ lw_all := lw_in (tc_6 (List.mem_of_getElem? (i := 222) rfl)) rfl
theorem q6_221 : Cond.fieldLink RX12 138 "TurningHallModel" "names" "I" ∈ lw_all := lw_in (tc_6 (List.mem_of_getElem? (i := 221) rfl)) rfl
theorem q6_223 : Cond.fieldLink RX12 144 "TurningHallModel" "nToken" "[I" ∈ lw_all := lw_in (tc_6 (List.mem_of_getElem? (i := 223) rfl)) rfl
theorem q6_224 : Cond.fieldLink RX12 147 "TurningHallModel" "nThings" "[I" ∈ lw_all := lw_in (tc_6 (List.mem_of_getElem? (i := 224) rfl)) rfl
theorem q6_220 : Cond.fieldLink RX12 134 "TurningHallModel" "ahead" "Z" ∈ lw_all := lw_in (tc_6 (List.mem_of_getElem? (i := 220) rfl)) rfl
theorem q6_225 : Cond.fieldLink RX12 150 "TurningHallModel" "nCams" "[I" ∈ lw_all := lw_in (tc_6 (List.mem_of_getElem? (i := 225) rfl)) rfl
theorem q6_226 : Cond.fieldLink RX12 153 "TurningHallModel" "nAct" "[I" ∈ lw_all := lw_in (tc_6 (List.mem_of_getElem? (i := 226) rfl)) rfl
theorem q6_229 : Cond.fieldLink RX12 162 "TurningHallModel" "cams" "I" ∈ lw_all := lw_in (tc_6 (List.mem_of_getElem? (i := 229) rfl)) rfl
theorem q6_227 : Cond.fieldLink RX12 156 "TurningHallModel" "things" "I" ∈ lw_all := lw_in (tc_6 (List.mem_of_getElem? (i := 227) rfl)) rfl
theorem q6_219 : Cond.fieldLink RX12 131 "TurningHallModel" "deep" "I" ∈ lw_all := lw_in (tc_6 (List.mem_of_getElem? (i := 219) rfl)) rfl
theorem q7_7 : Cond.fieldLink RX12 217 "TurningHallModel" "cName" "[I" ∈ lw_all := lw_in (tc_7 (List.mem_of_getElem? (i := 7) rfl)) rfl
theorem q7_8 : Cond.fieldLink RX12 220 "TurningHallModel" "cFrom" "[I" ∈ lw_all := lw_in (tc_7 (List.mem_of_getElem? (i := 8) rfl)) rfl
theorem q6_230 : Cond.fieldLink RX12 165 "TurningHallModel" "camEntries" "I" ∈ lw_all := lw_in (tc_6 (List.mem_of_getElem? (i := 230) rfl)) rfl
theorem q7_9 : Cond.fieldLink RX12 223 "TurningHallModel" "cMany" "[I" ∈ lw_all := lw_in (tc_7 (List.mem_of_getElem? (i := 9) rfl)) rfl
theorem q8_185 : Cond.methodLink RX12 591 yX12_name ∈ lw_all := lw_in (tc_8 (List.mem_of_getElem? (i := 185) rfl)) rfl
theorem q8_187 : Cond.instanceMethod yX12_name ∈ lw_all := lw_in (tc_8 (List.mem_of_getElem? (i := 187) rfl)) rfl
theorem q0_81 : Cond.selects RX12 yX12_name yX12_name ∈ lw_all := lw_in (tc_0 (List.mem_of_getElem? (i := 81) rfl)) rfl
theorem q8_188 : Cond.code yX12_name cX12_name 4 none ∈ lw_all := lw_in (tc_8 (List.mem_of_getElem? (i := 188) rfl)) rfl
theorem q8_189 : Cond.methodLink RX12 564 yX12_need ∈ lw_all := lw_in (tc_8 (List.mem_of_getElem? (i := 189) rfl)) rfl
theorem q8_191 : Cond.instanceMethod yX12_need ∈ lw_all := lw_in (tc_8 (List.mem_of_getElem? (i := 191) rfl)) rfl
theorem q0_82 : Cond.selects RX12 yX12_need yX12_need ∈ lw_all := lw_in (tc_0 (List.mem_of_getElem? (i := 82) rfl)) rfl
theorem q8_192 : Cond.code yX12_need cX12_need 2 (some .boolean) ∈ lw_all := lw_in (tc_8 (List.mem_of_getElem? (i := 192) rfl)) rfl
theorem q7_10 : Cond.fieldLink RX12 226 "TurningHallModel" "entry" "[J" ∈ lw_all := lw_in (tc_7 (List.mem_of_getElem? (i := 10) rfl)) rfl
theorem q8_73 : Cond.methodLink RX12 594 yX12_scan ∈ lw_all := lw_in (tc_8 (List.mem_of_getElem? (i := 73) rfl)) rfl
theorem q8_75 : Cond.instanceMethod yX12_scan ∈ lw_all := lw_in (tc_8 (List.mem_of_getElem? (i := 75) rfl)) rfl
theorem q0_66 : Cond.selects RX12 yX12_scan yX12_scan ∈ lw_all := lw_in (tc_0 (List.mem_of_getElem? (i := 66) rfl)) rfl
theorem q8_76 : Cond.code yX12_scan cX12_scan 5 none ∈ lw_all := lw_in (tc_8 (List.mem_of_getElem? (i := 76) rfl)) rfl
theorem q9_20 : Cond.methodLink RX12 606 yX12_alike ∈ lw_all := lw_in (tc_9 (List.mem_of_getElem? (i := 20) rfl)) rfl
theorem q9_22 : Cond.instanceMethod yX12_alike ∈ lw_all := lw_in (tc_9 (List.mem_of_getElem? (i := 22) rfl)) rfl
theorem q0_99 : Cond.selects RX12 yX12_alike yX12_alike ∈ lw_all := lw_in (tc_0 (List.mem_of_getElem? (i := 99) rfl)) rfl
theorem q9_23 : Cond.code yX12_alike cX12_alike 6 (some .boolean) ∈ lw_all := lw_in (tc_9 (List.mem_of_getElem? (i := 23) rfl)) rfl
theorem q6_228 : Cond.fieldLink RX12 159 "TurningHallModel" "bells" "I" ∈ lw_all := lw_in (tc_6 (List.mem_of_getElem? (i := 228) rfl)) rfl
theorem q7_2 : Cond.fieldLink RX12 202 "TurningHallModel" "bName" "[I" ∈ lw_all := lw_in (tc_7 (List.mem_of_getElem? (i := 2) rfl)) rfl
theorem q6_231 : Cond.fieldLink RX12 168 "TurningHallModel" "rName" "[I" ∈ lw_all := lw_in (tc_6 (List.mem_of_getElem? (i := 231) rfl)) rfl
theorem q9_24 : Cond.methodLink RX12 612 yX12_rowOf ∈ lw_all := lw_in (tc_9 (List.mem_of_getElem? (i := 24) rfl)) rfl
theorem q9_26 : Cond.instanceMethod yX12_rowOf ∈ lw_all := lw_in (tc_9 (List.mem_of_getElem? (i := 26) rfl)) rfl
theorem q0_100 : Cond.selects RX12 yX12_rowOf yX12_rowOf ∈ lw_all := lw_in (tc_0 (List.mem_of_getElem? (i := 100) rfl)) rfl
theorem q9_27 : Cond.code yX12_rowOf cX12_rowOf 5 (some .int) ∈ lw_all := lw_in (tc_9 (List.mem_of_getElem? (i := 27) rfl)) rfl
theorem q9_16 : Cond.methodLink RX12 609 yX12_told ∈ lw_all := lw_in (tc_9 (List.mem_of_getElem? (i := 16) rfl)) rfl
theorem q9_18 : Cond.instanceMethod yX12_told ∈ lw_all := lw_in (tc_9 (List.mem_of_getElem? (i := 18) rfl)) rfl
theorem q0_98 : Cond.selects RX12 yX12_told yX12_told ∈ lw_all := lw_in (tc_0 (List.mem_of_getElem? (i := 98) rfl)) rfl
theorem q9_19 : Cond.code yX12_told cX12_told 4 (some .boolean) ∈ lw_all := lw_in (tc_9 (List.mem_of_getElem? (i := 19) rfl)) rfl
/-! ### X12_alike -/
theorem dX12_alike_0 : decode cX12_alike 0 = .ok (.aload_n 0, 1) := by decide +kernel
theorem dX12_alike_1 : decode cX12_alike 1 = .ok (.getfield 89, 3) := by decide +kernel
theorem dX12_alike_4 : decode cX12_alike 4 = .ok (.iload_n 1, 1) := by decide +kernel
theorem dX12_alike_5 : decode cX12_alike 5 = .ok (.iaload, 1) := by decide +kernel
theorem dX12_alike_6 : decode cX12_alike 6 = .ok (.aload_n 0, 1) := by decide +kernel
theorem dX12_alike_7 : decode cX12_alike 7 = .ok (.getfield 86, 3) := by decide +kernel
theorem dX12_alike_10 : decode cX12_alike 10 = .ok (.iload_n 1, 1) := by decide +kernel
theorem dX12_alike_11 : decode cX12_alike 11 = .ok (.iaload, 1) := by decide +kernel
theorem dX12_alike_12 : decode cX12_alike 12 = .ok (.isub, 1) := by decide +kernel
theorem dX12_alike_13 : decode cX12_alike 13 = .ok (.istore_n 3, 1) := by decide +kernel
theorem dX12_alike_14 : decode cX12_alike 14 = .ok (.iload_n 3, 1) := by decide +kernel
theorem dX12_alike_15 : decode cX12_alike 15 = .ok (.aload_n 0, 1) := by decide +kernel
theorem dX12_alike_16 : decode cX12_alike 16 = .ok (.getfield 89, 3) := by decide +kernel
theorem dX12_alike_19 : decode cX12_alike 19 = .ok (.iload_n 2, 1) := by decide +kernel
theorem dX12_alike_20 : decode cX12_alike 20 = .ok (.iaload, 1) := by decide +kernel
theorem dX12_alike_21 : decode cX12_alike 21 = .ok (.aload_n 0, 1) := by decide +kernel
theorem dX12_alike_22 : decode cX12_alike 22 = .ok (.getfield 86, 3) := by decide +kernel
theorem dX12_alike_25 : decode cX12_alike 25 = .ok (.iload_n 2, 1) := by decide +kernel
theorem dX12_alike_26 : decode cX12_alike 26 = .ok (.iaload, 1) := by decide +kernel
theorem dX12_alike_27 : decode cX12_alike 27 = .ok (.isub, 1) := by decide +kernel
theorem dX12_alike_28 : decode cX12_alike 28 = .ok (.if_icmp .ne 7, 3) := by decide +kernel
theorem dX12_alike_31 : decode cX12_alike 31 = .ok (.iconst 1, 1) := by decide +kernel
theorem dX12_alike_32 : decode cX12_alike 32 = .ok (.goto 4, 3) := by decide +kernel
theorem dX12_alike_35 : decode cX12_alike 35 = .ok (.iconst 0, 1) := by decide +kernel
theorem dX12_alike_36 : decode cX12_alike 36 = .ok (.istore 4, 2) := by decide +kernel
theorem dX12_alike_38 : decode cX12_alike 38 = .ok (.iconst 0, 1) := by decide +kernel
theorem dX12_alike_39 : decode cX12_alike 39 = .ok (.istore 5, 2) := by decide +kernel
theorem dX12_alike_41 : decode cX12_alike 41 = .ok (.iload 5, 2) := by decide +kernel
theorem dX12_alike_43 : decode cX12_alike 43 = .ok (.iload_n 3, 1) := by decide +kernel
theorem dX12_alike_44 : decode cX12_alike 44 = .ok (.if_icmp .ge 52, 3) := by decide +kernel
theorem dX12_alike_47 : decode cX12_alike 47 = .ok (.iload 4, 2) := by decide +kernel
theorem dX12_alike_49 : decode cX12_alike 49 = .ok (.ifCond .eq 47, 3) := by decide +kernel
theorem dX12_alike_52 : decode cX12_alike 52 = .ok (.aload_n 0, 1) := by decide +kernel
theorem dX12_alike_53 : decode cX12_alike 53 = .ok (.getfield 17, 3) := by decide +kernel
theorem dX12_alike_56 : decode cX12_alike 56 = .ok (.aload_n 0, 1) := by decide +kernel
theorem dX12_alike_57 : decode cX12_alike 57 = .ok (.getfield 86, 3) := by decide +kernel
theorem dX12_alike_60 : decode cX12_alike 60 = .ok (.iload_n 1, 1) := by decide +kernel
theorem dX12_alike_61 : decode cX12_alike 61 = .ok (.iaload, 1) := by decide +kernel
theorem dX12_alike_62 : decode cX12_alike 62 = .ok (.iload 5, 2) := by decide +kernel
theorem dX12_alike_64 : decode cX12_alike 64 = .ok (.iadd, 1) := by decide +kernel
theorem dX12_alike_65 : decode cX12_alike 65 = .ok (.baload, 1) := by decide +kernel
theorem dX12_alike_66 : decode cX12_alike 66 = .ok (.aload_n 0, 1) := by decide +kernel
theorem dX12_alike_67 : decode cX12_alike 67 = .ok (.getfield 17, 3) := by decide +kernel
theorem dX12_alike_70 : decode cX12_alike 70 = .ok (.aload_n 0, 1) := by decide +kernel
theorem dX12_alike_71 : decode cX12_alike 71 = .ok (.getfield 86, 3) := by decide +kernel
theorem dX12_alike_74 : decode cX12_alike 74 = .ok (.iload_n 2, 1) := by decide +kernel
theorem dX12_alike_75 : decode cX12_alike 75 = .ok (.iaload, 1) := by decide +kernel
theorem dX12_alike_76 : decode cX12_alike 76 = .ok (.iload 5, 2) := by decide +kernel
theorem dX12_alike_78 : decode cX12_alike 78 = .ok (.iadd, 1) := by decide +kernel
theorem dX12_alike_79 : decode cX12_alike 79 = .ok (.baload, 1) := by decide +kernel
theorem dX12_alike_80 : decode cX12_alike 80 = .ok (.if_icmp .ne 7, 3) := by decide +kernel
theorem dX12_alike_83 : decode cX12_alike 83 = .ok (.iconst 1, 1) := by decide +kernel
theorem dX12_alike_84 : decode cX12_alike 84 = .ok (.goto 4, 3) := by decide +kernel
theorem dX12_alike_87 : decode cX12_alike 87 = .ok (.iconst 0, 1) := by decide +kernel
theorem dX12_alike_88 : decode cX12_alike 88 = .ok (.istore 4, 2) := by decide +kernel
theorem dX12_alike_90 : decode cX12_alike 90 = .ok (.iinc 5 1, 3) := by decide +kernel
theorem dX12_alike_93 : decode cX12_alike 93 = .ok (.goto (-52), 3) := by decide +kernel
theorem dX12_alike_96 : decode cX12_alike 96 = .ok (.iload 4, 2) := by decide +kernel
theorem dX12_alike_98 : decode cX12_alike 98 = .ok (.ireturn, 1) := by decide +kernel
abbrev R_X12_alike : Room := ({ frames := 0, cells := 0, slots := 0, locals := 0 } : Room)
def b_X12_alike_88 (n : Nat) (rec : (Gs → Int32 → Int32 → Int32 → Int32 → Int32 → Option (Int32))) (gT : Gs) (v1 : Int32) (v2 : Int32) (v3 : Int32) (v5 : Int32) (s0 : Int32) : Option (Int32) :=
  rec gT v1 v2 v3 s0 (v5 + (1 : Int32))
def h_X12_alike_41 (n : Nat) (rec : (Gs → Int32 → Int32 → Int32 → Int32 → Int32 → Option (Int32))) (gT : Gs) (v1 : Int32) (v2 : Int32) (v3 : Int32) (v4 : Int32) (v5 : Int32) : Option (Int32) :=
  if v3 ≤ v5 then (grd (zB v4) (some v4)) else (if v4 = 0 then (grd (zB v4) (some v4)) else (grd (inB v1 3001) (grd (inB ((gIA gT 10 v1.toNatClampNeg) + v5) 3001) (grd (inB v2 3001) (grd (inB ((gIA gT 10 v2.toNatClampNeg) + v5) 3001) (if (gIA gT 5 ((gIA gT 10 v1.toNatClampNeg) + v5).toNatClampNeg) = (gIA gT 5 ((gIA gT 10 v2.toNatClampNeg) + v5).toNatClampNeg) then (b_X12_alike_88 n rec gT v1 v2 v3 v5 (1 : Int32)) else (b_X12_alike_88 n rec gT v1 v2 v3 v5 (0 : Int32))))))))
def b_X12_alike_36 (n : Nat) (rec : (Gs → Int32 → Int32 → Int32 → Int32 → Int32 → Option (Int32))) (gT : Gs) (v1 : Int32) (v2 : Int32) (v3 : Int32) (s0 : Int32) : Option (Int32) :=
  rec gT v1 v2 v3 s0 (0 : Int32)
def L_X12_alike (n : Nat) : Nat → (Gs → Int32 → Int32 → Int32 → Int32 → Int32 → Option (Int32))
  | 0 => ((fun _ _ _ _ _ _ => none))
  | k + 1 => (h_X12_alike_41 n (L_X12_alike n k))
def f_X12_alike (n : Nat) (gT : Gs) (x0 : Int32) (x1 : Int32) : Option (Int32) :=
  grd (inB x0 3001) (grd (inB x0 3001) (grd (inB x1 3001) (grd (inB x1 3001) (if ((gIA gT 11 x0.toNatClampNeg) - (gIA gT 10 x0.toNatClampNeg)) = ((gIA gT 11 x1.toNatClampNeg) - (gIA gT 10 x1.toNatClampNeg)) then (b_X12_alike_36 n (L_X12_alike n n) gT x0 x1 ((gIA gT 11 x0.toNatClampNeg) - (gIA gT 10 x0.toNatClampNeg)) (1 : Int32)) else (b_X12_alike_36 n (L_X12_alike n n) gT x0 x1 ((gIA gT 11 x0.toNatClampNeg) - (gIA gT 10 x0.toNatClampNeg)) (0 : Int32))))))
def S_X12_alike_88 (l : Launch) (D : Dx) (hT : Nat) (aT : Nat → Nat) (yT : Nat → ClassId) (fn : Gs → Int32 → Int32 → Int32 → Int32 → Int32 → Option (Int32)) : Prop :=
  ∀ {p : Program} {e : Env} {s : State} {m : MethodId} {args : Array Value} {below : List Frame} {meth : Method} {c : Code} {H : Heap} {locs : List Loc} {A : Nat → Prop} {ls : Array Slot} {gT : Gs} {v1 : Int32} {v2 : Int32} {v3 : Int32} {v5 : Int32} {s0 : Int32} {q : Int32}, Cx p s m args meth c cX12_alike (some .boolean) 6 RX12 lw_all → Hx D (tX12 yT) A s H locs (wX12 hT aT yT gT) → lv_has ls 6 [(0, .ref hT), (1, .int v1), (2, .int v2), (3, .int v3), (5, .int v5)] → fn gT v1 v2 v3 v5 s0 = some q → W p l e R_X12_alike s m args below meth c H locs 0 0 (MQ below (QI D A (wX12 hT aT yT gT) q) args s 0 0 A) (F0 m 88 ls [.int s0])
def S_X12_alike_41 (l : Launch) (D : Dx) (hT : Nat) (aT : Nat → Nat) (yT : Nat → ClassId) (fn : Gs → Int32 → Int32 → Int32 → Int32 → Int32 → Option (Int32)) : Prop :=
  ∀ {p : Program} {e : Env} {s : State} {m : MethodId} {args : Array Value} {below : List Frame} {meth : Method} {c : Code} {H : Heap} {locs : List Loc} {A : Nat → Prop} {ls : Array Slot} {gT : Gs} {v1 : Int32} {v2 : Int32} {v3 : Int32} {v4 : Int32} {v5 : Int32} {q : Int32}, Cx p s m args meth c cX12_alike (some .boolean) 6 RX12 lw_all → Hx D (tX12 yT) A s H locs (wX12 hT aT yT gT) → lv_has ls 6 [(0, .ref hT), (1, .int v1), (2, .int v2), (3, .int v3), (4, .int v4), (5, .int v5)] → fn gT v1 v2 v3 v4 v5 = some q → W p l e R_X12_alike s m args below meth c H locs 0 0 (MQ below (QI D A (wX12 hT aT yT gT) q) args s 0 0 A) (F0 m 41 ls [])
def S_X12_alike_36 (l : Launch) (D : Dx) (hT : Nat) (aT : Nat → Nat) (yT : Nat → ClassId) (fn : Gs → Int32 → Int32 → Int32 → Int32 → Option (Int32)) : Prop :=
  ∀ {p : Program} {e : Env} {s : State} {m : MethodId} {args : Array Value} {below : List Frame} {meth : Method} {c : Code} {H : Heap} {locs : List Loc} {A : Nat → Prop} {ls : Array Slot} {gT : Gs} {v1 : Int32} {v2 : Int32} {v3 : Int32} {s0 : Int32} {q : Int32}, Cx p s m args meth c cX12_alike (some .boolean) 6 RX12 lw_all → Hx D (tX12 yT) A s H locs (wX12 hT aT yT gT) → lv_has ls 6 [(0, .ref hT), (1, .int v1), (2, .int v2), (3, .int v3)] → fn gT v1 v2 v3 s0 = some q → W p l e R_X12_alike s m args below meth c H locs 0 0 (MQ below (QI D A (wX12 hT aT yT gT) q) args s 0 0 A) (F0 m 36 ls [.int s0])
def SH_X12_alike (l : Launch) (D : Dx) (hT : Nat) (aT : Nat → Nat) (yT : Nat → ClassId) (rec : (Gs → Int32 → Int32 → Int32 → Int32 → Int32 → Option (Int32))) : Prop := S_X12_alike_41 l D hT aT yT rec
set_option maxHeartbeats 4000000 in
set_option maxRecDepth 100000 in
theorem k_X12_alike_88 (l : Launch) (D : Dx) (hT : Nat) (aT : Nat → Nat) (yT : Nat → ClassId) (n : Nat) (rec : (Gs → Int32 → Int32 → Int32 → Int32 → Int32 → Option (Int32))) (IH : SH_X12_alike l D hT aT yT rec) : S_X12_alike_88 l D hT aT yT (b_X12_alike_88 n rec) := by
  intro p e s m args below meth c H locs A ls gT v1 v2 v3 v5 s0 q C X hl hF
  obtain ⟨hx, hb, hr, hml, hown, hts, hlk⟩ := id C
  unfold b_X12_alike_88 at hF
  refine lv_istore (lv' := [(4, .int s0), (0, .ref hT), (1, .int v1), (2, .int v2), (3, .int v3), (5, .int v5)]) hx hb dX12_alike_88 hl (by decide) rfl (fun ls hl => ?_)
  refine lv_iinc (v := v5 + (1 : Int32)) (lv' := [(5, .int (v5 + (1 : Int32))), (4, .int s0), (0, .ref hT), (1, .int v1), (2, .int v2), (3, .int v3)]) hx hb dX12_alike_90 hl (k := 5) rfl rfl (by decide) rfl (fun ls hl => ?_)
  refine lv_goto (tgt := 41) hx hb dX12_alike_93 (by decide) ?_
  exact IH C X (lv_sub hl [2, 3, 4, 5, 1, 0] rfl) hF
set_option maxHeartbeats 4000000 in
set_option maxRecDepth 100000 in
theorem k_X12_alike_41 (l : Launch) (D : Dx) (hT : Nat) (aT : Nat → Nat) (yT : Nat → ClassId) (n : Nat) (rec : (Gs → Int32 → Int32 → Int32 → Int32 → Int32 → Option (Int32))) (IH : SH_X12_alike l D hT aT yT rec) : S_X12_alike_41 l D hT aT yT (h_X12_alike_41 n rec) := by
  intro p e s m args below meth c H locs A ls gT v1 v2 v3 v4 v5 q C X hl hF
  obtain ⟨hx, hb, hr, hml, hown, hts, hlk⟩ := id C
  unfold h_X12_alike_41 at hF
  refine lv_iload hx hb dX12_alike_41 (lv_at hl 5 rfl) ?_
  refine lv_iload_n hx hb dX12_alike_43 rfl (lv_at hl 3 rfl) ?_
  refine lv_icmp_ge (tgt := 96) hx hb dX12_alike_44 (by decide) (fun c => ?_) (fun c => ?_)
  · replace hF := iT c hF
    refine lv_iload hx hb dX12_alike_96 (lv_at hl 4 rfl) ?_
    obtain ⟨h_5, hF⟩ := grd_some hF
    have hq := Option.some.inj hF
    subst hq
    exact rt_z (v := v4) C X (zB_n h_5) dX12_alike_98
  · replace hF := iF c hF
    refine lv_iload hx hb dX12_alike_47 (lv_at hl 4 rfl) ?_
    refine lv_if_eq (tgt := 96) hx hb dX12_alike_49 (by decide) (fun c => ?_) (fun c => ?_)
    · replace hF := iT c hF
      refine lv_iload hx hb dX12_alike_96 (lv_at hl 4 rfl) ?_
      obtain ⟨h_6, hF⟩ := grd_some hF
      have hq := Option.some.inj hF
      subst hq
      exact rt_z (v := v4) C X (zB_n h_6) dX12_alike_98
    · replace hF := iF c hF
      refine lv_aload_n hx hb dX12_alike_52 rfl (lv_at hl 0 rfl) ?_
      refine va_get (D := D.1) (ci := 12) (v := .ref (aT 5)) (C := RX12) (T := TX12) (N := 114) hx hb hts wi_X12 hown X.1 X.2.1 0 rfl rfl 5 (by decide) (hts _ q6_199) (fun _ h9 => h9) (fl_get (by decide)) dX12_alike_53 ?_
      refine lv_aload_n hx hb dX12_alike_56 rfl (lv_at hl 0 rfl) ?_
      refine va_get (D := D.1) (ci := 12) (v := .ref (aT 10)) (C := RX12) (T := TX12) (N := 114) hx hb hts wi_X12 hown X.1 X.2.1 0 rfl rfl 10 (by decide) (hts _ q6_204) (fun _ h9 => h9) (fl_get (by decide)) dX12_alike_57 ?_
      refine lv_iload_n hx hb dX12_alike_60 rfl (lv_at hl 1 rfl) ?_
      obtain ⟨h_7, hF⟩ := grd_some hF
      refine va_iald (D := D.1) (f := gIA gT 10) hx hb X.1 X.2.1 5 4 rfl rfl (inB_ok h_7) dX12_alike_61 ?_
      refine lv_iload hx hb dX12_alike_62 (lv_at hl 5 rfl) ?_
      refine lv_iadd hx hb dX12_alike_64 ?_
      obtain ⟨h_8, hF⟩ := grd_some hF
      refine va_bald (D := D.1) (f := gIA gT 5) hx hb X.1 X.2.1 2 1 rfl rfl (inB_ok h_8) dX12_alike_65 ?_
      refine lv_aload_n hx hb dX12_alike_66 rfl (lv_at hl 0 rfl) ?_
      refine va_get (D := D.1) (ci := 12) (v := .ref (aT 5)) (C := RX12) (T := TX12) (N := 114) hx hb hts wi_X12 hown X.1 X.2.1 0 rfl rfl 5 (by decide) (hts _ q6_199) (fun _ h9 => h9) (fl_get (by decide)) dX12_alike_67 ?_
      refine lv_aload_n hx hb dX12_alike_70 rfl (lv_at hl 0 rfl) ?_
      refine va_get (D := D.1) (ci := 12) (v := .ref (aT 10)) (C := RX12) (T := TX12) (N := 114) hx hb hts wi_X12 hown X.1 X.2.1 0 rfl rfl 10 (by decide) (hts _ q6_204) (fun _ h9 => h9) (fl_get (by decide)) dX12_alike_71 ?_
      refine lv_iload_n hx hb dX12_alike_74 rfl (lv_at hl 2 rfl) ?_
      obtain ⟨h_9, hF⟩ := grd_some hF
      refine va_iald (D := D.1) (f := gIA gT 10) hx hb X.1 X.2.1 5 4 rfl rfl (inB_ok h_9) dX12_alike_75 ?_
      refine lv_iload hx hb dX12_alike_76 (lv_at hl 5 rfl) ?_
      refine lv_iadd hx hb dX12_alike_78 ?_
      obtain ⟨h_10, hF⟩ := grd_some hF
      refine va_bald (D := D.1) (f := gIA gT 5) hx hb X.1 X.2.1 2 1 rfl rfl (inB_ok h_10) dX12_alike_79 ?_
      refine lv_icmp_ne (tgt := 87) hx hb dX12_alike_80 (by decide) (fun c => ?_) (fun c => ?_)
      · replace hF := iF c hF
        refine lv_iconst (v := (0 : Int32)) hx hb dX12_alike_87 (by decide) ?_
        exact (k_X12_alike_88 l D hT aT yT n rec IH) C X (lv_sub hl [0, 1, 2, 3, 5] rfl) hF
      · replace hF := iT c hF
        refine lv_iconst (v := (1 : Int32)) hx hb dX12_alike_83 (by decide) ?_
        refine lv_goto (tgt := 88) hx hb dX12_alike_84 (by decide) ?_
        exact (k_X12_alike_88 l D hT aT yT n rec IH) C X (lv_sub hl [0, 1, 2, 3, 5] rfl) hF
set_option maxHeartbeats 4000000 in
set_option maxRecDepth 100000 in
theorem k_X12_alike_36 (l : Launch) (D : Dx) (hT : Nat) (aT : Nat → Nat) (yT : Nat → ClassId) (n : Nat) (rec : (Gs → Int32 → Int32 → Int32 → Int32 → Int32 → Option (Int32))) (IH : SH_X12_alike l D hT aT yT rec) : S_X12_alike_36 l D hT aT yT (b_X12_alike_36 n rec) := by
  intro p e s m args below meth c H locs A ls gT v1 v2 v3 s0 q C X hl hF
  obtain ⟨hx, hb, hr, hml, hown, hts, hlk⟩ := id C
  unfold b_X12_alike_36 at hF
  refine lv_istore (lv' := [(4, .int s0), (0, .ref hT), (1, .int v1), (2, .int v2), (3, .int v3)]) hx hb dX12_alike_36 hl (by decide) rfl (fun ls hl => ?_)
  refine lv_iconst (v := (0 : Int32)) hx hb dX12_alike_38 (by decide) ?_
  refine lv_istore (lv' := [(5, .int (0 : Int32)), (4, .int s0), (0, .ref hT), (1, .int v1), (2, .int v2), (3, .int v3)]) hx hb dX12_alike_39 hl (by decide) rfl (fun ls hl => ?_)
  exact IH C X (lv_sub hl [2, 3, 4, 5, 1, 0] rfl) hF
theorem kL_X12_alike (l : Launch) (D : Dx) (hT : Nat) (aT : Nat → Nat) (yT : Nat → ClassId) (n : Nat) : ∀ k, SH_X12_alike l D hT aT yT (L_X12_alike n k)
  | 0 => fun _ _ _ h => by cases h
  | k + 1 => k_X12_alike_41 l D hT aT yT n _ (kL_X12_alike l D hT aT yT n k)
set_option maxHeartbeats 4000000 in
set_option maxRecDepth 100000 in
theorem c_X12_alike (l : Launch) (D : Dx) (hT : Nat) (aT : Nat → Nat) (yT : Nat → ClassId) (n : Nat) (gT : Gs) (x0 : Int32) (x1 : Int32) (q : Int32) (hF : f_X12_alike n gT x0 x1 = some q) (sz : Nat) : Met l yX12_alike (ws_ yX12_alike cX12_alike 6 (some .boolean)) R_X12_alike (PC D (tX12 yT) [.ref hT, .int x0, .int x1] (wX12 hT aT yT gT) sz) (QI D (va_A (wX12 hT aT yT gT) sz) (wX12 hT aT yT gT) q) 0 0 (va_A (wX12 hT aT yT gT) sz) := by
  refine Met.ofW (cc := cX12_alike) (maxL := 6) (ret := (some .boolean)) (by decide) rfl ?_
  intro p e s m args below meth c s₁ B hml hv
  obtain ⟨rfl, hsz, hP, hK, hD, hN⟩ := hv
  subst hsz
  have C : Cx p s m _ meth c cX12_alike (some .boolean) 6 RX12 lw_all := Cx_of B hml
  have X := Hx_start hP hK hD hN
  obtain ⟨hx, hb, hr, -, hown, hts, hlk⟩ := id C
  generalize va_A (wX12 hT aT yT gT) s.heap.size = A at X ⊢
  have hl := lv_entry ([.ref hT, .int x0, .int x1]) (n := 6) (Nat.le_of_ble_eq_true rfl)
  rw [lg_entry_eq]
  generalize (lg_sl ([.ref hT, .int x0, .int x1]) ++ List.replicate (6 - (lg_sl ([.ref hT, .int x0, .int x1])).length) Slot.unset).toArray = ls at hl ⊢
  have hl : lv_has ls 6 [(0, .ref hT), (1, .int x0), (2, .int x1)] := hl
  unfold f_X12_alike at hF
  refine lv_aload_n hx hb dX12_alike_0 rfl (lv_at hl 0 rfl) ?_
  refine va_get (D := D.1) (ci := 12) (v := .ref (aT 11)) (C := RX12) (T := TX12) (N := 114) hx hb hts wi_X12 hown X.1 X.2.1 0 rfl rfl 11 (by decide) (hts _ q6_205) (fun _ h9 => h9) (fl_get (by decide)) dX12_alike_1 ?_
  refine lv_iload_n hx hb dX12_alike_4 rfl (lv_at hl 1 rfl) ?_
  obtain ⟨h_1, hF⟩ := grd_some hF
  refine va_iald (D := D.1) (f := gIA gT 11) hx hb X.1 X.2.1 6 5 rfl rfl (inB_ok h_1) dX12_alike_5 ?_
  refine lv_aload_n hx hb dX12_alike_6 rfl (lv_at hl 0 rfl) ?_
  refine va_get (D := D.1) (ci := 12) (v := .ref (aT 10)) (C := RX12) (T := TX12) (N := 114) hx hb hts wi_X12 hown X.1 X.2.1 0 rfl rfl 10 (by decide) (hts _ q6_204) (fun _ h9 => h9) (fl_get (by decide)) dX12_alike_7 ?_
  refine lv_iload_n hx hb dX12_alike_10 rfl (lv_at hl 1 rfl) ?_
  obtain ⟨h_2, hF⟩ := grd_some hF
  refine va_iald (D := D.1) (f := gIA gT 10) hx hb X.1 X.2.1 5 4 rfl rfl (inB_ok h_2) dX12_alike_11 ?_
  refine lv_isub hx hb dX12_alike_12 ?_
  refine lv_istore_n (lv' := [(3, .int ((gIA gT 11 x0.toNatClampNeg) - (gIA gT 10 x0.toNatClampNeg))), (0, .ref hT), (1, .int x0), (2, .int x1)]) hx hb dX12_alike_13 rfl hl (by decide) rfl (fun ls hl => ?_)
  refine lv_iload_n hx hb dX12_alike_14 rfl (lv_at hl 0 rfl) ?_
  refine lv_aload_n hx hb dX12_alike_15 rfl (lv_at hl 1 rfl) ?_
  refine va_get (D := D.1) (ci := 12) (v := .ref (aT 11)) (C := RX12) (T := TX12) (N := 114) hx hb hts wi_X12 hown X.1 X.2.1 0 rfl rfl 11 (by decide) (hts _ q6_205) (fun _ h9 => h9) (fl_get (by decide)) dX12_alike_16 ?_
  refine lv_iload_n hx hb dX12_alike_19 rfl (lv_at hl 3 rfl) ?_
  obtain ⟨h_3, hF⟩ := grd_some hF
  refine va_iald (D := D.1) (f := gIA gT 11) hx hb X.1 X.2.1 6 5 rfl rfl (inB_ok h_3) dX12_alike_20 ?_
  refine lv_aload_n hx hb dX12_alike_21 rfl (lv_at hl 1 rfl) ?_
  refine va_get (D := D.1) (ci := 12) (v := .ref (aT 10)) (C := RX12) (T := TX12) (N := 114) hx hb hts wi_X12 hown X.1 X.2.1 0 rfl rfl 10 (by decide) (hts _ q6_204) (fun _ h9 => h9) (fl_get (by decide)) dX12_alike_22 ?_
  refine lv_iload_n hx hb dX12_alike_25 rfl (lv_at hl 3 rfl) ?_
  obtain ⟨h_4, hF⟩ := grd_some hF
  refine va_iald (D := D.1) (f := gIA gT 10) hx hb X.1 X.2.1 5 4 rfl rfl (inB_ok h_4) dX12_alike_26 ?_
  refine lv_isub hx hb dX12_alike_27 ?_
  refine lv_icmp_ne (tgt := 35) hx hb dX12_alike_28 (by decide) (fun c => ?_) (fun c => ?_)
  · replace hF := iF c hF
    refine lv_iconst (v := (0 : Int32)) hx hb dX12_alike_35 (by decide) ?_
    exact (k_X12_alike_36 l D hT aT yT n (L_X12_alike n n) (kL_X12_alike l D hT aT yT n n)) C X (lv_sub hl [1, 2, 3, 0] rfl) hF
  · replace hF := iT c hF
    refine lv_iconst (v := (1 : Int32)) hx hb dX12_alike_31 (by decide) ?_
    refine lv_goto (tgt := 36) hx hb dX12_alike_32 (by decide) ?_
    exact (k_X12_alike_36 l D hT aT yT n (L_X12_alike n n) (kL_X12_alike l D hT aT yT n n)) C X (lv_sub hl [1, 2, 3, 0] rfl) hF

/-! ### X12_fault -/
theorem dX12_fault_0 : decode cX12_fault 0 = .ok (.aload_n 0, 1) := by decide +kernel
theorem dX12_fault_1 : decode cX12_fault 1 = .ok (.iload_n 1, 1) := by decide +kernel
theorem dX12_fault_2 : decode cX12_fault 2 = .ok (.putfield 119, 3) := by decide +kernel
theorem dX12_fault_5 : decode cX12_fault 5 = .ok (.aload_n 0, 1) := by decide +kernel
theorem dX12_fault_6 : decode cX12_fault 6 = .ok (.iload_n 2, 1) := by decide +kernel
theorem dX12_fault_7 : decode cX12_fault 7 = .ok (.putfield 122, 3) := by decide +kernel
theorem dX12_fault_10 : decode cX12_fault 10 = .ok (.iconst 0, 1) := by decide +kernel
theorem dX12_fault_11 : decode cX12_fault 11 = .ok (.ireturn, 1) := by decide +kernel
abbrev R_X12_fault : Room := ({ frames := 0, cells := 0, slots := 0, locals := 0 } : Room)
def f_X12_fault (gT : Gs) (x0 : Int32) (x1 : Int32) : Option (Int32 × Gs) :=
  some ((0 : Int32), (sI (sI gT 21 x0) 22 x1))
set_option maxHeartbeats 4000000 in
set_option maxRecDepth 100000 in
theorem c_X12_fault (l : Launch) (D : Dx) (hT : Nat) (aT : Nat → Nat) (yT : Nat → ClassId) (gT : Gs) (x0 : Int32) (x1 : Int32) (q : Int32 × Gs) (hF : f_X12_fault gT x0 x1 = some q) (sz : Nat) : Met l yX12_fault (ws_ yX12_fault cX12_fault 3 (some .boolean)) R_X12_fault (PC D (tX12 yT) [.ref hT, .int x0, .int x1] (wX12 hT aT yT gT) sz) (QI D (va_A (wX12 hT aT yT gT) sz) (wX12 hT aT yT q.2) q.1) 0 0 (va_A (wX12 hT aT yT gT) sz) := by
  refine Met.ofW (cc := cX12_fault) (maxL := 3) (ret := (some .boolean)) (by decide) rfl ?_
  intro p e s m args below meth c s₁ B hml hv
  obtain ⟨rfl, hsz, hP, hK, hD, hN⟩ := hv
  subst hsz
  have C : Cx p s m _ meth c cX12_fault (some .boolean) 3 RX12 lw_all := Cx_of B hml
  have X := Hx_start hP hK hD hN
  obtain ⟨hx, hb, hr, -, hown, hts, hlk⟩ := id C
  generalize va_A (wX12 hT aT yT gT) s.heap.size = A at X ⊢
  have hl := lv_entry ([.ref hT, .int x0, .int x1]) (n := 3) (Nat.le_of_ble_eq_true rfl)
  rw [lg_entry_eq]
  generalize (lg_sl ([.ref hT, .int x0, .int x1]) ++ List.replicate (3 - (lg_sl ([.ref hT, .int x0, .int x1])).length) Slot.unset).toArray = ls at hl ⊢
  have hl : lv_has ls 3 [(0, .ref hT), (1, .int x0), (2, .int x1)] := hl
  unfold f_X12_fault at hF
  refine lv_aload_n hx hb dX12_fault_0 rfl (lv_at hl 0 rfl) ?_
  refine lv_iload_n hx hb dX12_fault_1 rfl (lv_at hl 1 rfl) ?_
  refine va_put (D := D.1) (ci := 12) (v := .int x0) (ty := .int) (C := RX12) (T := TX12) (N := 114) hx hb hts wi_X12 tyX12 tyX12_ok nmX12 hown X.1 X.2.1 X.2.2.1 X.2.2.2.1 0 rfl rfl 21 (by decide) (hts _ q6_215) (fun _ h9 => h9) rfl (by decide +kernel) rfl rfl (by rw [List.length_map, List.length_range]; decide) dX12_fault_2 (fun H locs hP hD hS => ?_)
  have X : Hx D (tX12 yT) A s H locs (wX12 hT aT yT (sI gT 21 x0)) := Hx_set X (wG_sI (k := 21) rfl) hP hD hS
  refine lv_aload_n hx hb dX12_fault_5 rfl (lv_at hl 0 rfl) ?_
  refine lv_iload_n hx hb dX12_fault_6 rfl (lv_at hl 2 rfl) ?_
  refine va_put (D := D.1) (ci := 12) (v := .int x1) (ty := .int) (C := RX12) (T := TX12) (N := 114) hx hb hts wi_X12 tyX12 tyX12_ok nmX12 hown X.1 X.2.1 X.2.2.1 X.2.2.2.1 0 rfl rfl 22 (by decide) (hts _ q6_216) (fun _ h9 => h9) rfl (by decide +kernel) rfl rfl (by rw [List.length_map, List.length_range]; decide) dX12_fault_7 (fun H locs hP hD hS => ?_)
  have X : Hx D (tX12 yT) A s H locs (wX12 hT aT yT (sI (sI gT 21 x0) 22 x1)) := Hx_set X (wG_sI (k := 22) rfl) hP hD hS
  refine lv_iconst (v := (0 : Int32)) hx hb dX12_fault_10 (by decide) ?_
  have hq := Option.some.inj hF
  subst hq
  exact rt_z (v := (0 : Int32)) C X (by decide) dX12_fault_11

/-! ### X12_cannot -/
theorem dX12_cannot_0 : decode cX12_cannot 0 = .ok (.aload_n 0, 1) := by decide +kernel
theorem dX12_cannot_1 : decode cX12_cannot 1 = .ok (.iconst 1, 1) := by decide +kernel
theorem dX12_cannot_2 : decode cX12_cannot 2 = .ok (.aload_n 0, 1) := by decide +kernel
theorem dX12_cannot_3 : decode cX12_cannot 3 = .ok (.getfield 86, 3) := by decide +kernel
theorem dX12_cannot_6 : decode cX12_cannot 6 = .ok (.aload_n 0, 1) := by decide +kernel
theorem dX12_cannot_7 : decode cX12_cannot 7 = .ok (.getfield 116, 3) := by decide +kernel
theorem dX12_cannot_10 : decode cX12_cannot 10 = .ok (.iaload, 1) := by decide +kernel
theorem dX12_cannot_11 : decode cX12_cannot 11 = .ok (.invokevirtual 537, 3) := by decide +kernel
theorem dX12_cannot_14 : decode cX12_cannot 14 = .ok (.ireturn, 1) := by decide +kernel
abbrev R_X12_cannot : Room := ({ frames := 1, cells := 0, slots := 0, locals := 22 } : Room)
def f_X12_cannot (gT : Gs) : Option (Int32 × Gs) :=
  grd (inB (gI gT 20) 3001) (bnd (f_X12_fault gT (1 : Int32) (gIA gT 10 (gI gT 20).toNatClampNeg)) (fun q_2 => grd (zB q_2.1) (some (q_2.1, q_2.2))))
set_option maxHeartbeats 4000000 in
set_option maxRecDepth 100000 in
theorem c_X12_cannot (l : Launch) (D : Dx) (hT : Nat) (aT : Nat → Nat) (yT : Nat → ClassId) (gT : Gs) (q : Int32 × Gs) (hF : f_X12_cannot gT = some q) (sz : Nat) : Met l yX12_cannot (ws_ yX12_cannot cX12_cannot 1 (some .boolean)) R_X12_cannot (PC D (tX12 yT) [.ref hT] (wX12 hT aT yT gT) sz) (QI D (va_A (wX12 hT aT yT gT) sz) (wX12 hT aT yT q.2) q.1) 0 0 (va_A (wX12 hT aT yT gT) sz) := by
  refine Met.ofW (cc := cX12_cannot) (maxL := 1) (ret := (some .boolean)) (by decide) rfl ?_
  intro p e s m args below meth c s₁ B hml hv
  obtain ⟨rfl, hsz, hP, hK, hD, hN⟩ := hv
  subst hsz
  have C : Cx p s m _ meth c cX12_cannot (some .boolean) 1 RX12 lw_all := Cx_of B hml
  have X := Hx_start hP hK hD hN
  obtain ⟨hx, hb, hr, -, hown, hts, hlk⟩ := id C
  generalize va_A (wX12 hT aT yT gT) s.heap.size = A at X ⊢
  have hl := lv_entry ([.ref hT]) (n := 1) (Nat.le_of_ble_eq_true rfl)
  rw [lg_entry_eq]
  generalize (lg_sl ([.ref hT]) ++ List.replicate (1 - (lg_sl ([.ref hT])).length) Slot.unset).toArray = ls at hl ⊢
  have hl : lv_has ls 1 [(0, .ref hT)] := hl
  unfold f_X12_cannot at hF
  refine lv_aload_n hx hb dX12_cannot_0 rfl (lv_at hl 0 rfl) ?_
  refine lv_iconst (v := (1 : Int32)) hx hb dX12_cannot_1 (by decide) ?_
  refine lv_aload_n hx hb dX12_cannot_2 rfl (lv_at hl 0 rfl) ?_
  refine va_get (D := D.1) (ci := 12) (v := .ref (aT 10)) (C := RX12) (T := TX12) (N := 114) hx hb hts wi_X12 hown X.1 X.2.1 0 rfl rfl 10 (by decide) (hts _ q6_204) (fun _ h9 => h9) (fl_get (by decide)) dX12_cannot_3 ?_
  refine lv_aload_n hx hb dX12_cannot_6 rfl (lv_at hl 0 rfl) ?_
  refine va_get (D := D.1) (ci := 12) (v := .int (gI gT 20)) (C := RX12) (T := TX12) (N := 114) hx hb hts wi_X12 hown X.1 X.2.1 0 rfl rfl 20 (by decide) (hts _ q6_214) (fun _ h9 => h9) (fl_get (by decide)) dX12_cannot_7 ?_
  obtain ⟨h_1, hF⟩ := grd_some hF
  refine va_iald (D := D.1) (f := gIA gT 10) hx hb X.1 X.2.1 5 4 rfl rfl (inB_ok h_1) dX12_cannot_10 ?_
  obtain ⟨q_2, hc_3, hF⟩ := bnd_some hF
  refine cV_i (As := [.int (1 : Int32), .int (gIA gT 10 (gI gT 20).toNatClampNeg)]) (rest := []) C X (c_X12_fault l D hT aT yT gT (1 : Int32) (gIA gT 10 (gI gT 20).toNatClampNeg) q_2 hc_3 _) (cwV 2 hts (good_V q8_177 q8_179 q0_79 q1_9 q8_180) rfl rfl rfl (by decide +kernel) ⟨Nat.le_of_ble_eq_true rfl, Nat.le_of_ble_eq_true rfl⟩) (va_recv X.1 X.2.1 (ci := 12) (q0 := 0) rfl rfl) X.1 X.2.1 X.2.2.1 (free_all X) hl.1 rfl rfl (Nat.le_of_ble_eq_true rfl) dX12_cannot_11 ⟨Nat.le_of_ble_eq_true rfl, Nat.le_of_ble_eq_true rfl⟩ (fun t H1 locs1 ht hB hk hS => ?_)
  have X : Hx D (tX12 yT) A s H1 locs1 (wX12 hT aT yT q_2.2) := Hx_after_all X ht hB hS
  clear hk hS ht hB
  generalize H1 = H at X ⊢
  generalize locs1 = locs at X ⊢
  obtain ⟨h_4, hF⟩ := grd_some hF
  have hq := Option.some.inj hF
  subst hq
  exact rt_z (v := q_2.1) C X (zB_n h_4) dX12_cannot_14

/-! ### X12_much -/
theorem dX12_much_0 : decode cX12_much 0 = .ok (.aload_n 0, 1) := by decide +kernel
theorem dX12_much_1 : decode cX12_much 1 = .ok (.getfield 125, 3) := by decide +kernel
theorem dX12_much_4 : decode cX12_much 4 = .ok (.ifCond .ge 8, 3) := by decide +kernel
theorem dX12_much_7 : decode cX12_much 7 = .ok (.aload_n 0, 1) := by decide +kernel
theorem dX12_much_8 : decode cX12_much 8 = .ok (.iload_n 1, 1) := by decide +kernel
theorem dX12_much_9 : decode cX12_much 9 = .ok (.putfield 125, 3) := by decide +kernel
theorem dX12_much_12 : decode cX12_much 12 = .ok (.return_, 1) := by decide +kernel
abbrev R_X12_much : Room := ({ frames := 0, cells := 0, slots := 0, locals := 0 } : Room)
def f_X12_much (gT : Gs) (x0 : Int32) : Option (Gs) :=
  if 0 ≤ (gI gT 23) then (some gT) else (some (sI gT 23 x0))
set_option maxHeartbeats 4000000 in
set_option maxRecDepth 100000 in
theorem c_X12_much (l : Launch) (D : Dx) (hT : Nat) (aT : Nat → Nat) (yT : Nat → ClassId) (gT : Gs) (x0 : Int32) (q : Gs) (hF : f_X12_much gT x0 = some q) (sz : Nat) : Met l yX12_much (ws_ yX12_much cX12_much 2 none) R_X12_much (PC D (tX12 yT) [.ref hT, .int x0] (wX12 hT aT yT gT) sz) (QV D (va_A (wX12 hT aT yT gT) sz) (wX12 hT aT yT q)) 0 0 (va_A (wX12 hT aT yT gT) sz) := by
  refine Met.ofW (cc := cX12_much) (maxL := 2) (ret := none) (by decide) rfl ?_
  intro p e s m args below meth c s₁ B hml hv
  obtain ⟨rfl, hsz, hP, hK, hD, hN⟩ := hv
  subst hsz
  have C : Cx p s m _ meth c cX12_much none 2 RX12 lw_all := Cx_of B hml
  have X := Hx_start hP hK hD hN
  obtain ⟨hx, hb, hr, -, hown, hts, hlk⟩ := id C
  generalize va_A (wX12 hT aT yT gT) s.heap.size = A at X ⊢
  have hl := lv_entry ([.ref hT, .int x0]) (n := 2) (Nat.le_of_ble_eq_true rfl)
  rw [lg_entry_eq]
  generalize (lg_sl ([.ref hT, .int x0]) ++ List.replicate (2 - (lg_sl ([.ref hT, .int x0])).length) Slot.unset).toArray = ls at hl ⊢
  have hl : lv_has ls 2 [(0, .ref hT), (1, .int x0)] := hl
  unfold f_X12_much at hF
  refine lv_aload_n hx hb dX12_much_0 rfl (lv_at hl 0 rfl) ?_
  refine va_get (D := D.1) (ci := 12) (v := .int (gI gT 23)) (C := RX12) (T := TX12) (N := 114) hx hb hts wi_X12 hown X.1 X.2.1 0 rfl rfl 23 (by decide) (hts _ q6_217) (fun _ h9 => h9) (fl_get (by decide)) dX12_much_1 ?_
  refine lv_if_ge (tgt := 12) hx hb dX12_much_4 (by decide) (fun c => ?_) (fun c => ?_)
  · replace hF := iT c hF
    have hq := Option.some.inj hF
    subst hq
    exact rt_v C X dX12_much_12
  · replace hF := iF c hF
    refine lv_aload_n hx hb dX12_much_7 rfl (lv_at hl 0 rfl) ?_
    refine lv_iload_n hx hb dX12_much_8 rfl (lv_at hl 1 rfl) ?_
    refine va_put (D := D.1) (ci := 12) (v := .int x0) (ty := .int) (C := RX12) (T := TX12) (N := 114) hx hb hts wi_X12 tyX12 tyX12_ok nmX12 hown X.1 X.2.1 X.2.2.1 X.2.2.2.1 0 rfl rfl 23 (by decide) (hts _ q6_217) (fun _ h9 => h9) rfl (by decide +kernel) rfl rfl (by rw [List.length_map, List.length_range]; decide) dX12_much_9 (fun H locs hP hD hS => ?_)
    have X : Hx D (tX12 yT) A s H locs (wX12 hT aT yT (sI gT 23 x0)) := Hx_set X (wG_sI (k := 23) rfl) hP hD hS
    have hq := Option.some.inj hF
    subst hq
    exact rt_v C X dX12_much_12

/-! ### X12_node -/
theorem dX12_node_0 : decode cX12_node 0 = .ok (.aload_n 0, 1) := by decide +kernel
theorem dX12_node_1 : decode cX12_node 1 = .ok (.dup, 1) := by decide +kernel
theorem dX12_node_2 : decode cX12_node 2 = .ok (.getfield 128, 3) := by decide +kernel
theorem dX12_node_5 : decode cX12_node 5 = .ok (.iconst 1, 1) := by decide +kernel
theorem dX12_node_6 : decode cX12_node 6 = .ok (.iadd, 1) := by decide +kernel
theorem dX12_node_7 : decode cX12_node 7 = .ok (.putfield 128, 3) := by decide +kernel
theorem dX12_node_10 : decode cX12_node 10 = .ok (.aload_n 0, 1) := by decide +kernel
theorem dX12_node_11 : decode cX12_node 11 = .ok (.getfield 128, 3) := by decide +kernel
theorem dX12_node_14 : decode cX12_node 14 = .ok (.sipush 501, 3) := by decide +kernel
theorem dX12_node_17 : decode cX12_node 17 = .ok (.if_icmp .ne 13, 3) := by decide +kernel
theorem dX12_node_20 : decode cX12_node 20 = .ok (.aload_n 0, 1) := by decide +kernel
theorem dX12_node_21 : decode cX12_node 21 = .ok (.aload_n 0, 1) := by decide +kernel
theorem dX12_node_22 : decode cX12_node 22 = .ok (.getfield 86, 3) := by decide +kernel
theorem dX12_node_25 : decode cX12_node 25 = .ok (.iload_n 1, 1) := by decide +kernel
theorem dX12_node_26 : decode cX12_node 26 = .ok (.iaload, 1) := by decide +kernel
theorem dX12_node_27 : decode cX12_node 27 = .ok (.invokevirtual 541, 3) := by decide +kernel
theorem dX12_node_30 : decode cX12_node 30 = .ok (.return_, 1) := by decide +kernel
abbrev R_X12_node : Room := ({ frames := 1, cells := 0, slots := 0, locals := 21 } : Room)
def f_X12_node (gT : Gs) (x0 : Int32) : Option (Gs) :=
  if ((gI gT 24) + (1 : Int32)) = (501 : Int32) then (grd (inB x0 3001) (bnd (f_X12_much (sI gT 24 ((gI gT 24) + (1 : Int32))) (gIA gT 10 x0.toNatClampNeg)) (fun q_2 => some q_2))) else (some (sI gT 24 ((gI gT 24) + (1 : Int32))))
set_option maxHeartbeats 4000000 in
set_option maxRecDepth 100000 in
theorem c_X12_node (l : Launch) (D : Dx) (hT : Nat) (aT : Nat → Nat) (yT : Nat → ClassId) (gT : Gs) (x0 : Int32) (q : Gs) (hF : f_X12_node gT x0 = some q) (sz : Nat) : Met l yX12_node (ws_ yX12_node cX12_node 2 none) R_X12_node (PC D (tX12 yT) [.ref hT, .int x0] (wX12 hT aT yT gT) sz) (QV D (va_A (wX12 hT aT yT gT) sz) (wX12 hT aT yT q)) 0 0 (va_A (wX12 hT aT yT gT) sz) := by
  refine Met.ofW (cc := cX12_node) (maxL := 2) (ret := none) (by decide) rfl ?_
  intro p e s m args below meth c s₁ B hml hv
  obtain ⟨rfl, hsz, hP, hK, hD, hN⟩ := hv
  subst hsz
  have C : Cx p s m _ meth c cX12_node none 2 RX12 lw_all := Cx_of B hml
  have X := Hx_start hP hK hD hN
  obtain ⟨hx, hb, hr, -, hown, hts, hlk⟩ := id C
  generalize va_A (wX12 hT aT yT gT) s.heap.size = A at X ⊢
  have hl := lv_entry ([.ref hT, .int x0]) (n := 2) (Nat.le_of_ble_eq_true rfl)
  rw [lg_entry_eq]
  generalize (lg_sl ([.ref hT, .int x0]) ++ List.replicate (2 - (lg_sl ([.ref hT, .int x0])).length) Slot.unset).toArray = ls at hl ⊢
  have hl : lv_has ls 2 [(0, .ref hT), (1, .int x0)] := hl
  unfold f_X12_node at hF
  refine lv_aload_n hx hb dX12_node_0 rfl (lv_at hl 0 rfl) ?_
  refine lv_dup hx hb dX12_node_1 rfl ?_
  refine va_get (D := D.1) (ci := 12) (v := .int (gI gT 24)) (C := RX12) (T := TX12) (N := 114) hx hb hts wi_X12 hown X.1 X.2.1 0 rfl rfl 24 (by decide) (hts _ q6_218) (fun _ h9 => h9) (fl_get (by decide)) dX12_node_2 ?_
  refine lv_iconst (v := (1 : Int32)) hx hb dX12_node_5 (by decide) ?_
  refine lv_iadd hx hb dX12_node_6 ?_
  refine va_put (D := D.1) (ci := 12) (v := .int ((gI gT 24) + (1 : Int32))) (ty := .int) (C := RX12) (T := TX12) (N := 114) hx hb hts wi_X12 tyX12 tyX12_ok nmX12 hown X.1 X.2.1 X.2.2.1 X.2.2.2.1 0 rfl rfl 24 (by decide) (hts _ q6_218) (fun _ h9 => h9) rfl (by decide +kernel) rfl rfl (by rw [List.length_map, List.length_range]; decide) dX12_node_7 (fun H locs hP hD hS => ?_)
  have X : Hx D (tX12 yT) A s H locs (wX12 hT aT yT (sI gT 24 ((gI gT 24) + (1 : Int32)))) := Hx_set X (wG_sI (k := 24) rfl) hP hD hS
  refine lv_aload_n hx hb dX12_node_10 rfl (lv_at hl 0 rfl) ?_
  refine va_get (D := D.1) (ci := 12) (v := .int ((gI gT 24) + (1 : Int32))) (C := RX12) (T := TX12) (N := 114) hx hb hts wi_X12 hown X.1 X.2.1 0 rfl rfl 24 (by decide) (hts _ q6_218) (fun _ h9 => h9) (fl_get (by decide)) dX12_node_11 ?_
  refine lv_sipush (v := (501 : Int32)) hx hb dX12_node_14 (by decide) ?_
  refine lv_icmp_ne (tgt := 30) hx hb dX12_node_17 (by decide) (fun c => ?_) (fun c => ?_)
  · replace hF := iF c hF
    have hq := Option.some.inj hF
    subst hq
    exact rt_v C X dX12_node_30
  · replace hF := iT c hF
    refine lv_aload_n hx hb dX12_node_20 rfl (lv_at hl 0 rfl) ?_
    refine lv_aload_n hx hb dX12_node_21 rfl (lv_at hl 0 rfl) ?_
    refine va_get (D := D.1) (ci := 12) (v := .ref (aT 10)) (C := RX12) (T := TX12) (N := 114) hx hb hts wi_X12 hown X.1 X.2.1 0 rfl rfl 10 (by decide) (hts _ q6_204) (fun _ h9 => h9) (fl_get (by decide)) dX12_node_22 ?_
    refine lv_iload_n hx hb dX12_node_25 rfl (lv_at hl 1 rfl) ?_
    obtain ⟨h_1, hF⟩ := grd_some hF
    refine va_iald (D := D.1) (f := gIA gT 10) hx hb X.1 X.2.1 5 4 rfl rfl (inB_ok h_1) dX12_node_26 ?_
    obtain ⟨q_2, hc_3, hF⟩ := bnd_some hF
    refine cV_v (As := [.int (gIA gT 10 x0.toNatClampNeg)]) (rest := []) C X (c_X12_much l D hT aT yT (sI gT 24 ((gI gT 24) + (1 : Int32))) (gIA gT 10 x0.toNatClampNeg) q_2 hc_3 _) (cwV 1 hts (good_V q8_181 q8_183 q0_80 q1_9 q8_184) rfl rfl rfl (by decide +kernel) ⟨Nat.le_of_ble_eq_true rfl, Nat.le_of_ble_eq_true rfl⟩) (va_recv X.1 X.2.1 (ci := 12) (q0 := 0) rfl rfl) X.1 X.2.1 X.2.2.1 (free_all X) hl.1 rfl rfl (Nat.le_of_ble_eq_true rfl) dX12_node_27 ⟨Nat.le_of_ble_eq_true rfl, Nat.le_of_ble_eq_true rfl⟩ (fun t H1 locs1 ht hB hk hS => ?_)
    have X : Hx D (tX12 yT) A s H1 locs1 (wX12 hT aT yT q_2) := Hx_after_all X ht hB hS
    clear hk hS ht hB
    generalize H1 = H at X ⊢
    generalize locs1 = locs at X ⊢
    have hq := Option.some.inj hF
    subst hq
    exact rt_v C X dX12_node_30

/-! ### X12_need -/
theorem dX12_need_0 : decode cX12_need 0 = .ok (.aload_n 0, 1) := by decide +kernel
theorem dX12_need_1 : decode cX12_need 1 = .ok (.getfield 82, 3) := by decide +kernel
theorem dX12_need_4 : decode cX12_need 4 = .ok (.aload_n 0, 1) := by decide +kernel
theorem dX12_need_5 : decode cX12_need 5 = .ok (.getfield 116, 3) := by decide +kernel
theorem dX12_need_8 : decode cX12_need 8 = .ok (.iaload, 1) := by decide +kernel
theorem dX12_need_9 : decode cX12_need 9 = .ok (.iload_n 1, 1) := by decide +kernel
theorem dX12_need_10 : decode cX12_need 10 = .ok (.if_icmp .eq 8, 3) := by decide +kernel
theorem dX12_need_13 : decode cX12_need 13 = .ok (.aload_n 0, 1) := by decide +kernel
theorem dX12_need_14 : decode cX12_need 14 = .ok (.invokevirtual 544, 3) := by decide +kernel
theorem dX12_need_17 : decode cX12_need 17 = .ok (.ireturn, 1) := by decide +kernel
theorem dX12_need_18 : decode cX12_need 18 = .ok (.aload_n 0, 1) := by decide +kernel
theorem dX12_need_19 : decode cX12_need 19 = .ok (.dup, 1) := by decide +kernel
theorem dX12_need_20 : decode cX12_need 20 = .ok (.getfield 116, 3) := by decide +kernel
theorem dX12_need_23 : decode cX12_need 23 = .ok (.iconst 1, 1) := by decide +kernel
theorem dX12_need_24 : decode cX12_need 24 = .ok (.iadd, 1) := by decide +kernel
theorem dX12_need_25 : decode cX12_need 25 = .ok (.putfield 116, 3) := by decide +kernel
theorem dX12_need_28 : decode cX12_need 28 = .ok (.iconst 1, 1) := by decide +kernel
theorem dX12_need_29 : decode cX12_need 29 = .ok (.ireturn, 1) := by decide +kernel
abbrev R_X12_need : Room := ({ frames := 2, cells := 0, slots := 0, locals := 42 } : Room)
def f_X12_need (gT : Gs) (x0 : Int32) : Option (Int32 × Gs) :=
  grd (inB (gI gT 20) 3001) (if (gIA gT 9 (gI gT 20).toNatClampNeg) = x0 then (some ((1 : Int32), (sI gT 20 ((gI gT 20) + (1 : Int32))))) else (bnd (f_X12_cannot gT) (fun q_2 => grd (zB q_2.1) (some (q_2.1, q_2.2)))))
set_option maxHeartbeats 4000000 in
set_option maxRecDepth 100000 in
theorem c_X12_need (l : Launch) (D : Dx) (hT : Nat) (aT : Nat → Nat) (yT : Nat → ClassId) (gT : Gs) (x0 : Int32) (q : Int32 × Gs) (hF : f_X12_need gT x0 = some q) (sz : Nat) : Met l yX12_need (ws_ yX12_need cX12_need 2 (some .boolean)) R_X12_need (PC D (tX12 yT) [.ref hT, .int x0] (wX12 hT aT yT gT) sz) (QI D (va_A (wX12 hT aT yT gT) sz) (wX12 hT aT yT q.2) q.1) 0 0 (va_A (wX12 hT aT yT gT) sz) := by
  refine Met.ofW (cc := cX12_need) (maxL := 2) (ret := (some .boolean)) (by decide) rfl ?_
  intro p e s m args below meth c s₁ B hml hv
  obtain ⟨rfl, hsz, hP, hK, hD, hN⟩ := hv
  subst hsz
  have C : Cx p s m _ meth c cX12_need (some .boolean) 2 RX12 lw_all := Cx_of B hml
  have X := Hx_start hP hK hD hN
  obtain ⟨hx, hb, hr, -, hown, hts, hlk⟩ := id C
  generalize va_A (wX12 hT aT yT gT) s.heap.size = A at X ⊢
  have hl := lv_entry ([.ref hT, .int x0]) (n := 2) (Nat.le_of_ble_eq_true rfl)
  rw [lg_entry_eq]
  generalize (lg_sl ([.ref hT, .int x0]) ++ List.replicate (2 - (lg_sl ([.ref hT, .int x0])).length) Slot.unset).toArray = ls at hl ⊢
  have hl : lv_has ls 2 [(0, .ref hT), (1, .int x0)] := hl
  unfold f_X12_need at hF
  refine lv_aload_n hx hb dX12_need_0 rfl (lv_at hl 0 rfl) ?_
  refine va_get (D := D.1) (ci := 12) (v := .ref (aT 9)) (C := RX12) (T := TX12) (N := 114) hx hb hts wi_X12 hown X.1 X.2.1 0 rfl rfl 9 (by decide) (hts _ q6_203) (fun _ h9 => h9) (fl_get (by decide)) dX12_need_1 ?_
  refine lv_aload_n hx hb dX12_need_4 rfl (lv_at hl 0 rfl) ?_
  refine va_get (D := D.1) (ci := 12) (v := .int (gI gT 20)) (C := RX12) (T := TX12) (N := 114) hx hb hts wi_X12 hown X.1 X.2.1 0 rfl rfl 20 (by decide) (hts _ q6_214) (fun _ h9 => h9) (fl_get (by decide)) dX12_need_5 ?_
  obtain ⟨h_1, hF⟩ := grd_some hF
  refine va_iald (D := D.1) (f := gIA gT 9) hx hb X.1 X.2.1 4 3 rfl rfl (inB_ok h_1) dX12_need_8 ?_
  refine lv_iload_n hx hb dX12_need_9 rfl (lv_at hl 1 rfl) ?_
  refine lv_icmp_eq (tgt := 18) hx hb dX12_need_10 (by decide) (fun c => ?_) (fun c => ?_)
  · replace hF := iT c hF
    refine lv_aload_n hx hb dX12_need_18 rfl (lv_at hl 0 rfl) ?_
    refine lv_dup hx hb dX12_need_19 rfl ?_
    refine va_get (D := D.1) (ci := 12) (v := .int (gI gT 20)) (C := RX12) (T := TX12) (N := 114) hx hb hts wi_X12 hown X.1 X.2.1 0 rfl rfl 20 (by decide) (hts _ q6_214) (fun _ h9 => h9) (fl_get (by decide)) dX12_need_20 ?_
    refine lv_iconst (v := (1 : Int32)) hx hb dX12_need_23 (by decide) ?_
    refine lv_iadd hx hb dX12_need_24 ?_
    refine va_put (D := D.1) (ci := 12) (v := .int ((gI gT 20) + (1 : Int32))) (ty := .int) (C := RX12) (T := TX12) (N := 114) hx hb hts wi_X12 tyX12 tyX12_ok nmX12 hown X.1 X.2.1 X.2.2.1 X.2.2.2.1 0 rfl rfl 20 (by decide) (hts _ q6_214) (fun _ h9 => h9) rfl (by decide +kernel) rfl rfl (by rw [List.length_map, List.length_range]; decide) dX12_need_25 (fun H locs hP hD hS => ?_)
    have X : Hx D (tX12 yT) A s H locs (wX12 hT aT yT (sI gT 20 ((gI gT 20) + (1 : Int32)))) := Hx_set X (wG_sI (k := 20) rfl) hP hD hS
    refine lv_iconst (v := (1 : Int32)) hx hb dX12_need_28 (by decide) ?_
    have hq := Option.some.inj hF
    subst hq
    exact rt_z (v := (1 : Int32)) C X (by decide) dX12_need_29
  · replace hF := iF c hF
    refine lv_aload_n hx hb dX12_need_13 rfl (lv_at hl 0 rfl) ?_
    obtain ⟨q_2, hc_3, hF⟩ := bnd_some hF
    refine cV_i (As := []) (rest := []) C X (c_X12_cannot l D hT aT yT gT q_2 hc_3 _) (cwV 0 hts (good_V q8_173 q8_175 q0_78 q1_9 q8_176) rfl rfl rfl (by decide +kernel) ⟨Nat.le_of_ble_eq_true rfl, Nat.le_of_ble_eq_true rfl⟩) (va_recv X.1 X.2.1 (ci := 12) (q0 := 0) rfl rfl) X.1 X.2.1 X.2.2.1 (free_all X) hl.1 rfl rfl (Nat.le_of_ble_eq_true rfl) dX12_need_14 ⟨Nat.le_of_ble_eq_true rfl, Nat.le_of_ble_eq_true rfl⟩ (fun t H1 locs1 ht hB hk hS => ?_)
    have X : Hx D (tX12 yT) A s H1 locs1 (wX12 hT aT yT q_2.2) := Hx_after_all X ht hB hS
    clear hk hS ht hB
    generalize H1 = H at X ⊢
    generalize locs1 = locs at X ⊢
    obtain ⟨h_4, hF⟩ := grd_some hF
    have hq := Option.some.inj hF
    subst hq
    exact rt_z (v := q_2.1) C X (zB_n h_4) dX12_need_17

/-! ### X12_act -/
theorem dX12_act_0 : decode cX12_act 0 = .ok (.aload_n 0, 1) := by decide +kernel
theorem dX12_act_1 : decode cX12_act 1 = .ok (.getfield 98, 3) := by decide +kernel
theorem dX12_act_4 : decode cX12_act 4 = .ok (.aload_n 0, 1) := by decide +kernel
theorem dX12_act_5 : decode cX12_act 5 = .ok (.getfield 113, 3) := by decide +kernel
theorem dX12_act_8 : decode cX12_act 8 = .ok (.iload_n 1, 1) := by decide +kernel
theorem dX12_act_9 : decode cX12_act 9 = .ok (.iastore, 1) := by decide +kernel
theorem dX12_act_10 : decode cX12_act 10 = .ok (.aload_n 0, 1) := by decide +kernel
theorem dX12_act_11 : decode cX12_act 11 = .ok (.getfield 101, 3) := by decide +kernel
theorem dX12_act_14 : decode cX12_act 14 = .ok (.aload_n 0, 1) := by decide +kernel
theorem dX12_act_15 : decode cX12_act 15 = .ok (.getfield 113, 3) := by decide +kernel
theorem dX12_act_18 : decode cX12_act 18 = .ok (.iload_n 2, 1) := by decide +kernel
theorem dX12_act_19 : decode cX12_act 19 = .ok (.iastore, 1) := by decide +kernel
theorem dX12_act_20 : decode cX12_act 20 = .ok (.aload_n 0, 1) := by decide +kernel
theorem dX12_act_21 : decode cX12_act 21 = .ok (.getfield 104, 3) := by decide +kernel
theorem dX12_act_24 : decode cX12_act 24 = .ok (.aload_n 0, 1) := by decide +kernel
theorem dX12_act_25 : decode cX12_act 25 = .ok (.getfield 113, 3) := by decide +kernel
theorem dX12_act_28 : decode cX12_act 28 = .ok (.iconst 0, 1) := by decide +kernel
theorem dX12_act_29 : decode cX12_act 29 = .ok (.iastore, 1) := by decide +kernel
theorem dX12_act_30 : decode cX12_act 30 = .ok (.aload_n 0, 1) := by decide +kernel
theorem dX12_act_31 : decode cX12_act 31 = .ok (.getfield 107, 3) := by decide +kernel
theorem dX12_act_34 : decode cX12_act 34 = .ok (.aload_n 0, 1) := by decide +kernel
theorem dX12_act_35 : decode cX12_act 35 = .ok (.getfield 113, 3) := by decide +kernel
theorem dX12_act_38 : decode cX12_act 38 = .ok (.iload_n 3, 1) := by decide +kernel
theorem dX12_act_39 : decode cX12_act 39 = .ok (.iastore, 1) := by decide +kernel
theorem dX12_act_40 : decode cX12_act 40 = .ok (.aload_n 0, 1) := by decide +kernel
theorem dX12_act_41 : decode cX12_act 41 = .ok (.dup, 1) := by decide +kernel
theorem dX12_act_42 : decode cX12_act 42 = .ok (.getfield 113, 3) := by decide +kernel
theorem dX12_act_45 : decode cX12_act 45 = .ok (.iconst 1, 1) := by decide +kernel
theorem dX12_act_46 : decode cX12_act 46 = .ok (.iadd, 1) := by decide +kernel
theorem dX12_act_47 : decode cX12_act 47 = .ok (.putfield 113, 3) := by decide +kernel
theorem dX12_act_50 : decode cX12_act 50 = .ok (.aload_n 0, 1) := by decide +kernel
theorem dX12_act_51 : decode cX12_act 51 = .ok (.getfield 113, 3) := by decide +kernel
theorem dX12_act_54 : decode cX12_act 54 = .ok (.iconst 1, 1) := by decide +kernel
theorem dX12_act_55 : decode cX12_act 55 = .ok (.isub, 1) := by decide +kernel
theorem dX12_act_56 : decode cX12_act 56 = .ok (.ireturn, 1) := by decide +kernel
abbrev R_X12_act : Room := ({ frames := 0, cells := 0, slots := 0, locals := 0 } : Room)
def f_X12_act (gT : Gs) (x0 : Int32) (x1 : Int32) (x2 : Int32) : Option (Int32 × Gs) :=
  grd (inB (gI gT 19) 8000) (grd (inB (gI gT 19) 8000) (grd (inB (gI gT 19) 8000) (grd (inB (gI gT 19) 8000) (some (((gI gT 19) + (1 : Int32)) - (1 : Int32), (sI (sIA (sIA (sIA (sIA gT 14 (upd (gIA gT 14) (gI gT 19).toNatClampNeg x0)) 15 (upd (gIA gT 15) (gI gT 19).toNatClampNeg x1)) 16 (upd (gIA gT 16) (gI gT 19).toNatClampNeg (0 : Int32))) 17 (upd (gIA gT 17) (gI gT 19).toNatClampNeg x2)) 19 ((gI gT 19) + (1 : Int32))))))))
set_option maxHeartbeats 4000000 in
set_option maxRecDepth 100000 in
theorem c_X12_act (l : Launch) (D : Dx) (hT : Nat) (aT : Nat → Nat) (yT : Nat → ClassId) (gT : Gs) (x0 : Int32) (x1 : Int32) (x2 : Int32) (q : Int32 × Gs) (hF : f_X12_act gT x0 x1 x2 = some q) (sz : Nat) : Met l yX12_act (ws_ yX12_act cX12_act 4 (some .int)) R_X12_act (PC D (tX12 yT) [.ref hT, .int x0, .int x1, .int x2] (wX12 hT aT yT gT) sz) (QI D (va_A (wX12 hT aT yT gT) sz) (wX12 hT aT yT q.2) q.1) 0 0 (va_A (wX12 hT aT yT gT) sz) := by
  refine Met.ofW (cc := cX12_act) (maxL := 4) (ret := (some .int)) (by decide) rfl ?_
  intro p e s m args below meth c s₁ B hml hv
  obtain ⟨rfl, hsz, hP, hK, hD, hN⟩ := hv
  subst hsz
  have C : Cx p s m _ meth c cX12_act (some .int) 4 RX12 lw_all := Cx_of B hml
  have X := Hx_start hP hK hD hN
  obtain ⟨hx, hb, hr, -, hown, hts, hlk⟩ := id C
  generalize va_A (wX12 hT aT yT gT) s.heap.size = A at X ⊢
  have hl := lv_entry ([.ref hT, .int x0, .int x1, .int x2]) (n := 4) (Nat.le_of_ble_eq_true rfl)
  rw [lg_entry_eq]
  generalize (lg_sl ([.ref hT, .int x0, .int x1, .int x2]) ++ List.replicate (4 - (lg_sl ([.ref hT, .int x0, .int x1, .int x2])).length) Slot.unset).toArray = ls at hl ⊢
  have hl : lv_has ls 4 [(0, .ref hT), (1, .int x0), (2, .int x1), (3, .int x2)] := hl
  unfold f_X12_act at hF
  refine lv_aload_n hx hb dX12_act_0 rfl (lv_at hl 0 rfl) ?_
  refine va_get (D := D.1) (ci := 12) (v := .ref (aT 14)) (C := RX12) (T := TX12) (N := 114) hx hb hts wi_X12 hown X.1 X.2.1 0 rfl rfl 14 (by decide) (hts _ q6_208) (fun _ h9 => h9) (fl_get (by decide)) dX12_act_1 ?_
  refine lv_aload_n hx hb dX12_act_4 rfl (lv_at hl 0 rfl) ?_
  refine va_get (D := D.1) (ci := 12) (v := .int (gI gT 19)) (C := RX12) (T := TX12) (N := 114) hx hb hts wi_X12 hown X.1 X.2.1 0 rfl rfl 19 (by decide) (hts _ q6_213) (fun _ h9 => h9) (fl_get (by decide)) dX12_act_5 ?_
  refine lv_iload_n hx hb dX12_act_8 rfl (lv_at hl 1 rfl) ?_
  obtain ⟨h_1, hF⟩ := grd_some hF
  refine va_iast (D := D.1) (f := gIA gT 14) hx hb X.1 X.2.1 X.2.2.1 X.2.2.2.1 9 8 rfl rfl (inB_ok h_1) dX12_act_9 (fun H locs hP hD hS => ?_)
  have X : Hx D (tX12 yT) A s H locs (wX12 hT aT yT (sIA gT 14 (upd (gIA gT 14) (gI gT 19).toNatClampNeg x0))) := Hx_set X (wG_sIA (i := 8) (k := 14) ndX12 rfl rfl) hP hD hS
  refine lv_aload_n hx hb dX12_act_10 rfl (lv_at hl 0 rfl) ?_
  refine va_get (D := D.1) (ci := 12) (v := .ref (aT 15)) (C := RX12) (T := TX12) (N := 114) hx hb hts wi_X12 hown X.1 X.2.1 0 rfl rfl 15 (by decide) (hts _ q6_209) (fun _ h9 => h9) (fl_get (by decide)) dX12_act_11 ?_
  refine lv_aload_n hx hb dX12_act_14 rfl (lv_at hl 0 rfl) ?_
  refine va_get (D := D.1) (ci := 12) (v := .int (gI gT 19)) (C := RX12) (T := TX12) (N := 114) hx hb hts wi_X12 hown X.1 X.2.1 0 rfl rfl 19 (by decide) (hts _ q6_213) (fun _ h9 => h9) (fl_get (by decide)) dX12_act_15 ?_
  refine lv_iload_n hx hb dX12_act_18 rfl (lv_at hl 2 rfl) ?_
  obtain ⟨h_2, hF⟩ := grd_some hF
  refine va_iast (D := D.1) (f := gIA gT 15) hx hb X.1 X.2.1 X.2.2.1 X.2.2.2.1 10 9 rfl rfl (inB_ok h_2) dX12_act_19 (fun H locs hP hD hS => ?_)
  have X : Hx D (tX12 yT) A s H locs (wX12 hT aT yT (sIA (sIA gT 14 (upd (gIA gT 14) (gI gT 19).toNatClampNeg x0)) 15 (upd (gIA gT 15) (gI gT 19).toNatClampNeg x1))) := Hx_set X (wG_sIA (i := 9) (k := 15) ndX12 rfl rfl) hP hD hS
  refine lv_aload_n hx hb dX12_act_20 rfl (lv_at hl 0 rfl) ?_
  refine va_get (D := D.1) (ci := 12) (v := .ref (aT 16)) (C := RX12) (T := TX12) (N := 114) hx hb hts wi_X12 hown X.1 X.2.1 0 rfl rfl 16 (by decide) (hts _ q6_210) (fun _ h9 => h9) (fl_get (by decide)) dX12_act_21 ?_
  refine lv_aload_n hx hb dX12_act_24 rfl (lv_at hl 0 rfl) ?_
  refine va_get (D := D.1) (ci := 12) (v := .int (gI gT 19)) (C := RX12) (T := TX12) (N := 114) hx hb hts wi_X12 hown X.1 X.2.1 0 rfl rfl 19 (by decide) (hts _ q6_213) (fun _ h9 => h9) (fl_get (by decide)) dX12_act_25 ?_
  refine lv_iconst (v := (0 : Int32)) hx hb dX12_act_28 (by decide) ?_
  obtain ⟨h_3, hF⟩ := grd_some hF
  refine va_iast (D := D.1) (f := gIA gT 16) hx hb X.1 X.2.1 X.2.2.1 X.2.2.2.1 11 10 rfl rfl (inB_ok h_3) dX12_act_29 (fun H locs hP hD hS => ?_)
  have X : Hx D (tX12 yT) A s H locs (wX12 hT aT yT (sIA (sIA (sIA gT 14 (upd (gIA gT 14) (gI gT 19).toNatClampNeg x0)) 15 (upd (gIA gT 15) (gI gT 19).toNatClampNeg x1)) 16 (upd (gIA gT 16) (gI gT 19).toNatClampNeg (0 : Int32)))) := Hx_set X (wG_sIA (i := 10) (k := 16) ndX12 rfl rfl) hP hD hS
  refine lv_aload_n hx hb dX12_act_30 rfl (lv_at hl 0 rfl) ?_
  refine va_get (D := D.1) (ci := 12) (v := .ref (aT 17)) (C := RX12) (T := TX12) (N := 114) hx hb hts wi_X12 hown X.1 X.2.1 0 rfl rfl 17 (by decide) (hts _ q6_211) (fun _ h9 => h9) (fl_get (by decide)) dX12_act_31 ?_
  refine lv_aload_n hx hb dX12_act_34 rfl (lv_at hl 0 rfl) ?_
  refine va_get (D := D.1) (ci := 12) (v := .int (gI gT 19)) (C := RX12) (T := TX12) (N := 114) hx hb hts wi_X12 hown X.1 X.2.1 0 rfl rfl 19 (by decide) (hts _ q6_213) (fun _ h9 => h9) (fl_get (by decide)) dX12_act_35 ?_
  refine lv_iload_n hx hb dX12_act_38 rfl (lv_at hl 3 rfl) ?_
  obtain ⟨h_4, hF⟩ := grd_some hF
  refine va_iast (D := D.1) (f := gIA gT 17) hx hb X.1 X.2.1 X.2.2.1 X.2.2.2.1 12 11 rfl rfl (inB_ok h_4) dX12_act_39 (fun H locs hP hD hS => ?_)
  have X : Hx D (tX12 yT) A s H locs (wX12 hT aT yT (sIA (sIA (sIA (sIA gT 14 (upd (gIA gT 14) (gI gT 19).toNatClampNeg x0)) 15 (upd (gIA gT 15) (gI gT 19).toNatClampNeg x1)) 16 (upd (gIA gT 16) (gI gT 19).toNatClampNeg (0 : Int32))) 17 (upd (gIA gT 17) (gI gT 19).toNatClampNeg x2))) := Hx_set X (wG_sIA (i := 11) (k := 17) ndX12 rfl rfl) hP hD hS
  refine lv_aload_n hx hb dX12_act_40 rfl (lv_at hl 0 rfl) ?_
  refine lv_dup hx hb dX12_act_41 rfl ?_
  refine va_get (D := D.1) (ci := 12) (v := .int (gI gT 19)) (C := RX12) (T := TX12) (N := 114) hx hb hts wi_X12 hown X.1 X.2.1 0 rfl rfl 19 (by decide) (hts _ q6_213) (fun _ h9 => h9) (fl_get (by decide)) dX12_act_42 ?_
  refine lv_iconst (v := (1 : Int32)) hx hb dX12_act_45 (by decide) ?_
  refine lv_iadd hx hb dX12_act_46 ?_
  refine va_put (D := D.1) (ci := 12) (v := .int ((gI gT 19) + (1 : Int32))) (ty := .int) (C := RX12) (T := TX12) (N := 114) hx hb hts wi_X12 tyX12 tyX12_ok nmX12 hown X.1 X.2.1 X.2.2.1 X.2.2.2.1 0 rfl rfl 19 (by decide) (hts _ q6_213) (fun _ h9 => h9) rfl (by decide +kernel) rfl rfl (by rw [List.length_map, List.length_range]; decide) dX12_act_47 (fun H locs hP hD hS => ?_)
  have X : Hx D (tX12 yT) A s H locs (wX12 hT aT yT (sI (sIA (sIA (sIA (sIA gT 14 (upd (gIA gT 14) (gI gT 19).toNatClampNeg x0)) 15 (upd (gIA gT 15) (gI gT 19).toNatClampNeg x1)) 16 (upd (gIA gT 16) (gI gT 19).toNatClampNeg (0 : Int32))) 17 (upd (gIA gT 17) (gI gT 19).toNatClampNeg x2)) 19 ((gI gT 19) + (1 : Int32)))) := Hx_set X (wG_sI (k := 19) rfl) hP hD hS
  refine lv_aload_n hx hb dX12_act_50 rfl (lv_at hl 0 rfl) ?_
  refine va_get (D := D.1) (ci := 12) (v := .int ((gI gT 19) + (1 : Int32))) (C := RX12) (T := TX12) (N := 114) hx hb hts wi_X12 hown X.1 X.2.1 0 rfl rfl 19 (by decide) (hts _ q6_213) (fun _ h9 => h9) (fl_get (by decide)) dX12_act_51 ?_
  refine lv_iconst (v := (1 : Int32)) hx hb dX12_act_54 (by decide) ?_
  refine lv_isub hx hb dX12_act_55 ?_
  have hq := Option.some.inj hF
  subst hq
  exact rt_i C X dX12_act_56

/-! ### X12_name -/
theorem dX12_name_0 : decode cX12_name 0 = .ok (.aload_n 0, 1) := by decide +kernel
theorem dX12_name_1 : decode cX12_name 1 = .ok (.getfield 141, 3) := by decide +kernel
theorem dX12_name_4 : decode cX12_name 4 = .ok (.aload_n 0, 1) := by decide +kernel
theorem dX12_name_5 : decode cX12_name 5 = .ok (.getfield 138, 3) := by decide +kernel
theorem dX12_name_8 : decode cX12_name 8 = .ok (.iload_n 1, 1) := by decide +kernel
theorem dX12_name_9 : decode cX12_name 9 = .ok (.iastore, 1) := by decide +kernel
theorem dX12_name_10 : decode cX12_name 10 = .ok (.aload_n 0, 1) := by decide +kernel
theorem dX12_name_11 : decode cX12_name 11 = .ok (.getfield 144, 3) := by decide +kernel
theorem dX12_name_14 : decode cX12_name 14 = .ok (.aload_n 0, 1) := by decide +kernel
theorem dX12_name_15 : decode cX12_name 15 = .ok (.getfield 138, 3) := by decide +kernel
theorem dX12_name_18 : decode cX12_name 18 = .ok (.iload_n 2, 1) := by decide +kernel
theorem dX12_name_19 : decode cX12_name 19 = .ok (.iastore, 1) := by decide +kernel
theorem dX12_name_20 : decode cX12_name 20 = .ok (.aload_n 0, 1) := by decide +kernel
theorem dX12_name_21 : decode cX12_name 21 = .ok (.getfield 147, 3) := by decide +kernel
theorem dX12_name_24 : decode cX12_name 24 = .ok (.aload_n 0, 1) := by decide +kernel
theorem dX12_name_25 : decode cX12_name 25 = .ok (.getfield 138, 3) := by decide +kernel
theorem dX12_name_28 : decode cX12_name 28 = .ok (.aload_n 0, 1) := by decide +kernel
theorem dX12_name_29 : decode cX12_name 29 = .ok (.getfield 134, 3) := by decide +kernel
theorem dX12_name_32 : decode cX12_name 32 = .ok (.ifCond .eq 12, 3) := by decide +kernel
theorem dX12_name_35 : decode cX12_name 35 = .ok (.aload_n 0, 1) := by decide +kernel
theorem dX12_name_36 : decode cX12_name 36 = .ok (.getfield 156, 3) := by decide +kernel
theorem dX12_name_39 : decode cX12_name 39 = .ok (.iconst 1, 1) := by decide +kernel
theorem dX12_name_40 : decode cX12_name 40 = .ok (.isub, 1) := by decide +kernel
theorem dX12_name_41 : decode cX12_name 41 = .ok (.goto 6, 3) := by decide +kernel
theorem dX12_name_44 : decode cX12_name 44 = .ok (.sipush 9999, 3) := by decide +kernel
theorem dX12_name_47 : decode cX12_name 47 = .ok (.iastore, 1) := by decide +kernel
theorem dX12_name_48 : decode cX12_name 48 = .ok (.aload_n 0, 1) := by decide +kernel
theorem dX12_name_49 : decode cX12_name 49 = .ok (.getfield 150, 3) := by decide +kernel
theorem dX12_name_52 : decode cX12_name 52 = .ok (.aload_n 0, 1) := by decide +kernel
theorem dX12_name_53 : decode cX12_name 53 = .ok (.getfield 138, 3) := by decide +kernel
theorem dX12_name_56 : decode cX12_name 56 = .ok (.aload_n 0, 1) := by decide +kernel
theorem dX12_name_57 : decode cX12_name 57 = .ok (.getfield 134, 3) := by decide +kernel
theorem dX12_name_60 : decode cX12_name 60 = .ok (.ifCond .eq 10, 3) := by decide +kernel
theorem dX12_name_63 : decode cX12_name 63 = .ok (.aload_n 0, 1) := by decide +kernel
theorem dX12_name_64 : decode cX12_name 64 = .ok (.getfield 162, 3) := by decide +kernel
theorem dX12_name_67 : decode cX12_name 67 = .ok (.goto 6, 3) := by decide +kernel
theorem dX12_name_70 : decode cX12_name 70 = .ok (.sipush 9999, 3) := by decide +kernel
theorem dX12_name_73 : decode cX12_name 73 = .ok (.iastore, 1) := by decide +kernel
theorem dX12_name_74 : decode cX12_name 74 = .ok (.aload_n 0, 1) := by decide +kernel
theorem dX12_name_75 : decode cX12_name 75 = .ok (.getfield 153, 3) := by decide +kernel
theorem dX12_name_78 : decode cX12_name 78 = .ok (.aload_n 0, 1) := by decide +kernel
theorem dX12_name_79 : decode cX12_name 79 = .ok (.getfield 138, 3) := by decide +kernel
theorem dX12_name_82 : decode cX12_name 82 = .ok (.iload_n 3, 1) := by decide +kernel
theorem dX12_name_83 : decode cX12_name 83 = .ok (.iastore, 1) := by decide +kernel
theorem dX12_name_84 : decode cX12_name 84 = .ok (.aload_n 0, 1) := by decide +kernel
theorem dX12_name_85 : decode cX12_name 85 = .ok (.dup, 1) := by decide +kernel
theorem dX12_name_86 : decode cX12_name 86 = .ok (.getfield 138, 3) := by decide +kernel
theorem dX12_name_89 : decode cX12_name 89 = .ok (.iconst 1, 1) := by decide +kernel
theorem dX12_name_90 : decode cX12_name 90 = .ok (.iadd, 1) := by decide +kernel
theorem dX12_name_91 : decode cX12_name 91 = .ok (.putfield 138, 3) := by decide +kernel
theorem dX12_name_94 : decode cX12_name 94 = .ok (.return_, 1) := by decide +kernel
abbrev R_X12_name : Room := ({ frames := 0, cells := 0, slots := 0, locals := 0 } : Room)
def b_X12_name_73 (gT : Gs) (v3 : Int32) (s0 : Int32) (s1 : Int32) : Option (Gs) :=
  grd (inB s1 3001) (grd (inB (gI gT 27) 3001) (some (sI (sIA (sIA gT 31 (upd (gIA gT 31) s1.toNatClampNeg s0)) 32 (upd (gIA gT 32) (gI gT 27).toNatClampNeg v3)) 27 ((gI gT 27) + (1 : Int32)))))
def b_X12_name_47 (gT : Gs) (v3 : Int32) (s0 : Int32) (s1 : Int32) : Option (Gs) :=
  grd (inB s1 3001) (if (gI gT 26) = 0 then (b_X12_name_73 (sIA gT 30 (upd (gIA gT 30) s1.toNatClampNeg s0)) v3 (9999 : Int32) (gI gT 27)) else (b_X12_name_73 (sIA gT 30 (upd (gIA gT 30) s1.toNatClampNeg s0)) v3 (gI gT 35) (gI gT 27)))
def f_X12_name (gT : Gs) (x0 : Int32) (x1 : Int32) (x2 : Int32) : Option (Gs) :=
  grd (inB (gI gT 27) 3001) (grd (inB (gI gT 27) 3001) (if (gI gT 26) = 0 then (b_X12_name_47 (sIA (sIA gT 28 (upd (gIA gT 28) (gI gT 27).toNatClampNeg x0)) 29 (upd (gIA gT 29) (gI gT 27).toNatClampNeg x1)) x2 (9999 : Int32) (gI gT 27)) else (b_X12_name_47 (sIA (sIA gT 28 (upd (gIA gT 28) (gI gT 27).toNatClampNeg x0)) 29 (upd (gIA gT 29) (gI gT 27).toNatClampNeg x1)) x2 ((gI gT 33) - (1 : Int32)) (gI gT 27))))
def S_X12_name_73 (l : Launch) (D : Dx) (hT : Nat) (aT : Nat → Nat) (yT : Nat → ClassId) (fn : Gs → Int32 → Int32 → Int32 → Option (Gs)) : Prop :=
  ∀ {p : Program} {e : Env} {s : State} {m : MethodId} {args : Array Value} {below : List Frame} {meth : Method} {c : Code} {H : Heap} {locs : List Loc} {A : Nat → Prop} {ls : Array Slot} {gT : Gs} {v3 : Int32} {s0 : Int32} {s1 : Int32} {q : Gs}, Cx p s m args meth c cX12_name none 4 RX12 lw_all → Hx D (tX12 yT) A s H locs (wX12 hT aT yT gT) → lv_has ls 4 [(0, .ref hT), (3, .int v3)] → fn gT v3 s0 s1 = some q → W p l e R_X12_name s m args below meth c H locs 0 0 (MQ below (QV D A (wX12 hT aT yT q)) args s 0 0 A) (F0 m 73 ls [.int s0, .int s1, .ref (aT 31)])
def S_X12_name_47 (l : Launch) (D : Dx) (hT : Nat) (aT : Nat → Nat) (yT : Nat → ClassId) (fn : Gs → Int32 → Int32 → Int32 → Option (Gs)) : Prop :=
  ∀ {p : Program} {e : Env} {s : State} {m : MethodId} {args : Array Value} {below : List Frame} {meth : Method} {c : Code} {H : Heap} {locs : List Loc} {A : Nat → Prop} {ls : Array Slot} {gT : Gs} {v3 : Int32} {s0 : Int32} {s1 : Int32} {q : Gs}, Cx p s m args meth c cX12_name none 4 RX12 lw_all → Hx D (tX12 yT) A s H locs (wX12 hT aT yT gT) → lv_has ls 4 [(0, .ref hT), (3, .int v3)] → fn gT v3 s0 s1 = some q → W p l e R_X12_name s m args below meth c H locs 0 0 (MQ below (QV D A (wX12 hT aT yT q)) args s 0 0 A) (F0 m 47 ls [.int s0, .int s1, .ref (aT 30)])
set_option maxHeartbeats 4000000 in
set_option maxRecDepth 100000 in
theorem k_X12_name_73 (l : Launch) (D : Dx) (hT : Nat) (aT : Nat → Nat) (yT : Nat → ClassId) : S_X12_name_73 l D hT aT yT (b_X12_name_73) := by
  intro p e s m args below meth c H locs A ls gT v3 s0 s1 q C X hl hF
  obtain ⟨hx, hb, hr, hml, hown, hts, hlk⟩ := id C
  unfold b_X12_name_73 at hF
  obtain ⟨h_4, hF⟩ := grd_some hF
  refine va_iast (D := D.1) (f := gIA gT 31) hx hb X.1 X.2.1 X.2.2.1 X.2.2.2.1 17 16 rfl rfl (inB_ok h_4) dX12_name_73 (fun H locs hP hD hS => ?_)
  have X : Hx D (tX12 yT) A s H locs (wX12 hT aT yT (sIA gT 31 (upd (gIA gT 31) s1.toNatClampNeg s0))) := Hx_set X (wG_sIA (i := 16) (k := 31) ndX12 rfl rfl) hP hD hS
  refine lv_aload_n hx hb dX12_name_74 rfl (lv_at hl 0 rfl) ?_
  refine va_get (D := D.1) (ci := 12) (v := .ref (aT 32)) (C := RX12) (T := TX12) (N := 114) hx hb hts wi_X12 hown X.1 X.2.1 0 rfl rfl 32 (by decide) (hts _ q6_226) (fun _ h9 => h9) (fl_get (by decide)) dX12_name_75 ?_
  refine lv_aload_n hx hb dX12_name_78 rfl (lv_at hl 0 rfl) ?_
  refine va_get (D := D.1) (ci := 12) (v := .int (gI gT 27)) (C := RX12) (T := TX12) (N := 114) hx hb hts wi_X12 hown X.1 X.2.1 0 rfl rfl 27 (by decide) (hts _ q6_221) (fun _ h9 => h9) (fl_get (by decide)) dX12_name_79 ?_
  refine lv_iload_n hx hb dX12_name_82 rfl (lv_at hl 1 rfl) ?_
  obtain ⟨h_5, hF⟩ := grd_some hF
  refine va_iast (D := D.1) (f := gIA gT 32) hx hb X.1 X.2.1 X.2.2.1 X.2.2.2.1 18 17 rfl rfl (inB_ok h_5) dX12_name_83 (fun H locs hP hD hS => ?_)
  have X : Hx D (tX12 yT) A s H locs (wX12 hT aT yT (sIA (sIA gT 31 (upd (gIA gT 31) s1.toNatClampNeg s0)) 32 (upd (gIA gT 32) (gI gT 27).toNatClampNeg v3))) := Hx_set X (wG_sIA (i := 17) (k := 32) ndX12 rfl rfl) hP hD hS
  refine lv_aload_n hx hb dX12_name_84 rfl (lv_at hl 0 rfl) ?_
  refine lv_dup hx hb dX12_name_85 rfl ?_
  refine va_get (D := D.1) (ci := 12) (v := .int (gI gT 27)) (C := RX12) (T := TX12) (N := 114) hx hb hts wi_X12 hown X.1 X.2.1 0 rfl rfl 27 (by decide) (hts _ q6_221) (fun _ h9 => h9) (fl_get (by decide)) dX12_name_86 ?_
  refine lv_iconst (v := (1 : Int32)) hx hb dX12_name_89 (by decide) ?_
  refine lv_iadd hx hb dX12_name_90 ?_
  refine va_put (D := D.1) (ci := 12) (v := .int ((gI gT 27) + (1 : Int32))) (ty := .int) (C := RX12) (T := TX12) (N := 114) hx hb hts wi_X12 tyX12 tyX12_ok nmX12 hown X.1 X.2.1 X.2.2.1 X.2.2.2.1 0 rfl rfl 27 (by decide) (hts _ q6_221) (fun _ h9 => h9) rfl (by decide +kernel) rfl rfl (by rw [List.length_map, List.length_range]; decide) dX12_name_91 (fun H locs hP hD hS => ?_)
  have X : Hx D (tX12 yT) A s H locs (wX12 hT aT yT (sI (sIA (sIA gT 31 (upd (gIA gT 31) s1.toNatClampNeg s0)) 32 (upd (gIA gT 32) (gI gT 27).toNatClampNeg v3)) 27 ((gI gT 27) + (1 : Int32)))) := Hx_set X (wG_sI (k := 27) rfl) hP hD hS
  have hq := Option.some.inj hF
  subst hq
  exact rt_v C X dX12_name_94
set_option maxHeartbeats 4000000 in
set_option maxRecDepth 100000 in
theorem k_X12_name_47 (l : Launch) (D : Dx) (hT : Nat) (aT : Nat → Nat) (yT : Nat → ClassId) : S_X12_name_47 l D hT aT yT (b_X12_name_47) := by
  intro p e s m args below meth c H locs A ls gT v3 s0 s1 q C X hl hF
  obtain ⟨hx, hb, hr, hml, hown, hts, hlk⟩ := id C
  unfold b_X12_name_47 at hF
  obtain ⟨h_3, hF⟩ := grd_some hF
  refine va_iast (D := D.1) (f := gIA gT 30) hx hb X.1 X.2.1 X.2.2.1 X.2.2.2.1 16 15 rfl rfl (inB_ok h_3) dX12_name_47 (fun H locs hP hD hS => ?_)
  have X : Hx D (tX12 yT) A s H locs (wX12 hT aT yT (sIA gT 30 (upd (gIA gT 30) s1.toNatClampNeg s0))) := Hx_set X (wG_sIA (i := 15) (k := 30) ndX12 rfl rfl) hP hD hS
  refine lv_aload_n hx hb dX12_name_48 rfl (lv_at hl 0 rfl) ?_
  refine va_get (D := D.1) (ci := 12) (v := .ref (aT 31)) (C := RX12) (T := TX12) (N := 114) hx hb hts wi_X12 hown X.1 X.2.1 0 rfl rfl 31 (by decide) (hts _ q6_225) (fun _ h9 => h9) (fl_get (by decide)) dX12_name_49 ?_
  refine lv_aload_n hx hb dX12_name_52 rfl (lv_at hl 0 rfl) ?_
  refine va_get (D := D.1) (ci := 12) (v := .int (gI gT 27)) (C := RX12) (T := TX12) (N := 114) hx hb hts wi_X12 hown X.1 X.2.1 0 rfl rfl 27 (by decide) (hts _ q6_221) (fun _ h9 => h9) (fl_get (by decide)) dX12_name_53 ?_
  refine lv_aload_n hx hb dX12_name_56 rfl (lv_at hl 0 rfl) ?_
  refine va_get (D := D.1) (ci := 12) (v := .int (gI gT 26)) (C := RX12) (T := TX12) (N := 114) hx hb hts wi_X12 hown X.1 X.2.1 0 rfl rfl 26 (by decide) (hts _ q6_220) (fun _ h9 => h9) (fl_get (by decide)) dX12_name_57 ?_
  refine lv_if_eq (tgt := 70) hx hb dX12_name_60 (by decide) (fun c => ?_) (fun c => ?_)
  · replace hF := iT c hF
    refine lv_sipush (v := (9999 : Int32)) hx hb dX12_name_70 (by decide) ?_
    exact (k_X12_name_73 l D hT aT yT) C X (lv_sub hl [0, 1] rfl) hF
  · replace hF := iF c hF
    refine lv_aload_n hx hb dX12_name_63 rfl (lv_at hl 0 rfl) ?_
    refine va_get (D := D.1) (ci := 12) (v := .int (gI gT 35)) (C := RX12) (T := TX12) (N := 114) hx hb hts wi_X12 hown X.1 X.2.1 0 rfl rfl 35 (by decide) (hts _ q6_229) (fun _ h9 => h9) (fl_get (by decide)) dX12_name_64 ?_
    refine lv_goto (tgt := 73) hx hb dX12_name_67 (by decide) ?_
    exact (k_X12_name_73 l D hT aT yT) C X (lv_sub hl [0, 1] rfl) hF
set_option maxHeartbeats 4000000 in
set_option maxRecDepth 100000 in
theorem c_X12_name (l : Launch) (D : Dx) (hT : Nat) (aT : Nat → Nat) (yT : Nat → ClassId) (gT : Gs) (x0 : Int32) (x1 : Int32) (x2 : Int32) (q : Gs) (hF : f_X12_name gT x0 x1 x2 = some q) (sz : Nat) : Met l yX12_name (ws_ yX12_name cX12_name 4 none) R_X12_name (PC D (tX12 yT) [.ref hT, .int x0, .int x1, .int x2] (wX12 hT aT yT gT) sz) (QV D (va_A (wX12 hT aT yT gT) sz) (wX12 hT aT yT q)) 0 0 (va_A (wX12 hT aT yT gT) sz) := by
  refine Met.ofW (cc := cX12_name) (maxL := 4) (ret := none) (by decide) rfl ?_
  intro p e s m args below meth c s₁ B hml hv
  obtain ⟨rfl, hsz, hP, hK, hD, hN⟩ := hv
  subst hsz
  have C : Cx p s m _ meth c cX12_name none 4 RX12 lw_all := Cx_of B hml
  have X := Hx_start hP hK hD hN
  obtain ⟨hx, hb, hr, -, hown, hts, hlk⟩ := id C
  generalize va_A (wX12 hT aT yT gT) s.heap.size = A at X ⊢
  have hl := lv_entry ([.ref hT, .int x0, .int x1, .int x2]) (n := 4) (Nat.le_of_ble_eq_true rfl)
  rw [lg_entry_eq]
  generalize (lg_sl ([.ref hT, .int x0, .int x1, .int x2]) ++ List.replicate (4 - (lg_sl ([.ref hT, .int x0, .int x1, .int x2])).length) Slot.unset).toArray = ls at hl ⊢
  have hl : lv_has ls 4 [(0, .ref hT), (1, .int x0), (2, .int x1), (3, .int x2)] := hl
  unfold f_X12_name at hF
  refine lv_aload_n hx hb dX12_name_0 rfl (lv_at hl 0 rfl) ?_
  refine va_get (D := D.1) (ci := 12) (v := .ref (aT 28)) (C := RX12) (T := TX12) (N := 114) hx hb hts wi_X12 hown X.1 X.2.1 0 rfl rfl 28 (by decide) (hts _ q6_222) (fun _ h9 => h9) (fl_get (by decide)) dX12_name_1 ?_
  refine lv_aload_n hx hb dX12_name_4 rfl (lv_at hl 0 rfl) ?_
  refine va_get (D := D.1) (ci := 12) (v := .int (gI gT 27)) (C := RX12) (T := TX12) (N := 114) hx hb hts wi_X12 hown X.1 X.2.1 0 rfl rfl 27 (by decide) (hts _ q6_221) (fun _ h9 => h9) (fl_get (by decide)) dX12_name_5 ?_
  refine lv_iload_n hx hb dX12_name_8 rfl (lv_at hl 1 rfl) ?_
  obtain ⟨h_1, hF⟩ := grd_some hF
  refine va_iast (D := D.1) (f := gIA gT 28) hx hb X.1 X.2.1 X.2.2.1 X.2.2.2.1 14 13 rfl rfl (inB_ok h_1) dX12_name_9 (fun H locs hP hD hS => ?_)
  have X : Hx D (tX12 yT) A s H locs (wX12 hT aT yT (sIA gT 28 (upd (gIA gT 28) (gI gT 27).toNatClampNeg x0))) := Hx_set X (wG_sIA (i := 13) (k := 28) ndX12 rfl rfl) hP hD hS
  refine lv_aload_n hx hb dX12_name_10 rfl (lv_at hl 0 rfl) ?_
  refine va_get (D := D.1) (ci := 12) (v := .ref (aT 29)) (C := RX12) (T := TX12) (N := 114) hx hb hts wi_X12 hown X.1 X.2.1 0 rfl rfl 29 (by decide) (hts _ q6_223) (fun _ h9 => h9) (fl_get (by decide)) dX12_name_11 ?_
  refine lv_aload_n hx hb dX12_name_14 rfl (lv_at hl 0 rfl) ?_
  refine va_get (D := D.1) (ci := 12) (v := .int (gI gT 27)) (C := RX12) (T := TX12) (N := 114) hx hb hts wi_X12 hown X.1 X.2.1 0 rfl rfl 27 (by decide) (hts _ q6_221) (fun _ h9 => h9) (fl_get (by decide)) dX12_name_15 ?_
  refine lv_iload_n hx hb dX12_name_18 rfl (lv_at hl 2 rfl) ?_
  obtain ⟨h_2, hF⟩ := grd_some hF
  refine va_iast (D := D.1) (f := gIA gT 29) hx hb X.1 X.2.1 X.2.2.1 X.2.2.2.1 15 14 rfl rfl (inB_ok h_2) dX12_name_19 (fun H locs hP hD hS => ?_)
  have X : Hx D (tX12 yT) A s H locs (wX12 hT aT yT (sIA (sIA gT 28 (upd (gIA gT 28) (gI gT 27).toNatClampNeg x0)) 29 (upd (gIA gT 29) (gI gT 27).toNatClampNeg x1))) := Hx_set X (wG_sIA (i := 14) (k := 29) ndX12 rfl rfl) hP hD hS
  refine lv_aload_n hx hb dX12_name_20 rfl (lv_at hl 0 rfl) ?_
  refine va_get (D := D.1) (ci := 12) (v := .ref (aT 30)) (C := RX12) (T := TX12) (N := 114) hx hb hts wi_X12 hown X.1 X.2.1 0 rfl rfl 30 (by decide) (hts _ q6_224) (fun _ h9 => h9) (fl_get (by decide)) dX12_name_21 ?_
  refine lv_aload_n hx hb dX12_name_24 rfl (lv_at hl 0 rfl) ?_
  refine va_get (D := D.1) (ci := 12) (v := .int (gI gT 27)) (C := RX12) (T := TX12) (N := 114) hx hb hts wi_X12 hown X.1 X.2.1 0 rfl rfl 27 (by decide) (hts _ q6_221) (fun _ h9 => h9) (fl_get (by decide)) dX12_name_25 ?_
  refine lv_aload_n hx hb dX12_name_28 rfl (lv_at hl 0 rfl) ?_
  refine va_get (D := D.1) (ci := 12) (v := .int (gI gT 26)) (C := RX12) (T := TX12) (N := 114) hx hb hts wi_X12 hown X.1 X.2.1 0 rfl rfl 26 (by decide) (hts _ q6_220) (fun _ h9 => h9) (fl_get (by decide)) dX12_name_29 ?_
  refine lv_if_eq (tgt := 44) hx hb dX12_name_32 (by decide) (fun c => ?_) (fun c => ?_)
  · replace hF := iT c hF
    refine lv_sipush (v := (9999 : Int32)) hx hb dX12_name_44 (by decide) ?_
    exact (k_X12_name_47 l D hT aT yT) C X (lv_sub hl [0, 3] rfl) hF
  · replace hF := iF c hF
    refine lv_aload_n hx hb dX12_name_35 rfl (lv_at hl 0 rfl) ?_
    refine va_get (D := D.1) (ci := 12) (v := .int (gI gT 33)) (C := RX12) (T := TX12) (N := 114) hx hb hts wi_X12 hown X.1 X.2.1 0 rfl rfl 33 (by decide) (hts _ q6_227) (fun _ h9 => h9) (fl_get (by decide)) dX12_name_36 ?_
    refine lv_iconst (v := (1 : Int32)) hx hb dX12_name_39 (by decide) ?_
    refine lv_isub hx hb dX12_name_40 ?_
    refine lv_goto (tgt := 47) hx hb dX12_name_41 (by decide) ?_
    exact (k_X12_name_47 l D hT aT yT) C X (lv_sub hl [0, 3] rfl) hF

/-! ### X12_deeper -/
theorem dX12_deeper_0 : decode cX12_deeper 0 = .ok (.aload_n 0, 1) := by decide +kernel
theorem dX12_deeper_1 : decode cX12_deeper 1 = .ok (.getfield 131, 3) := by decide +kernel
theorem dX12_deeper_4 : decode cX12_deeper 4 = .ok (.bipush 40, 2) := by decide +kernel
theorem dX12_deeper_6 : decode cX12_deeper 6 = .ok (.if_icmp .ne 8, 3) := by decide +kernel
theorem dX12_deeper_9 : decode cX12_deeper 9 = .ok (.aload_n 0, 1) := by decide +kernel
theorem dX12_deeper_10 : decode cX12_deeper 10 = .ok (.invokevirtual 544, 3) := by decide +kernel
theorem dX12_deeper_13 : decode cX12_deeper 13 = .ok (.ireturn, 1) := by decide +kernel
theorem dX12_deeper_14 : decode cX12_deeper 14 = .ok (.aload_n 0, 1) := by decide +kernel
theorem dX12_deeper_15 : decode cX12_deeper 15 = .ok (.dup, 1) := by decide +kernel
theorem dX12_deeper_16 : decode cX12_deeper 16 = .ok (.getfield 131, 3) := by decide +kernel
theorem dX12_deeper_19 : decode cX12_deeper 19 = .ok (.iconst 1, 1) := by decide +kernel
theorem dX12_deeper_20 : decode cX12_deeper 20 = .ok (.iadd, 1) := by decide +kernel
theorem dX12_deeper_21 : decode cX12_deeper 21 = .ok (.putfield 131, 3) := by decide +kernel
theorem dX12_deeper_24 : decode cX12_deeper 24 = .ok (.iconst 1, 1) := by decide +kernel
theorem dX12_deeper_25 : decode cX12_deeper 25 = .ok (.ireturn, 1) := by decide +kernel
abbrev R_X12_deeper : Room := ({ frames := 2, cells := 0, slots := 0, locals := 42 } : Room)
def f_X12_deeper (gT : Gs) : Option (Int32 × Gs) :=
  if (gI gT 25) = (40 : Int32) then (bnd (f_X12_cannot gT) (fun q_1 => grd (zB q_1.1) (some (q_1.1, q_1.2)))) else (some ((1 : Int32), (sI gT 25 ((gI gT 25) + (1 : Int32)))))
set_option maxHeartbeats 4000000 in
set_option maxRecDepth 100000 in
theorem c_X12_deeper (l : Launch) (D : Dx) (hT : Nat) (aT : Nat → Nat) (yT : Nat → ClassId) (gT : Gs) (q : Int32 × Gs) (hF : f_X12_deeper gT = some q) (sz : Nat) : Met l yX12_deeper (ws_ yX12_deeper cX12_deeper 1 (some .boolean)) R_X12_deeper (PC D (tX12 yT) [.ref hT] (wX12 hT aT yT gT) sz) (QI D (va_A (wX12 hT aT yT gT) sz) (wX12 hT aT yT q.2) q.1) 0 0 (va_A (wX12 hT aT yT gT) sz) := by
  refine Met.ofW (cc := cX12_deeper) (maxL := 1) (ret := (some .boolean)) (by decide) rfl ?_
  intro p e s m args below meth c s₁ B hml hv
  obtain ⟨rfl, hsz, hP, hK, hD, hN⟩ := hv
  subst hsz
  have C : Cx p s m _ meth c cX12_deeper (some .boolean) 1 RX12 lw_all := Cx_of B hml
  have X := Hx_start hP hK hD hN
  obtain ⟨hx, hb, hr, -, hown, hts, hlk⟩ := id C
  generalize va_A (wX12 hT aT yT gT) s.heap.size = A at X ⊢
  have hl := lv_entry ([.ref hT]) (n := 1) (Nat.le_of_ble_eq_true rfl)
  rw [lg_entry_eq]
  generalize (lg_sl ([.ref hT]) ++ List.replicate (1 - (lg_sl ([.ref hT])).length) Slot.unset).toArray = ls at hl ⊢
  have hl : lv_has ls 1 [(0, .ref hT)] := hl
  unfold f_X12_deeper at hF
  refine lv_aload_n hx hb dX12_deeper_0 rfl (lv_at hl 0 rfl) ?_
  refine va_get (D := D.1) (ci := 12) (v := .int (gI gT 25)) (C := RX12) (T := TX12) (N := 114) hx hb hts wi_X12 hown X.1 X.2.1 0 rfl rfl 25 (by decide) (hts _ q6_219) (fun _ h9 => h9) (fl_get (by decide)) dX12_deeper_1 ?_
  refine lv_bipush (v := (40 : Int32)) hx hb dX12_deeper_4 (by decide) ?_
  refine lv_icmp_ne (tgt := 14) hx hb dX12_deeper_6 (by decide) (fun c => ?_) (fun c => ?_)
  · replace hF := iF c hF
    refine lv_aload_n hx hb dX12_deeper_14 rfl (lv_at hl 0 rfl) ?_
    refine lv_dup hx hb dX12_deeper_15 rfl ?_
    refine va_get (D := D.1) (ci := 12) (v := .int (gI gT 25)) (C := RX12) (T := TX12) (N := 114) hx hb hts wi_X12 hown X.1 X.2.1 0 rfl rfl 25 (by decide) (hts _ q6_219) (fun _ h9 => h9) (fl_get (by decide)) dX12_deeper_16 ?_
    refine lv_iconst (v := (1 : Int32)) hx hb dX12_deeper_19 (by decide) ?_
    refine lv_iadd hx hb dX12_deeper_20 ?_
    refine va_put (D := D.1) (ci := 12) (v := .int ((gI gT 25) + (1 : Int32))) (ty := .int) (C := RX12) (T := TX12) (N := 114) hx hb hts wi_X12 tyX12 tyX12_ok nmX12 hown X.1 X.2.1 X.2.2.1 X.2.2.2.1 0 rfl rfl 25 (by decide) (hts _ q6_219) (fun _ h9 => h9) rfl (by decide +kernel) rfl rfl (by rw [List.length_map, List.length_range]; decide) dX12_deeper_21 (fun H locs hP hD hS => ?_)
    have X : Hx D (tX12 yT) A s H locs (wX12 hT aT yT (sI gT 25 ((gI gT 25) + (1 : Int32)))) := Hx_set X (wG_sI (k := 25) rfl) hP hD hS
    refine lv_iconst (v := (1 : Int32)) hx hb dX12_deeper_24 (by decide) ?_
    have hq := Option.some.inj hF
    subst hq
    exact rt_z (v := (1 : Int32)) C X (by decide) dX12_deeper_25
  · replace hF := iT c hF
    refine lv_aload_n hx hb dX12_deeper_9 rfl (lv_at hl 0 rfl) ?_
    obtain ⟨q_1, hc_2, hF⟩ := bnd_some hF
    refine cV_i (As := []) (rest := []) C X (c_X12_cannot l D hT aT yT gT q_1 hc_2 _) (cwV 0 hts (good_V q8_173 q8_175 q0_78 q1_9 q8_176) rfl rfl rfl (by decide +kernel) ⟨Nat.le_of_ble_eq_true rfl, Nat.le_of_ble_eq_true rfl⟩) (va_recv X.1 X.2.1 (ci := 12) (q0 := 0) rfl rfl) X.1 X.2.1 X.2.2.1 (free_all X) hl.1 rfl rfl (Nat.le_of_ble_eq_true rfl) dX12_deeper_10 ⟨Nat.le_of_ble_eq_true rfl, Nat.le_of_ble_eq_true rfl⟩ (fun t H1 locs1 ht hB hk hS => ?_)
    have X : Hx D (tX12 yT) A s H1 locs1 (wX12 hT aT yT q_1.2) := Hx_after_all X ht hB hS
    clear hk hS ht hB
    generalize H1 = H at X ⊢
    generalize locs1 = locs at X ⊢
    obtain ⟨h_3, hF⟩ := grd_some hF
    have hq := Option.some.inj hF
    subst hq
    exact rt_z (v := q_1.1) C X (zB_n h_3) dX12_deeper_13

/-! ### X12_cam -/
theorem dX12_cam_0 : decode cX12_cam 0 = .ok (.aload_n 0, 1) := by decide +kernel
theorem dX12_cam_1 : decode cX12_cam 1 = .ok (.dup, 1) := by decide +kernel
theorem dX12_cam_2 : decode cX12_cam 2 = .ok (.getfield 116, 3) := by decide +kernel
theorem dX12_cam_5 : decode cX12_cam 5 = .ok (.iconst 1, 1) := by decide +kernel
theorem dX12_cam_6 : decode cX12_cam 6 = .ok (.iadd, 1) := by decide +kernel
theorem dX12_cam_7 : decode cX12_cam 7 = .ok (.putfield 116, 3) := by decide +kernel
theorem dX12_cam_10 : decode cX12_cam 10 = .ok (.aload_n 0, 1) := by decide +kernel
theorem dX12_cam_11 : decode cX12_cam 11 = .ok (.getfield 82, 3) := by decide +kernel
theorem dX12_cam_14 : decode cX12_cam 14 = .ok (.aload_n 0, 1) := by decide +kernel
theorem dX12_cam_15 : decode cX12_cam 15 = .ok (.getfield 116, 3) := by decide +kernel
theorem dX12_cam_18 : decode cX12_cam 18 = .ok (.iaload, 1) := by decide +kernel
theorem dX12_cam_19 : decode cX12_cam 19 = .ok (.iconst 2, 1) := by decide +kernel
theorem dX12_cam_20 : decode cX12_cam 20 = .ok (.if_icmp .eq 8, 3) := by decide +kernel
theorem dX12_cam_23 : decode cX12_cam 23 = .ok (.aload_n 0, 1) := by decide +kernel
theorem dX12_cam_24 : decode cX12_cam 24 = .ok (.invokevirtual 544, 3) := by decide +kernel
theorem dX12_cam_27 : decode cX12_cam 27 = .ok (.ireturn, 1) := by decide +kernel
theorem dX12_cam_28 : decode cX12_cam 28 = .ok (.aload_n 0, 1) := by decide +kernel
theorem dX12_cam_29 : decode cX12_cam 29 = .ok (.getfield 162, 3) := by decide +kernel
theorem dX12_cam_32 : decode cX12_cam 32 = .ok (.istore_n 1, 1) := by decide +kernel
theorem dX12_cam_33 : decode cX12_cam 33 = .ok (.aload_n 0, 1) := by decide +kernel
theorem dX12_cam_34 : decode cX12_cam 34 = .ok (.dup, 1) := by decide +kernel
theorem dX12_cam_35 : decode cX12_cam 35 = .ok (.getfield 162, 3) := by decide +kernel
theorem dX12_cam_38 : decode cX12_cam 38 = .ok (.iconst 1, 1) := by decide +kernel
theorem dX12_cam_39 : decode cX12_cam 39 = .ok (.iadd, 1) := by decide +kernel
theorem dX12_cam_40 : decode cX12_cam 40 = .ok (.putfield 162, 3) := by decide +kernel
theorem dX12_cam_43 : decode cX12_cam 43 = .ok (.aload_n 0, 1) := by decide +kernel
theorem dX12_cam_44 : decode cX12_cam 44 = .ok (.getfield 162, 3) := by decide +kernel
theorem dX12_cam_47 : decode cX12_cam 47 = .ok (.bipush 9, 2) := by decide +kernel
theorem dX12_cam_49 : decode cX12_cam 49 = .ok (.if_icmp .ne 16, 3) := by decide +kernel
theorem dX12_cam_52 : decode cX12_cam 52 = .ok (.aload_n 0, 1) := by decide +kernel
theorem dX12_cam_53 : decode cX12_cam 53 = .ok (.aload_n 0, 1) := by decide +kernel
theorem dX12_cam_54 : decode cX12_cam 54 = .ok (.getfield 86, 3) := by decide +kernel
theorem dX12_cam_57 : decode cX12_cam 57 = .ok (.aload_n 0, 1) := by decide +kernel
theorem dX12_cam_58 : decode cX12_cam 58 = .ok (.getfield 116, 3) := by decide +kernel
theorem dX12_cam_61 : decode cX12_cam 61 = .ok (.iaload, 1) := by decide +kernel
theorem dX12_cam_62 : decode cX12_cam 62 = .ok (.invokevirtual 541, 3) := by decide +kernel
theorem dX12_cam_65 : decode cX12_cam 65 = .ok (.aload_n 0, 1) := by decide +kernel
theorem dX12_cam_66 : decode cX12_cam 66 = .ok (.getfield 217, 3) := by decide +kernel
theorem dX12_cam_69 : decode cX12_cam 69 = .ok (.iload_n 1, 1) := by decide +kernel
theorem dX12_cam_70 : decode cX12_cam 70 = .ok (.aload_n 0, 1) := by decide +kernel
theorem dX12_cam_71 : decode cX12_cam 71 = .ok (.getfield 116, 3) := by decide +kernel
theorem dX12_cam_74 : decode cX12_cam 74 = .ok (.iastore, 1) := by decide +kernel
theorem dX12_cam_75 : decode cX12_cam 75 = .ok (.aload_n 0, 1) := by decide +kernel
theorem dX12_cam_76 : decode cX12_cam 76 = .ok (.getfield 220, 3) := by decide +kernel
theorem dX12_cam_79 : decode cX12_cam 79 = .ok (.iload_n 1, 1) := by decide +kernel
theorem dX12_cam_80 : decode cX12_cam 80 = .ok (.aload_n 0, 1) := by decide +kernel
theorem dX12_cam_81 : decode cX12_cam 81 = .ok (.getfield 165, 3) := by decide +kernel
theorem dX12_cam_84 : decode cX12_cam 84 = .ok (.iastore, 1) := by decide +kernel
theorem dX12_cam_85 : decode cX12_cam 85 = .ok (.aload_n 0, 1) := by decide +kernel
theorem dX12_cam_86 : decode cX12_cam 86 = .ok (.getfield 223, 3) := by decide +kernel
theorem dX12_cam_89 : decode cX12_cam 89 = .ok (.iload_n 1, 1) := by decide +kernel
theorem dX12_cam_90 : decode cX12_cam 90 = .ok (.iconst 0, 1) := by decide +kernel
theorem dX12_cam_91 : decode cX12_cam 91 = .ok (.iastore, 1) := by decide +kernel
theorem dX12_cam_92 : decode cX12_cam 92 = .ok (.aload_n 0, 1) := by decide +kernel
theorem dX12_cam_93 : decode cX12_cam 93 = .ok (.iconst 0, 1) := by decide +kernel
theorem dX12_cam_94 : decode cX12_cam 94 = .ok (.aload_n 0, 1) := by decide +kernel
theorem dX12_cam_95 : decode cX12_cam 95 = .ok (.getfield 116, 3) := by decide +kernel
theorem dX12_cam_98 : decode cX12_cam 98 = .ok (.iconst (-1), 1) := by decide +kernel
theorem dX12_cam_99 : decode cX12_cam 99 = .ok (.invokevirtual 591, 3) := by decide +kernel
theorem dX12_cam_102 : decode cX12_cam 102 = .ok (.aload_n 0, 1) := by decide +kernel
theorem dX12_cam_103 : decode cX12_cam 103 = .ok (.dup, 1) := by decide +kernel
theorem dX12_cam_104 : decode cX12_cam 104 = .ok (.getfield 116, 3) := by decide +kernel
theorem dX12_cam_107 : decode cX12_cam 107 = .ok (.iconst 1, 1) := by decide +kernel
theorem dX12_cam_108 : decode cX12_cam 108 = .ok (.iadd, 1) := by decide +kernel
theorem dX12_cam_109 : decode cX12_cam 109 = .ok (.putfield 116, 3) := by decide +kernel
theorem dX12_cam_112 : decode cX12_cam 112 = .ok (.aload_n 0, 1) := by decide +kernel
theorem dX12_cam_113 : decode cX12_cam 113 = .ok (.bipush 61, 2) := by decide +kernel
theorem dX12_cam_115 : decode cX12_cam 115 = .ok (.invokevirtual 564, 3) := by decide +kernel
theorem dX12_cam_118 : decode cX12_cam 118 = .ok (.ifCond .ne 5, 3) := by decide +kernel
theorem dX12_cam_121 : decode cX12_cam 121 = .ok (.iconst 0, 1) := by decide +kernel
theorem dX12_cam_122 : decode cX12_cam 122 = .ok (.ireturn, 1) := by decide +kernel
theorem dX12_cam_123 : decode cX12_cam 123 = .ok (.iconst 1, 1) := by decide +kernel
theorem dX12_cam_124 : decode cX12_cam 124 = .ok (.istore_n 2, 1) := by decide +kernel
theorem dX12_cam_125 : decode cX12_cam 125 = .ok (.iload_n 2, 1) := by decide +kernel
theorem dX12_cam_126 : decode cX12_cam 126 = .ok (.ifCond .eq 196, 3) := by decide +kernel
theorem dX12_cam_129 : decode cX12_cam 129 = .ok (.aload_n 0, 1) := by decide +kernel
theorem dX12_cam_130 : decode cX12_cam 130 = .ok (.getfield 82, 3) := by decide +kernel
theorem dX12_cam_133 : decode cX12_cam 133 = .ok (.aload_n 0, 1) := by decide +kernel
theorem dX12_cam_134 : decode cX12_cam 134 = .ok (.getfield 116, 3) := by decide +kernel
theorem dX12_cam_137 : decode cX12_cam 137 = .ok (.iaload, 1) := by decide +kernel
theorem dX12_cam_138 : decode cX12_cam 138 = .ok (.bipush 45, 2) := by decide +kernel
theorem dX12_cam_140 : decode cX12_cam 140 = .ok (.if_icmp .ne 7, 3) := by decide +kernel
theorem dX12_cam_143 : decode cX12_cam 143 = .ok (.iconst 1, 1) := by decide +kernel
theorem dX12_cam_144 : decode cX12_cam 144 = .ok (.goto 4, 3) := by decide +kernel
theorem dX12_cam_147 : decode cX12_cam 147 = .ok (.iconst 0, 1) := by decide +kernel
theorem dX12_cam_148 : decode cX12_cam 148 = .ok (.istore_n 3, 1) := by decide +kernel
theorem dX12_cam_149 : decode cX12_cam 149 = .ok (.iload_n 3, 1) := by decide +kernel
theorem dX12_cam_150 : decode cX12_cam 150 = .ok (.ifCond .eq 13, 3) := by decide +kernel
theorem dX12_cam_153 : decode cX12_cam 153 = .ok (.aload_n 0, 1) := by decide +kernel
theorem dX12_cam_154 : decode cX12_cam 154 = .ok (.dup, 1) := by decide +kernel
theorem dX12_cam_155 : decode cX12_cam 155 = .ok (.getfield 116, 3) := by decide +kernel
theorem dX12_cam_158 : decode cX12_cam 158 = .ok (.iconst 1, 1) := by decide +kernel
theorem dX12_cam_159 : decode cX12_cam 159 = .ok (.iadd, 1) := by decide +kernel
theorem dX12_cam_160 : decode cX12_cam 160 = .ok (.putfield 116, 3) := by decide +kernel
theorem dX12_cam_163 : decode cX12_cam 163 = .ok (.aload_n 0, 1) := by decide +kernel
theorem dX12_cam_164 : decode cX12_cam 164 = .ok (.getfield 82, 3) := by decide +kernel
theorem dX12_cam_167 : decode cX12_cam 167 = .ok (.aload_n 0, 1) := by decide +kernel
theorem dX12_cam_168 : decode cX12_cam 168 = .ok (.getfield 116, 3) := by decide +kernel
theorem dX12_cam_171 : decode cX12_cam 171 = .ok (.iaload, 1) := by decide +kernel
theorem dX12_cam_172 : decode cX12_cam 172 = .ok (.iconst 3, 1) := by decide +kernel
theorem dX12_cam_173 : decode cX12_cam 173 = .ok (.if_icmp .eq 8, 3) := by decide +kernel
theorem dX12_cam_176 : decode cX12_cam 176 = .ok (.aload_n 0, 1) := by decide +kernel
theorem dX12_cam_177 : decode cX12_cam 177 = .ok (.invokevirtual 544, 3) := by decide +kernel
theorem dX12_cam_180 : decode cX12_cam 180 = .ok (.ireturn, 1) := by decide +kernel
theorem dX12_cam_181 : decode cX12_cam 181 = .ok (.aload_n 0, 1) := by decide +kernel
theorem dX12_cam_182 : decode cX12_cam 182 = .ok (.getfield 223, 3) := by decide +kernel
theorem dX12_cam_185 : decode cX12_cam 185 = .ok (.iload_n 1, 1) := by decide +kernel
theorem dX12_cam_186 : decode cX12_cam 186 = .ok (.dup2, 1) := by decide +kernel
theorem dX12_cam_187 : decode cX12_cam 187 = .ok (.iaload, 1) := by decide +kernel
theorem dX12_cam_188 : decode cX12_cam 188 = .ok (.iconst 1, 1) := by decide +kernel
theorem dX12_cam_189 : decode cX12_cam 189 = .ok (.iadd, 1) := by decide +kernel
theorem dX12_cam_190 : decode cX12_cam 190 = .ok (.iastore, 1) := by decide +kernel
theorem dX12_cam_191 : decode cX12_cam 191 = .ok (.aload_n 0, 1) := by decide +kernel
theorem dX12_cam_192 : decode cX12_cam 192 = .ok (.getfield 223, 3) := by decide +kernel
theorem dX12_cam_195 : decode cX12_cam 195 = .ok (.iload_n 1, 1) := by decide +kernel
theorem dX12_cam_196 : decode cX12_cam 196 = .ok (.iaload, 1) := by decide +kernel
theorem dX12_cam_197 : decode cX12_cam 197 = .ok (.bipush 25, 2) := by decide +kernel
theorem dX12_cam_199 : decode cX12_cam 199 = .ok (.if_icmp .ne 16, 3) := by decide +kernel
theorem dX12_cam_202 : decode cX12_cam 202 = .ok (.aload_n 0, 1) := by decide +kernel
theorem dX12_cam_203 : decode cX12_cam 203 = .ok (.aload_n 0, 1) := by decide +kernel
theorem dX12_cam_204 : decode cX12_cam 204 = .ok (.getfield 86, 3) := by decide +kernel
theorem dX12_cam_207 : decode cX12_cam 207 = .ok (.aload_n 0, 1) := by decide +kernel
theorem dX12_cam_208 : decode cX12_cam 208 = .ok (.getfield 116, 3) := by decide +kernel
theorem dX12_cam_211 : decode cX12_cam 211 = .ok (.iaload, 1) := by decide +kernel
theorem dX12_cam_212 : decode cX12_cam 212 = .ok (.invokevirtual 541, 3) := by decide +kernel
theorem dX12_cam_215 : decode cX12_cam 215 = .ok (.aload_n 0, 1) := by decide +kernel
theorem dX12_cam_216 : decode cX12_cam 216 = .ok (.aload_n 0, 1) := by decide +kernel
theorem dX12_cam_217 : decode cX12_cam 217 = .ok (.getfield 92, 3) := by decide +kernel
theorem dX12_cam_220 : decode cX12_cam 220 = .ok (.aload_n 0, 1) := by decide +kernel
theorem dX12_cam_221 : decode cX12_cam 221 = .ok (.getfield 116, 3) := by decide +kernel
theorem dX12_cam_224 : decode cX12_cam 224 = .ok (.laload, 1) := by decide +kernel
theorem dX12_cam_225 : decode cX12_cam 225 = .ok (.aload_n 0, 1) := by decide +kernel
theorem dX12_cam_226 : decode cX12_cam 226 = .ok (.getfield 95, 3) := by decide +kernel
theorem dX12_cam_229 : decode cX12_cam 229 = .ok (.aload_n 0, 1) := by decide +kernel
theorem dX12_cam_230 : decode cX12_cam 230 = .ok (.getfield 116, 3) := by decide +kernel
theorem dX12_cam_233 : decode cX12_cam 233 = .ok (.iaload, 1) := by decide +kernel
theorem dX12_cam_234 : decode cX12_cam 234 = .ok (.bipush 7, 2) := by decide +kernel
theorem dX12_cam_236 : decode cX12_cam 236 = .ok (.invokevirtual 488, 3) := by decide +kernel
theorem dX12_cam_239 : decode cX12_cam 239 = .ok (.lstore 4, 2) := by decide +kernel
theorem dX12_cam_241 : decode cX12_cam 241 = .ok (.aload_n 0, 1) := by decide +kernel
theorem dX12_cam_242 : decode cX12_cam 242 = .ok (.getfield 226, 3) := by decide +kernel
theorem dX12_cam_245 : decode cX12_cam 245 = .ok (.aload_n 0, 1) := by decide +kernel
theorem dX12_cam_246 : decode cX12_cam 246 = .ok (.getfield 165, 3) := by decide +kernel
theorem dX12_cam_249 : decode cX12_cam 249 = .ok (.iload_n 3, 1) := by decide +kernel
theorem dX12_cam_250 : decode cX12_cam 250 = .ok (.ifCond .eq 12, 3) := by decide +kernel
theorem dX12_cam_253 : decode cX12_cam 253 = .ok (.lload 4, 2) := by decide +kernel
theorem dX12_cam_255 : decode cX12_cam 255 = .ok (.ldc2_w 428, 3) := by decide +kernel
theorem dX12_cam_258 : decode cX12_cam 258 = .ok (.lxor, 1) := by decide +kernel
theorem dX12_cam_259 : decode cX12_cam 259 = .ok (.goto 5, 3) := by decide +kernel
theorem dX12_cam_262 : decode cX12_cam 262 = .ok (.lload 4, 2) := by decide +kernel
theorem dX12_cam_264 : decode cX12_cam 264 = .ok (.lastore, 1) := by decide +kernel
theorem dX12_cam_265 : decode cX12_cam 265 = .ok (.aload_n 0, 1) := by decide +kernel
theorem dX12_cam_266 : decode cX12_cam 266 = .ok (.dup, 1) := by decide +kernel
theorem dX12_cam_267 : decode cX12_cam 267 = .ok (.getfield 165, 3) := by decide +kernel
theorem dX12_cam_270 : decode cX12_cam 270 = .ok (.iconst 1, 1) := by decide +kernel
theorem dX12_cam_271 : decode cX12_cam 271 = .ok (.iadd, 1) := by decide +kernel
theorem dX12_cam_272 : decode cX12_cam 272 = .ok (.putfield 165, 3) := by decide +kernel
theorem dX12_cam_275 : decode cX12_cam 275 = .ok (.aload_n 0, 1) := by decide +kernel
theorem dX12_cam_276 : decode cX12_cam 276 = .ok (.dup, 1) := by decide +kernel
theorem dX12_cam_277 : decode cX12_cam 277 = .ok (.getfield 116, 3) := by decide +kernel
theorem dX12_cam_280 : decode cX12_cam 280 = .ok (.iconst 1, 1) := by decide +kernel
theorem dX12_cam_281 : decode cX12_cam 281 = .ok (.iadd, 1) := by decide +kernel
theorem dX12_cam_282 : decode cX12_cam 282 = .ok (.putfield 116, 3) := by decide +kernel
theorem dX12_cam_285 : decode cX12_cam 285 = .ok (.aload_n 0, 1) := by decide +kernel
theorem dX12_cam_286 : decode cX12_cam 286 = .ok (.getfield 82, 3) := by decide +kernel
theorem dX12_cam_289 : decode cX12_cam 289 = .ok (.aload_n 0, 1) := by decide +kernel
theorem dX12_cam_290 : decode cX12_cam 290 = .ok (.getfield 116, 3) := by decide +kernel
theorem dX12_cam_293 : decode cX12_cam 293 = .ok (.iaload, 1) := by decide +kernel
theorem dX12_cam_294 : decode cX12_cam 294 = .ok (.bipush 44, 2) := by decide +kernel
theorem dX12_cam_296 : decode cX12_cam 296 = .ok (.if_icmp .ne 7, 3) := by decide +kernel
theorem dX12_cam_299 : decode cX12_cam 299 = .ok (.iconst 1, 1) := by decide +kernel
theorem dX12_cam_300 : decode cX12_cam 300 = .ok (.goto 4, 3) := by decide +kernel
theorem dX12_cam_303 : decode cX12_cam 303 = .ok (.iconst 0, 1) := by decide +kernel
theorem dX12_cam_304 : decode cX12_cam 304 = .ok (.istore_n 2, 1) := by decide +kernel
theorem dX12_cam_305 : decode cX12_cam 305 = .ok (.iload_n 2, 1) := by decide +kernel
theorem dX12_cam_306 : decode cX12_cam 306 = .ok (.ifCond .eq 13, 3) := by decide +kernel
theorem dX12_cam_309 : decode cX12_cam 309 = .ok (.aload_n 0, 1) := by decide +kernel
theorem dX12_cam_310 : decode cX12_cam 310 = .ok (.dup, 1) := by decide +kernel
theorem dX12_cam_311 : decode cX12_cam 311 = .ok (.getfield 116, 3) := by decide +kernel
theorem dX12_cam_314 : decode cX12_cam 314 = .ok (.iconst 1, 1) := by decide +kernel
theorem dX12_cam_315 : decode cX12_cam 315 = .ok (.iadd, 1) := by decide +kernel
theorem dX12_cam_316 : decode cX12_cam 316 = .ok (.putfield 116, 3) := by decide +kernel
theorem dX12_cam_319 : decode cX12_cam 319 = .ok (.goto (-194), 3) := by decide +kernel
theorem dX12_cam_322 : decode cX12_cam 322 = .ok (.aload_n 0, 1) := by decide +kernel
theorem dX12_cam_323 : decode cX12_cam 323 = .ok (.bipush 59, 2) := by decide +kernel
theorem dX12_cam_325 : decode cX12_cam 325 = .ok (.invokevirtual 564, 3) := by decide +kernel
theorem dX12_cam_328 : decode cX12_cam 328 = .ok (.ireturn, 1) := by decide +kernel
abbrev R_X12_cam : Room := ({ frames := 4, cells := 0, slots := 0, locals := 104 } : Room)
def b_X12_cam_319 (n : Nat) (rec : (Gs → Int32 → Int32 → Option (Int32 × Gs))) (gT : Gs) (v1 : Int32) (v2 : Int32) : Option (Int32 × Gs) :=
  rec gT v1 v2
def b_X12_cam_304 (n : Nat) (rec : (Gs → Int32 → Int32 → Option (Int32 × Gs))) (gT : Gs) (v1 : Int32) (s0 : Int32) : Option (Int32 × Gs) :=
  if s0 = 0 then (b_X12_cam_319 n rec gT v1 s0) else (b_X12_cam_319 n rec (sI gT 20 ((gI gT 20) + (1 : Int32))) v1 s0)
def b_X12_cam_264 (n : Nat) (rec : (Gs → Int32 → Int32 → Option (Int32 × Gs))) (gT : Gs) (v1 : Int32) (s0 : Int64) (s1 : Int32) : Option (Int32 × Gs) :=
  grd (inB s1 1600) (grd (inB ((gI gT 20) + (1 : Int32)) 3001) (if (gIA gT 9 ((gI gT 20) + (1 : Int32)).toNatClampNeg) = (44 : Int32) then (b_X12_cam_304 n rec (sI (sI (sLA gT 56 (vp_updL (gLA gT 56) s1.toNatClampNeg s0)) 36 ((gI gT 36) + (1 : Int32))) 20 ((gI gT 20) + (1 : Int32))) v1 (1 : Int32)) else (b_X12_cam_304 n rec (sI (sI (sLA gT 56 (vp_updL (gLA gT 56) s1.toNatClampNeg s0)) 36 ((gI gT 36) + (1 : Int32))) 20 ((gI gT 20) + (1 : Int32))) v1 (0 : Int32))))
def b_X12_cam_215 (n : Nat) (rec : (Gs → Int32 → Int32 → Option (Int32 × Gs))) (gT : Gs) (v1 : Int32) (v3 : Int32) : Option (Int32 × Gs) :=
  grd (inB (gI gT 20) 3001) (grd (inB (gI gT 20) 3001) (bnd (f_X12_become n gT (gLA gT 12 (gI gT 20).toNatClampNeg) (gIA gT 13 (gI gT 20).toNatClampNeg) (7 : Int32)) (fun q_19 => if v3 = 0 then (b_X12_cam_264 n rec q_19.2 v1 q_19.1 (gI q_19.2 36)) else (b_X12_cam_264 n rec q_19.2 v1 (q_19.1 ^^^ (-9223372036854775808 : Int64)) (gI q_19.2 36)))))
def b_X12_cam_163 (n : Nat) (rec : (Gs → Int32 → Int32 → Option (Int32 × Gs))) (gT : Gs) (v1 : Int32) (v3 : Int32) : Option (Int32 × Gs) :=
  grd (inB (gI gT 20) 3001) (if (gIA gT 9 (gI gT 20).toNatClampNeg) = (3 : Int32) then (grd (inB v1 400) (grd (inB v1 400) (grd (inB v1 400) (if ((upd (gIA gT 55) v1.toNatClampNeg ((gIA gT 55 v1.toNatClampNeg) + (1 : Int32))) v1.toNatClampNeg) = (25 : Int32) then (grd (inB (gI gT 20) 3001) (bnd (f_X12_much (sIA gT 55 (upd (gIA gT 55) v1.toNatClampNeg ((gIA gT 55 v1.toNatClampNeg) + (1 : Int32)))) (gIA gT 10 (gI gT 20).toNatClampNeg)) (fun q_24 => b_X12_cam_215 n rec q_24 v1 v3))) else (b_X12_cam_215 n rec (sIA gT 55 (upd (gIA gT 55) v1.toNatClampNeg ((gIA gT 55 v1.toNatClampNeg) + (1 : Int32)))) v1 v3))))) else (bnd (f_X12_cannot gT) (fun q_26 => grd (zB q_26.1) (some (q_26.1, q_26.2)))))
def b_X12_cam_148 (n : Nat) (rec : (Gs → Int32 → Int32 → Option (Int32 × Gs))) (gT : Gs) (v1 : Int32) (s0 : Int32) : Option (Int32 × Gs) :=
  if s0 = 0 then (b_X12_cam_163 n rec gT v1 s0) else (b_X12_cam_163 n rec (sI gT 20 ((gI gT 20) + (1 : Int32))) v1 s0)
def h_X12_cam_125 (n : Nat) (rec : (Gs → Int32 → Int32 → Option (Int32 × Gs))) (gT : Gs) (v1 : Int32) (v2 : Int32) : Option (Int32 × Gs) :=
  if v2 = 0 then (bnd (f_X12_need gT (59 : Int32)) (fun q_9 => grd (zB q_9.1) (some (q_9.1, q_9.2)))) else (grd (inB (gI gT 20) 3001) (if (gIA gT 9 (gI gT 20).toNatClampNeg) = (45 : Int32) then (b_X12_cam_148 n rec gT v1 (1 : Int32)) else (b_X12_cam_148 n rec gT v1 (0 : Int32))))
def b_X12_cam_65 (n : Nat) (rec : (Gs → Int32 → Int32 → Option (Int32 × Gs))) (gT : Gs) (v1 : Int32) : Option (Int32 × Gs) :=
  grd (inB v1 400) (grd (inB v1 400) (grd (inB v1 400) (bnd (f_X12_name (sIA (sIA (sIA gT 53 (upd (gIA gT 53) v1.toNatClampNeg (gI gT 20))) 54 (upd (gIA gT 54) v1.toNatClampNeg (gI gT 36))) 55 (upd (gIA gT 55) v1.toNatClampNeg (0 : Int32))) (0 : Int32) (gI gT 20) (-1 : Int32)) (fun q_5 => bnd (f_X12_need (sI q_5 20 ((gI q_5 20) + (1 : Int32))) (61 : Int32)) (fun q_7 => if q_7.1 = 0 then (some ((0 : Int32), q_7.2)) else (rec q_7.2 v1 (1 : Int32)))))))
def L_X12_cam (n : Nat) : Nat → (Gs → Int32 → Int32 → Option (Int32 × Gs))
  | 0 => ((fun _ _ _ => none))
  | k + 1 => (h_X12_cam_125 n (L_X12_cam n k))
def f_X12_cam (n : Nat) (gT : Gs) : Option (Int32 × Gs) :=
  grd (inB ((gI gT 20) + (1 : Int32)) 3001) (if (gIA gT 9 ((gI gT 20) + (1 : Int32)).toNatClampNeg) = (2 : Int32) then (if ((gI gT 35) + (1 : Int32)) = (9 : Int32) then (grd (inB ((gI gT 20) + (1 : Int32)) 3001) (bnd (f_X12_much (sI (sI gT 20 ((gI gT 20) + (1 : Int32))) 35 ((gI gT 35) + (1 : Int32))) (gIA gT 10 ((gI gT 20) + (1 : Int32)).toNatClampNeg)) (fun q_30 => b_X12_cam_65 n (L_X12_cam n n) q_30 (gI gT 35)))) else (b_X12_cam_65 n (L_X12_cam n n) (sI (sI gT 20 ((gI gT 20) + (1 : Int32))) 35 ((gI gT 35) + (1 : Int32))) (gI gT 35))) else (bnd (f_X12_cannot (sI gT 20 ((gI gT 20) + (1 : Int32)))) (fun q_32 => grd (zB q_32.1) (some (q_32.1, q_32.2)))))
def S_X12_cam_319 (l : Launch) (D : Dx) (hT : Nat) (aT : Nat → Nat) (yT : Nat → ClassId) (fn : Gs → Int32 → Int32 → Option (Int32 × Gs)) : Prop :=
  ∀ {p : Program} {e : Env} {s : State} {m : MethodId} {args : Array Value} {below : List Frame} {meth : Method} {c : Code} {H : Heap} {locs : List Loc} {A : Nat → Prop} {ls : Array Slot} {gT : Gs} {v1 : Int32} {v2 : Int32} {q : Int32 × Gs}, Cx p s m args meth c cX12_cam (some .boolean) 6 RX12 lw_all → Hx D (tX12 yT) A s H locs (wX12 hT aT yT gT) → lv_has ls 6 [(0, .ref hT), (1, .int v1), (2, .int v2)] → fn gT v1 v2 = some q → W p l e R_X12_cam s m args below meth c H locs 0 0 (MQ below (QI D A (wX12 hT aT yT q.2) q.1) args s 0 0 A) (F0 m 319 ls [])
def S_X12_cam_304 (l : Launch) (D : Dx) (hT : Nat) (aT : Nat → Nat) (yT : Nat → ClassId) (fn : Gs → Int32 → Int32 → Option (Int32 × Gs)) : Prop :=
  ∀ {p : Program} {e : Env} {s : State} {m : MethodId} {args : Array Value} {below : List Frame} {meth : Method} {c : Code} {H : Heap} {locs : List Loc} {A : Nat → Prop} {ls : Array Slot} {gT : Gs} {v1 : Int32} {s0 : Int32} {q : Int32 × Gs}, Cx p s m args meth c cX12_cam (some .boolean) 6 RX12 lw_all → Hx D (tX12 yT) A s H locs (wX12 hT aT yT gT) → lv_has ls 6 [(0, .ref hT), (1, .int v1)] → fn gT v1 s0 = some q → W p l e R_X12_cam s m args below meth c H locs 0 0 (MQ below (QI D A (wX12 hT aT yT q.2) q.1) args s 0 0 A) (F0 m 304 ls [.int s0])
def S_X12_cam_264 (l : Launch) (D : Dx) (hT : Nat) (aT : Nat → Nat) (yT : Nat → ClassId) (fn : Gs → Int32 → Int64 → Int32 → Option (Int32 × Gs)) : Prop :=
  ∀ {p : Program} {e : Env} {s : State} {m : MethodId} {args : Array Value} {below : List Frame} {meth : Method} {c : Code} {H : Heap} {locs : List Loc} {A : Nat → Prop} {ls : Array Slot} {gT : Gs} {v1 : Int32} {s0 : Int64} {s1 : Int32} {q : Int32 × Gs}, Cx p s m args meth c cX12_cam (some .boolean) 6 RX12 lw_all → Hx D (tX12 yT) A s H locs (wX12 hT aT yT gT) → lv_has ls 6 [(0, .ref hT), (1, .int v1)] → fn gT v1 s0 s1 = some q → W p l e R_X12_cam s m args below meth c H locs 0 0 (MQ below (QI D A (wX12 hT aT yT q.2) q.1) args s 0 0 A) (F0 m 264 ls [.long s0, .int s1, .ref (aT 56)])
def S_X12_cam_215 (l : Launch) (D : Dx) (hT : Nat) (aT : Nat → Nat) (yT : Nat → ClassId) (fn : Gs → Int32 → Int32 → Option (Int32 × Gs)) : Prop :=
  ∀ {p : Program} {e : Env} {s : State} {m : MethodId} {args : Array Value} {below : List Frame} {meth : Method} {c : Code} {H : Heap} {locs : List Loc} {A : Nat → Prop} {ls : Array Slot} {gT : Gs} {v1 : Int32} {v3 : Int32} {q : Int32 × Gs}, Cx p s m args meth c cX12_cam (some .boolean) 6 RX12 lw_all → Hx D (tX12 yT) A s H locs (wX12 hT aT yT gT) → lv_has ls 6 [(0, .ref hT), (1, .int v1), (3, .int v3)] → fn gT v1 v3 = some q → W p l e R_X12_cam s m args below meth c H locs 0 0 (MQ below (QI D A (wX12 hT aT yT q.2) q.1) args s 0 0 A) (F0 m 215 ls [])
def S_X12_cam_163 (l : Launch) (D : Dx) (hT : Nat) (aT : Nat → Nat) (yT : Nat → ClassId) (fn : Gs → Int32 → Int32 → Option (Int32 × Gs)) : Prop :=
  ∀ {p : Program} {e : Env} {s : State} {m : MethodId} {args : Array Value} {below : List Frame} {meth : Method} {c : Code} {H : Heap} {locs : List Loc} {A : Nat → Prop} {ls : Array Slot} {gT : Gs} {v1 : Int32} {v3 : Int32} {q : Int32 × Gs}, Cx p s m args meth c cX12_cam (some .boolean) 6 RX12 lw_all → Hx D (tX12 yT) A s H locs (wX12 hT aT yT gT) → lv_has ls 6 [(0, .ref hT), (1, .int v1), (3, .int v3)] → fn gT v1 v3 = some q → W p l e R_X12_cam s m args below meth c H locs 0 0 (MQ below (QI D A (wX12 hT aT yT q.2) q.1) args s 0 0 A) (F0 m 163 ls [])
def S_X12_cam_148 (l : Launch) (D : Dx) (hT : Nat) (aT : Nat → Nat) (yT : Nat → ClassId) (fn : Gs → Int32 → Int32 → Option (Int32 × Gs)) : Prop :=
  ∀ {p : Program} {e : Env} {s : State} {m : MethodId} {args : Array Value} {below : List Frame} {meth : Method} {c : Code} {H : Heap} {locs : List Loc} {A : Nat → Prop} {ls : Array Slot} {gT : Gs} {v1 : Int32} {s0 : Int32} {q : Int32 × Gs}, Cx p s m args meth c cX12_cam (some .boolean) 6 RX12 lw_all → Hx D (tX12 yT) A s H locs (wX12 hT aT yT gT) → lv_has ls 6 [(0, .ref hT), (1, .int v1)] → fn gT v1 s0 = some q → W p l e R_X12_cam s m args below meth c H locs 0 0 (MQ below (QI D A (wX12 hT aT yT q.2) q.1) args s 0 0 A) (F0 m 148 ls [.int s0])
def S_X12_cam_125 (l : Launch) (D : Dx) (hT : Nat) (aT : Nat → Nat) (yT : Nat → ClassId) (fn : Gs → Int32 → Int32 → Option (Int32 × Gs)) : Prop :=
  ∀ {p : Program} {e : Env} {s : State} {m : MethodId} {args : Array Value} {below : List Frame} {meth : Method} {c : Code} {H : Heap} {locs : List Loc} {A : Nat → Prop} {ls : Array Slot} {gT : Gs} {v1 : Int32} {v2 : Int32} {q : Int32 × Gs}, Cx p s m args meth c cX12_cam (some .boolean) 6 RX12 lw_all → Hx D (tX12 yT) A s H locs (wX12 hT aT yT gT) → lv_has ls 6 [(0, .ref hT), (1, .int v1), (2, .int v2)] → fn gT v1 v2 = some q → W p l e R_X12_cam s m args below meth c H locs 0 0 (MQ below (QI D A (wX12 hT aT yT q.2) q.1) args s 0 0 A) (F0 m 125 ls [])
def S_X12_cam_65 (l : Launch) (D : Dx) (hT : Nat) (aT : Nat → Nat) (yT : Nat → ClassId) (fn : Gs → Int32 → Option (Int32 × Gs)) : Prop :=
  ∀ {p : Program} {e : Env} {s : State} {m : MethodId} {args : Array Value} {below : List Frame} {meth : Method} {c : Code} {H : Heap} {locs : List Loc} {A : Nat → Prop} {ls : Array Slot} {gT : Gs} {v1 : Int32} {q : Int32 × Gs}, Cx p s m args meth c cX12_cam (some .boolean) 6 RX12 lw_all → Hx D (tX12 yT) A s H locs (wX12 hT aT yT gT) → lv_has ls 6 [(0, .ref hT), (1, .int v1)] → fn gT v1 = some q → W p l e R_X12_cam s m args below meth c H locs 0 0 (MQ below (QI D A (wX12 hT aT yT q.2) q.1) args s 0 0 A) (F0 m 65 ls [])
def SH_X12_cam (l : Launch) (D : Dx) (hT : Nat) (aT : Nat → Nat) (yT : Nat → ClassId) (rec : (Gs → Int32 → Int32 → Option (Int32 × Gs))) : Prop := S_X12_cam_125 l D hT aT yT rec
set_option maxHeartbeats 4000000 in
set_option maxRecDepth 100000 in
theorem k_X12_cam_319 (l : Launch) (D : Dx) (hT : Nat) (aT : Nat → Nat) (yT : Nat → ClassId) (n : Nat) (rec : (Gs → Int32 → Int32 → Option (Int32 × Gs))) (IH : SH_X12_cam l D hT aT yT rec) : S_X12_cam_319 l D hT aT yT (b_X12_cam_319 n rec) := by
  intro p e s m args below meth c H locs A ls gT v1 v2 q C X hl hF
  obtain ⟨hx, hb, hr, hml, hown, hts, hlk⟩ := id C
  unfold b_X12_cam_319 at hF
  refine lv_goto (tgt := 125) hx hb dX12_cam_319 (by decide) ?_
  exact IH C X (lv_sub hl [0, 1, 2] rfl) hF
set_option maxHeartbeats 4000000 in
set_option maxRecDepth 100000 in
theorem k_X12_cam_304 (l : Launch) (D : Dx) (hT : Nat) (aT : Nat → Nat) (yT : Nat → ClassId) (n : Nat) (rec : (Gs → Int32 → Int32 → Option (Int32 × Gs))) (IH : SH_X12_cam l D hT aT yT rec) : S_X12_cam_304 l D hT aT yT (b_X12_cam_304 n rec) := by
  intro p e s m args below meth c H locs A ls gT v1 s0 q C X hl hF
  obtain ⟨hx, hb, hr, hml, hown, hts, hlk⟩ := id C
  unfold b_X12_cam_304 at hF
  refine lv_istore_n (lv' := [(2, .int s0), (0, .ref hT), (1, .int v1)]) hx hb dX12_cam_304 rfl hl (by decide) rfl (fun ls hl => ?_)
  refine lv_iload_n hx hb dX12_cam_305 rfl (lv_at hl 0 rfl) ?_
  refine lv_if_eq (tgt := 319) hx hb dX12_cam_306 (by decide) (fun c => ?_) (fun c => ?_)
  · replace hF := iT c hF
    exact (k_X12_cam_319 l D hT aT yT n rec IH) C X (lv_sub hl [1, 2, 0] rfl) hF
  · replace hF := iF c hF
    refine lv_aload_n hx hb dX12_cam_309 rfl (lv_at hl 1 rfl) ?_
    refine lv_dup hx hb dX12_cam_310 rfl ?_
    refine va_get (D := D.1) (ci := 12) (v := .int (gI gT 20)) (C := RX12) (T := TX12) (N := 114) hx hb hts wi_X12 hown X.1 X.2.1 0 rfl rfl 20 (by decide) (hts _ q6_214) (fun _ h9 => h9) (fl_get (by decide)) dX12_cam_311 ?_
    refine lv_iconst (v := (1 : Int32)) hx hb dX12_cam_314 (by decide) ?_
    refine lv_iadd hx hb dX12_cam_315 ?_
    refine va_put (D := D.1) (ci := 12) (v := .int ((gI gT 20) + (1 : Int32))) (ty := .int) (C := RX12) (T := TX12) (N := 114) hx hb hts wi_X12 tyX12 tyX12_ok nmX12 hown X.1 X.2.1 X.2.2.1 X.2.2.2.1 0 rfl rfl 20 (by decide) (hts _ q6_214) (fun _ h9 => h9) rfl (by decide +kernel) rfl rfl (by rw [List.length_map, List.length_range]; decide) dX12_cam_316 (fun H locs hP hD hS => ?_)
    have X : Hx D (tX12 yT) A s H locs (wX12 hT aT yT (sI gT 20 ((gI gT 20) + (1 : Int32)))) := Hx_set X (wG_sI (k := 20) rfl) hP hD hS
    exact (k_X12_cam_319 l D hT aT yT n rec IH) C X (lv_sub hl [1, 2, 0] rfl) hF
set_option maxHeartbeats 4000000 in
set_option maxRecDepth 100000 in
theorem k_X12_cam_264 (l : Launch) (D : Dx) (hT : Nat) (aT : Nat → Nat) (yT : Nat → ClassId) (n : Nat) (rec : (Gs → Int32 → Int32 → Option (Int32 × Gs))) (IH : SH_X12_cam l D hT aT yT rec) : S_X12_cam_264 l D hT aT yT (b_X12_cam_264 n rec) := by
  intro p e s m args below meth c H locs A ls gT v1 s0 s1 q C X hl hF
  obtain ⟨hx, hb, hr, hml, hown, hts, hlk⟩ := id C
  unfold b_X12_cam_264 at hF
  obtain ⟨h_21, hF⟩ := grd_some hF
  refine va_last (D := D.1) (f := gLA gT 56) hx hb X.1 X.2.1 X.2.2.1 X.2.2.2.1 38 37 rfl rfl (inB_ok h_21) dX12_cam_264 (fun H locs hP hD hS => ?_)
  have X : Hx D (tX12 yT) A s H locs (wX12 hT aT yT (sLA gT 56 (vp_updL (gLA gT 56) s1.toNatClampNeg s0))) := Hx_set X (wG_sLA (i := 37) (k := 56) ndX12 rfl rfl) hP hD hS
  refine lv_aload_n hx hb dX12_cam_265 rfl (lv_at hl 0 rfl) ?_
  refine lv_dup hx hb dX12_cam_266 rfl ?_
  refine va_get (D := D.1) (ci := 12) (v := .int (gI gT 36)) (C := RX12) (T := TX12) (N := 114) hx hb hts wi_X12 hown X.1 X.2.1 0 rfl rfl 36 (by decide) (hts _ q6_230) (fun _ h9 => h9) (fl_get (by decide)) dX12_cam_267 ?_
  refine lv_iconst (v := (1 : Int32)) hx hb dX12_cam_270 (by decide) ?_
  refine lv_iadd hx hb dX12_cam_271 ?_
  refine va_put (D := D.1) (ci := 12) (v := .int ((gI gT 36) + (1 : Int32))) (ty := .int) (C := RX12) (T := TX12) (N := 114) hx hb hts wi_X12 tyX12 tyX12_ok nmX12 hown X.1 X.2.1 X.2.2.1 X.2.2.2.1 0 rfl rfl 36 (by decide) (hts _ q6_230) (fun _ h9 => h9) rfl (by decide +kernel) rfl rfl (by rw [List.length_map, List.length_range]; decide) dX12_cam_272 (fun H locs hP hD hS => ?_)
  have X : Hx D (tX12 yT) A s H locs (wX12 hT aT yT (sI (sLA gT 56 (vp_updL (gLA gT 56) s1.toNatClampNeg s0)) 36 ((gI gT 36) + (1 : Int32)))) := Hx_set X (wG_sI (k := 36) rfl) hP hD hS
  refine lv_aload_n hx hb dX12_cam_275 rfl (lv_at hl 0 rfl) ?_
  refine lv_dup hx hb dX12_cam_276 rfl ?_
  refine va_get (D := D.1) (ci := 12) (v := .int (gI gT 20)) (C := RX12) (T := TX12) (N := 114) hx hb hts wi_X12 hown X.1 X.2.1 0 rfl rfl 20 (by decide) (hts _ q6_214) (fun _ h9 => h9) (fl_get (by decide)) dX12_cam_277 ?_
  refine lv_iconst (v := (1 : Int32)) hx hb dX12_cam_280 (by decide) ?_
  refine lv_iadd hx hb dX12_cam_281 ?_
  refine va_put (D := D.1) (ci := 12) (v := .int ((gI gT 20) + (1 : Int32))) (ty := .int) (C := RX12) (T := TX12) (N := 114) hx hb hts wi_X12 tyX12 tyX12_ok nmX12 hown X.1 X.2.1 X.2.2.1 X.2.2.2.1 0 rfl rfl 20 (by decide) (hts _ q6_214) (fun _ h9 => h9) rfl (by decide +kernel) rfl rfl (by rw [List.length_map, List.length_range]; decide) dX12_cam_282 (fun H locs hP hD hS => ?_)
  have X : Hx D (tX12 yT) A s H locs (wX12 hT aT yT (sI (sI (sLA gT 56 (vp_updL (gLA gT 56) s1.toNatClampNeg s0)) 36 ((gI gT 36) + (1 : Int32))) 20 ((gI gT 20) + (1 : Int32)))) := Hx_set X (wG_sI (k := 20) rfl) hP hD hS
  refine lv_aload_n hx hb dX12_cam_285 rfl (lv_at hl 0 rfl) ?_
  refine va_get (D := D.1) (ci := 12) (v := .ref (aT 9)) (C := RX12) (T := TX12) (N := 114) hx hb hts wi_X12 hown X.1 X.2.1 0 rfl rfl 9 (by decide) (hts _ q6_203) (fun _ h9 => h9) (fl_get (by decide)) dX12_cam_286 ?_
  refine lv_aload_n hx hb dX12_cam_289 rfl (lv_at hl 0 rfl) ?_
  refine va_get (D := D.1) (ci := 12) (v := .int ((gI gT 20) + (1 : Int32))) (C := RX12) (T := TX12) (N := 114) hx hb hts wi_X12 hown X.1 X.2.1 0 rfl rfl 20 (by decide) (hts _ q6_214) (fun _ h9 => h9) (fl_get (by decide)) dX12_cam_290 ?_
  obtain ⟨h_22, hF⟩ := grd_some hF
  refine va_iald (D := D.1) (f := gIA gT 9) hx hb X.1 X.2.1 4 3 rfl rfl (inB_ok h_22) dX12_cam_293 ?_
  refine lv_bipush (v := (44 : Int32)) hx hb dX12_cam_294 (by decide) ?_
  refine lv_icmp_ne (tgt := 303) hx hb dX12_cam_296 (by decide) (fun c => ?_) (fun c => ?_)
  · replace hF := iF c hF
    refine lv_iconst (v := (0 : Int32)) hx hb dX12_cam_303 (by decide) ?_
    exact (k_X12_cam_304 l D hT aT yT n rec IH) C X (lv_sub hl [0, 1] rfl) hF
  · replace hF := iT c hF
    refine lv_iconst (v := (1 : Int32)) hx hb dX12_cam_299 (by decide) ?_
    refine lv_goto (tgt := 304) hx hb dX12_cam_300 (by decide) ?_
    exact (k_X12_cam_304 l D hT aT yT n rec IH) C X (lv_sub hl [0, 1] rfl) hF
set_option maxHeartbeats 4000000 in
set_option maxRecDepth 100000 in
theorem k_X12_cam_215 (l : Launch) (D : Dx) (hT : Nat) (aT : Nat → Nat) (yT : Nat → ClassId) (n : Nat) (rec : (Gs → Int32 → Int32 → Option (Int32 × Gs))) (IH : SH_X12_cam l D hT aT yT rec) : S_X12_cam_215 l D hT aT yT (b_X12_cam_215 n rec) := by
  intro p e s m args below meth c H locs A ls gT v1 v3 q C X hl hF
  obtain ⟨hx, hb, hr, hml, hown, hts, hlk⟩ := id C
  unfold b_X12_cam_215 at hF
  refine lv_aload_n hx hb dX12_cam_215 rfl (lv_at hl 0 rfl) ?_
  refine lv_aload_n hx hb dX12_cam_216 rfl (lv_at hl 0 rfl) ?_
  refine va_get (D := D.1) (ci := 12) (v := .ref (aT 12)) (C := RX12) (T := TX12) (N := 114) hx hb hts wi_X12 hown X.1 X.2.1 0 rfl rfl 12 (by decide) (hts _ q6_206) (fun _ h9 => h9) (fl_get (by decide)) dX12_cam_217 ?_
  refine lv_aload_n hx hb dX12_cam_220 rfl (lv_at hl 0 rfl) ?_
  refine va_get (D := D.1) (ci := 12) (v := .int (gI gT 20)) (C := RX12) (T := TX12) (N := 114) hx hb hts wi_X12 hown X.1 X.2.1 0 rfl rfl 20 (by decide) (hts _ q6_214) (fun _ h9 => h9) (fl_get (by decide)) dX12_cam_221 ?_
  obtain ⟨h_17, hF⟩ := grd_some hF
  refine va_lald (D := D.1) (f := gLA gT 12) hx hb X.1 X.2.1 7 6 rfl rfl (inB_ok h_17) dX12_cam_224 ?_
  refine lv_aload_n hx hb dX12_cam_225 rfl (lv_at hl 0 rfl) ?_
  refine va_get (D := D.1) (ci := 12) (v := .ref (aT 13)) (C := RX12) (T := TX12) (N := 114) hx hb hts wi_X12 hown X.1 X.2.1 0 rfl rfl 13 (by decide) (hts _ q6_207) (fun _ h9 => h9) (fl_get (by decide)) dX12_cam_226 ?_
  refine lv_aload_n hx hb dX12_cam_229 rfl (lv_at hl 0 rfl) ?_
  refine va_get (D := D.1) (ci := 12) (v := .int (gI gT 20)) (C := RX12) (T := TX12) (N := 114) hx hb hts wi_X12 hown X.1 X.2.1 0 rfl rfl 20 (by decide) (hts _ q6_214) (fun _ h9 => h9) (fl_get (by decide)) dX12_cam_230 ?_
  obtain ⟨h_18, hF⟩ := grd_some hF
  refine va_iald (D := D.1) (f := gIA gT 13) hx hb X.1 X.2.1 8 7 rfl rfl (inB_ok h_18) dX12_cam_233 ?_
  refine lv_bipush (v := (7 : Int32)) hx hb dX12_cam_234 (by decide) ?_
  obtain ⟨q_19, hc_20, hF⟩ := bnd_some hF
  refine cV_l (As := [.long (gLA gT 12 (gI gT 20).toNatClampNeg), .int (gIA gT 13 (gI gT 20).toNatClampNeg), .int (7 : Int32)]) (rest := []) C X (c_X12_become l D hT aT yT n gT (gLA gT 12 (gI gT 20).toNatClampNeg) (gIA gT 13 (gI gT 20).toNatClampNeg) (7 : Int32) q_19 hc_20 _) (cwV 3 hts (good_V q8_136 q8_138 q0_73 q1_9 q8_139) rfl rfl rfl (by decide +kernel) ⟨Nat.le_of_ble_eq_true rfl, Nat.le_of_ble_eq_true rfl⟩) (va_recv X.1 X.2.1 (ci := 12) (q0 := 0) rfl rfl) X.1 X.2.1 X.2.2.1 (free_all X) hl.1 rfl rfl (Nat.le_of_ble_eq_true rfl) dX12_cam_236 ⟨Nat.le_of_ble_eq_true rfl, Nat.le_of_ble_eq_true rfl⟩ (fun t H1 locs1 ht hB hk hS => ?_)
  have X : Hx D (tX12 yT) A s H1 locs1 (wX12 hT aT yT q_19.2) := Hx_after_all X ht hB hS
  clear hk hS ht hB
  generalize H1 = H at X ⊢
  generalize locs1 = locs at X ⊢
  refine lv_lstore (lv' := [(4, .long q_19.1), (0, .ref hT), (1, .int v1), (3, .int v3)]) hx hb dX12_cam_239 hl (by decide) rfl (fun ls hl => ?_)
  refine lv_aload_n hx hb dX12_cam_241 rfl (lv_at hl 1 rfl) ?_
  refine va_get (D := D.1) (ci := 12) (v := .ref (aT 56)) (C := RX12) (T := TX12) (N := 114) hx hb hts wi_X12 hown X.1 X.2.1 0 rfl rfl 56 (by decide) (hts _ q7_10) (fun _ h9 => h9) (fl_get (by decide)) dX12_cam_242 ?_
  refine lv_aload_n hx hb dX12_cam_245 rfl (lv_at hl 1 rfl) ?_
  refine va_get (D := D.1) (ci := 12) (v := .int (gI q_19.2 36)) (C := RX12) (T := TX12) (N := 114) hx hb hts wi_X12 hown X.1 X.2.1 0 rfl rfl 36 (by decide) (hts _ q6_230) (fun _ h9 => h9) (fl_get (by decide)) dX12_cam_246 ?_
  refine lv_iload_n hx hb dX12_cam_249 rfl (lv_at hl 3 rfl) ?_
  refine lv_if_eq (tgt := 262) hx hb dX12_cam_250 (by decide) (fun c => ?_) (fun c => ?_)
  · replace hF := iT c hF
    refine lv_lload hx hb dX12_cam_262 (lv_at hl 0 rfl) ?_
    exact (k_X12_cam_264 l D hT aT yT n rec IH) C X (lv_sub hl [1, 2] rfl) hF
  · replace hF := iF c hF
    refine lv_lload hx hb dX12_cam_253 (lv_at hl 0 rfl) ?_
    refine lv_ldc2 hx hb hown (hts _ q8_135) dX12_cam_255 ?_
    refine lv_lxor hx hb dX12_cam_258 ?_
    refine lv_goto (tgt := 264) hx hb dX12_cam_259 (by decide) ?_
    exact (k_X12_cam_264 l D hT aT yT n rec IH) C X (lv_sub hl [1, 2] rfl) hF
set_option maxHeartbeats 4000000 in
set_option maxRecDepth 100000 in
theorem k_X12_cam_163 (l : Launch) (D : Dx) (hT : Nat) (aT : Nat → Nat) (yT : Nat → ClassId) (n : Nat) (rec : (Gs → Int32 → Int32 → Option (Int32 × Gs))) (IH : SH_X12_cam l D hT aT yT rec) : S_X12_cam_163 l D hT aT yT (b_X12_cam_163 n rec) := by
  intro p e s m args below meth c H locs A ls gT v1 v3 q C X hl hF
  obtain ⟨hx, hb, hr, hml, hown, hts, hlk⟩ := id C
  unfold b_X12_cam_163 at hF
  refine lv_aload_n hx hb dX12_cam_163 rfl (lv_at hl 0 rfl) ?_
  refine va_get (D := D.1) (ci := 12) (v := .ref (aT 9)) (C := RX12) (T := TX12) (N := 114) hx hb hts wi_X12 hown X.1 X.2.1 0 rfl rfl 9 (by decide) (hts _ q6_203) (fun _ h9 => h9) (fl_get (by decide)) dX12_cam_164 ?_
  refine lv_aload_n hx hb dX12_cam_167 rfl (lv_at hl 0 rfl) ?_
  refine va_get (D := D.1) (ci := 12) (v := .int (gI gT 20)) (C := RX12) (T := TX12) (N := 114) hx hb hts wi_X12 hown X.1 X.2.1 0 rfl rfl 20 (by decide) (hts _ q6_214) (fun _ h9 => h9) (fl_get (by decide)) dX12_cam_168 ?_
  obtain ⟨h_13, hF⟩ := grd_some hF
  refine va_iald (D := D.1) (f := gIA gT 9) hx hb X.1 X.2.1 4 3 rfl rfl (inB_ok h_13) dX12_cam_171 ?_
  refine lv_iconst (v := (3 : Int32)) hx hb dX12_cam_172 (by decide) ?_
  refine lv_icmp_eq (tgt := 181) hx hb dX12_cam_173 (by decide) (fun c => ?_) (fun c => ?_)
  · replace hF := iT c hF
    refine lv_aload_n hx hb dX12_cam_181 rfl (lv_at hl 0 rfl) ?_
    refine va_get (D := D.1) (ci := 12) (v := .ref (aT 55)) (C := RX12) (T := TX12) (N := 114) hx hb hts wi_X12 hown X.1 X.2.1 0 rfl rfl 55 (by decide) (hts _ q7_9) (fun _ h9 => h9) (fl_get (by decide)) dX12_cam_182 ?_
    refine lv_iload_n hx hb dX12_cam_185 rfl (lv_at hl 1 rfl) ?_
    refine lv_dup2_11 hx hb dX12_cam_186 rfl rfl ?_
    obtain ⟨h_14, hF⟩ := grd_some hF
    refine va_iald (D := D.1) (f := gIA gT 55) hx hb X.1 X.2.1 37 36 rfl rfl (inB_ok h_14) dX12_cam_187 ?_
    refine lv_iconst (v := (1 : Int32)) hx hb dX12_cam_188 (by decide) ?_
    refine lv_iadd hx hb dX12_cam_189 ?_
    obtain ⟨h_15, hF⟩ := grd_some hF
    refine va_iast (D := D.1) (f := gIA gT 55) hx hb X.1 X.2.1 X.2.2.1 X.2.2.2.1 37 36 rfl rfl (inB_ok h_15) dX12_cam_190 (fun H locs hP hD hS => ?_)
    have X : Hx D (tX12 yT) A s H locs (wX12 hT aT yT (sIA gT 55 (upd (gIA gT 55) v1.toNatClampNeg ((gIA gT 55 v1.toNatClampNeg) + (1 : Int32))))) := Hx_set X (wG_sIA (i := 36) (k := 55) ndX12 rfl rfl) hP hD hS
    refine lv_aload_n hx hb dX12_cam_191 rfl (lv_at hl 0 rfl) ?_
    refine va_get (D := D.1) (ci := 12) (v := .ref (aT 55)) (C := RX12) (T := TX12) (N := 114) hx hb hts wi_X12 hown X.1 X.2.1 0 rfl rfl 55 (by decide) (hts _ q7_9) (fun _ h9 => h9) (fl_get (by decide)) dX12_cam_192 ?_
    refine lv_iload_n hx hb dX12_cam_195 rfl (lv_at hl 1 rfl) ?_
    obtain ⟨h_16, hF⟩ := grd_some hF
    refine va_iald (D := D.1) (f := upd (gIA gT 55) v1.toNatClampNeg ((gIA gT 55 v1.toNatClampNeg) + (1 : Int32))) hx hb X.1 X.2.1 37 36 rfl rfl (inB_ok h_16) dX12_cam_196 ?_
    refine lv_bipush (v := (25 : Int32)) hx hb dX12_cam_197 (by decide) ?_
    refine lv_icmp_ne (tgt := 215) hx hb dX12_cam_199 (by decide) (fun c => ?_) (fun c => ?_)
    · replace hF := iF c hF
      exact (k_X12_cam_215 l D hT aT yT n rec IH) C X (lv_sub hl [0, 1, 2] rfl) hF
    · replace hF := iT c hF
      refine lv_aload_n hx hb dX12_cam_202 rfl (lv_at hl 0 rfl) ?_
      refine lv_aload_n hx hb dX12_cam_203 rfl (lv_at hl 0 rfl) ?_
      refine va_get (D := D.1) (ci := 12) (v := .ref (aT 10)) (C := RX12) (T := TX12) (N := 114) hx hb hts wi_X12 hown X.1 X.2.1 0 rfl rfl 10 (by decide) (hts _ q6_204) (fun _ h9 => h9) (fl_get (by decide)) dX12_cam_204 ?_
      refine lv_aload_n hx hb dX12_cam_207 rfl (lv_at hl 0 rfl) ?_
      refine va_get (D := D.1) (ci := 12) (v := .int (gI gT 20)) (C := RX12) (T := TX12) (N := 114) hx hb hts wi_X12 hown X.1 X.2.1 0 rfl rfl 20 (by decide) (hts _ q6_214) (fun _ h9 => h9) (fl_get (by decide)) dX12_cam_208 ?_
      obtain ⟨h_23, hF⟩ := grd_some hF
      refine va_iald (D := D.1) (f := gIA gT 10) hx hb X.1 X.2.1 5 4 rfl rfl (inB_ok h_23) dX12_cam_211 ?_
      obtain ⟨q_24, hc_25, hF⟩ := bnd_some hF
      refine cV_v (As := [.int (gIA gT 10 (gI gT 20).toNatClampNeg)]) (rest := []) C X (c_X12_much l D hT aT yT (sIA gT 55 (upd (gIA gT 55) v1.toNatClampNeg ((gIA gT 55 v1.toNatClampNeg) + (1 : Int32)))) (gIA gT 10 (gI gT 20).toNatClampNeg) q_24 hc_25 _) (cwV 1 hts (good_V q8_181 q8_183 q0_80 q1_9 q8_184) rfl rfl rfl (by decide +kernel) ⟨Nat.le_of_ble_eq_true rfl, Nat.le_of_ble_eq_true rfl⟩) (va_recv X.1 X.2.1 (ci := 12) (q0 := 0) rfl rfl) X.1 X.2.1 X.2.2.1 (free_all X) hl.1 rfl rfl (Nat.le_of_ble_eq_true rfl) dX12_cam_212 ⟨Nat.le_of_ble_eq_true rfl, Nat.le_of_ble_eq_true rfl⟩ (fun t H1 locs1 ht hB hk hS => ?_)
      have X : Hx D (tX12 yT) A s H1 locs1 (wX12 hT aT yT q_24) := Hx_after_all X ht hB hS
      clear hk hS ht hB
      generalize H1 = H at X ⊢
      generalize locs1 = locs at X ⊢
      exact (k_X12_cam_215 l D hT aT yT n rec IH) C X (lv_sub hl [0, 1, 2] rfl) hF
  · replace hF := iF c hF
    refine lv_aload_n hx hb dX12_cam_176 rfl (lv_at hl 0 rfl) ?_
    obtain ⟨q_26, hc_27, hF⟩ := bnd_some hF
    refine cV_i (As := []) (rest := []) C X (c_X12_cannot l D hT aT yT gT q_26 hc_27 _) (cwV 0 hts (good_V q8_173 q8_175 q0_78 q1_9 q8_176) rfl rfl rfl (by decide +kernel) ⟨Nat.le_of_ble_eq_true rfl, Nat.le_of_ble_eq_true rfl⟩) (va_recv X.1 X.2.1 (ci := 12) (q0 := 0) rfl rfl) X.1 X.2.1 X.2.2.1 (free_all X) hl.1 rfl rfl (Nat.le_of_ble_eq_true rfl) dX12_cam_177 ⟨Nat.le_of_ble_eq_true rfl, Nat.le_of_ble_eq_true rfl⟩ (fun t H1 locs1 ht hB hk hS => ?_)
    have X : Hx D (tX12 yT) A s H1 locs1 (wX12 hT aT yT q_26.2) := Hx_after_all X ht hB hS
    clear hk hS ht hB
    generalize H1 = H at X ⊢
    generalize locs1 = locs at X ⊢
    obtain ⟨h_28, hF⟩ := grd_some hF
    have hq := Option.some.inj hF
    subst hq
    exact rt_z (v := q_26.1) C X (zB_n h_28) dX12_cam_180
set_option maxHeartbeats 4000000 in
set_option maxRecDepth 100000 in
theorem k_X12_cam_148 (l : Launch) (D : Dx) (hT : Nat) (aT : Nat → Nat) (yT : Nat → ClassId) (n : Nat) (rec : (Gs → Int32 → Int32 → Option (Int32 × Gs))) (IH : SH_X12_cam l D hT aT yT rec) : S_X12_cam_148 l D hT aT yT (b_X12_cam_148 n rec) := by
  intro p e s m args below meth c H locs A ls gT v1 s0 q C X hl hF
  obtain ⟨hx, hb, hr, hml, hown, hts, hlk⟩ := id C
  unfold b_X12_cam_148 at hF
  refine lv_istore_n (lv' := [(3, .int s0), (0, .ref hT), (1, .int v1)]) hx hb dX12_cam_148 rfl hl (by decide) rfl (fun ls hl => ?_)
  refine lv_iload_n hx hb dX12_cam_149 rfl (lv_at hl 0 rfl) ?_
  refine lv_if_eq (tgt := 163) hx hb dX12_cam_150 (by decide) (fun c => ?_) (fun c => ?_)
  · replace hF := iT c hF
    exact (k_X12_cam_163 l D hT aT yT n rec IH) C X (lv_sub hl [1, 2, 0] rfl) hF
  · replace hF := iF c hF
    refine lv_aload_n hx hb dX12_cam_153 rfl (lv_at hl 1 rfl) ?_
    refine lv_dup hx hb dX12_cam_154 rfl ?_
    refine va_get (D := D.1) (ci := 12) (v := .int (gI gT 20)) (C := RX12) (T := TX12) (N := 114) hx hb hts wi_X12 hown X.1 X.2.1 0 rfl rfl 20 (by decide) (hts _ q6_214) (fun _ h9 => h9) (fl_get (by decide)) dX12_cam_155 ?_
    refine lv_iconst (v := (1 : Int32)) hx hb dX12_cam_158 (by decide) ?_
    refine lv_iadd hx hb dX12_cam_159 ?_
    refine va_put (D := D.1) (ci := 12) (v := .int ((gI gT 20) + (1 : Int32))) (ty := .int) (C := RX12) (T := TX12) (N := 114) hx hb hts wi_X12 tyX12 tyX12_ok nmX12 hown X.1 X.2.1 X.2.2.1 X.2.2.2.1 0 rfl rfl 20 (by decide) (hts _ q6_214) (fun _ h9 => h9) rfl (by decide +kernel) rfl rfl (by rw [List.length_map, List.length_range]; decide) dX12_cam_160 (fun H locs hP hD hS => ?_)
    have X : Hx D (tX12 yT) A s H locs (wX12 hT aT yT (sI gT 20 ((gI gT 20) + (1 : Int32)))) := Hx_set X (wG_sI (k := 20) rfl) hP hD hS
    exact (k_X12_cam_163 l D hT aT yT n rec IH) C X (lv_sub hl [1, 2, 0] rfl) hF
set_option maxHeartbeats 4000000 in
set_option maxRecDepth 100000 in
theorem k_X12_cam_125 (l : Launch) (D : Dx) (hT : Nat) (aT : Nat → Nat) (yT : Nat → ClassId) (n : Nat) (rec : (Gs → Int32 → Int32 → Option (Int32 × Gs))) (IH : SH_X12_cam l D hT aT yT rec) : S_X12_cam_125 l D hT aT yT (h_X12_cam_125 n rec) := by
  intro p e s m args below meth c H locs A ls gT v1 v2 q C X hl hF
  obtain ⟨hx, hb, hr, hml, hown, hts, hlk⟩ := id C
  unfold h_X12_cam_125 at hF
  refine lv_iload_n hx hb dX12_cam_125 rfl (lv_at hl 2 rfl) ?_
  refine lv_if_eq (tgt := 322) hx hb dX12_cam_126 (by decide) (fun c => ?_) (fun c => ?_)
  · replace hF := iT c hF
    refine lv_aload_n hx hb dX12_cam_322 rfl (lv_at hl 0 rfl) ?_
    refine lv_bipush (v := (59 : Int32)) hx hb dX12_cam_323 (by decide) ?_
    obtain ⟨q_9, hc_10, hF⟩ := bnd_some hF
    refine cV_i (As := [.int (59 : Int32)]) (rest := []) C X (c_X12_need l D hT aT yT gT (59 : Int32) q_9 hc_10 _) (cwV 1 hts (good_V q8_189 q8_191 q0_82 q1_9 q8_192) rfl rfl rfl (by decide +kernel) ⟨Nat.le_of_ble_eq_true rfl, Nat.le_of_ble_eq_true rfl⟩) (va_recv X.1 X.2.1 (ci := 12) (q0 := 0) rfl rfl) X.1 X.2.1 X.2.2.1 (free_all X) hl.1 rfl rfl (Nat.le_of_ble_eq_true rfl) dX12_cam_325 ⟨Nat.le_of_ble_eq_true rfl, Nat.le_of_ble_eq_true rfl⟩ (fun t H1 locs1 ht hB hk hS => ?_)
    have X : Hx D (tX12 yT) A s H1 locs1 (wX12 hT aT yT q_9.2) := Hx_after_all X ht hB hS
    clear hk hS ht hB
    generalize H1 = H at X ⊢
    generalize locs1 = locs at X ⊢
    obtain ⟨h_11, hF⟩ := grd_some hF
    have hq := Option.some.inj hF
    subst hq
    exact rt_z (v := q_9.1) C X (zB_n h_11) dX12_cam_328
  · replace hF := iF c hF
    refine lv_aload_n hx hb dX12_cam_129 rfl (lv_at hl 0 rfl) ?_
    refine va_get (D := D.1) (ci := 12) (v := .ref (aT 9)) (C := RX12) (T := TX12) (N := 114) hx hb hts wi_X12 hown X.1 X.2.1 0 rfl rfl 9 (by decide) (hts _ q6_203) (fun _ h9 => h9) (fl_get (by decide)) dX12_cam_130 ?_
    refine lv_aload_n hx hb dX12_cam_133 rfl (lv_at hl 0 rfl) ?_
    refine va_get (D := D.1) (ci := 12) (v := .int (gI gT 20)) (C := RX12) (T := TX12) (N := 114) hx hb hts wi_X12 hown X.1 X.2.1 0 rfl rfl 20 (by decide) (hts _ q6_214) (fun _ h9 => h9) (fl_get (by decide)) dX12_cam_134 ?_
    obtain ⟨h_12, hF⟩ := grd_some hF
    refine va_iald (D := D.1) (f := gIA gT 9) hx hb X.1 X.2.1 4 3 rfl rfl (inB_ok h_12) dX12_cam_137 ?_
    refine lv_bipush (v := (45 : Int32)) hx hb dX12_cam_138 (by decide) ?_
    refine lv_icmp_ne (tgt := 147) hx hb dX12_cam_140 (by decide) (fun c => ?_) (fun c => ?_)
    · replace hF := iF c hF
      refine lv_iconst (v := (0 : Int32)) hx hb dX12_cam_147 (by decide) ?_
      exact (k_X12_cam_148 l D hT aT yT n rec IH) C X (lv_sub hl [0, 1] rfl) hF
    · replace hF := iT c hF
      refine lv_iconst (v := (1 : Int32)) hx hb dX12_cam_143 (by decide) ?_
      refine lv_goto (tgt := 148) hx hb dX12_cam_144 (by decide) ?_
      exact (k_X12_cam_148 l D hT aT yT n rec IH) C X (lv_sub hl [0, 1] rfl) hF
set_option maxHeartbeats 4000000 in
set_option maxRecDepth 100000 in
theorem k_X12_cam_65 (l : Launch) (D : Dx) (hT : Nat) (aT : Nat → Nat) (yT : Nat → ClassId) (n : Nat) (rec : (Gs → Int32 → Int32 → Option (Int32 × Gs))) (IH : SH_X12_cam l D hT aT yT rec) : S_X12_cam_65 l D hT aT yT (b_X12_cam_65 n rec) := by
  intro p e s m args below meth c H locs A ls gT v1 q C X hl hF
  obtain ⟨hx, hb, hr, hml, hown, hts, hlk⟩ := id C
  unfold b_X12_cam_65 at hF
  refine lv_aload_n hx hb dX12_cam_65 rfl (lv_at hl 0 rfl) ?_
  refine va_get (D := D.1) (ci := 12) (v := .ref (aT 53)) (C := RX12) (T := TX12) (N := 114) hx hb hts wi_X12 hown X.1 X.2.1 0 rfl rfl 53 (by decide) (hts _ q7_7) (fun _ h9 => h9) (fl_get (by decide)) dX12_cam_66 ?_
  refine lv_iload_n hx hb dX12_cam_69 rfl (lv_at hl 1 rfl) ?_
  refine lv_aload_n hx hb dX12_cam_70 rfl (lv_at hl 0 rfl) ?_
  refine va_get (D := D.1) (ci := 12) (v := .int (gI gT 20)) (C := RX12) (T := TX12) (N := 114) hx hb hts wi_X12 hown X.1 X.2.1 0 rfl rfl 20 (by decide) (hts _ q6_214) (fun _ h9 => h9) (fl_get (by decide)) dX12_cam_71 ?_
  obtain ⟨h_2, hF⟩ := grd_some hF
  refine va_iast (D := D.1) (f := gIA gT 53) hx hb X.1 X.2.1 X.2.2.1 X.2.2.2.1 35 34 rfl rfl (inB_ok h_2) dX12_cam_74 (fun H locs hP hD hS => ?_)
  have X : Hx D (tX12 yT) A s H locs (wX12 hT aT yT (sIA gT 53 (upd (gIA gT 53) v1.toNatClampNeg (gI gT 20)))) := Hx_set X (wG_sIA (i := 34) (k := 53) ndX12 rfl rfl) hP hD hS
  refine lv_aload_n hx hb dX12_cam_75 rfl (lv_at hl 0 rfl) ?_
  refine va_get (D := D.1) (ci := 12) (v := .ref (aT 54)) (C := RX12) (T := TX12) (N := 114) hx hb hts wi_X12 hown X.1 X.2.1 0 rfl rfl 54 (by decide) (hts _ q7_8) (fun _ h9 => h9) (fl_get (by decide)) dX12_cam_76 ?_
  refine lv_iload_n hx hb dX12_cam_79 rfl (lv_at hl 1 rfl) ?_
  refine lv_aload_n hx hb dX12_cam_80 rfl (lv_at hl 0 rfl) ?_
  refine va_get (D := D.1) (ci := 12) (v := .int (gI gT 36)) (C := RX12) (T := TX12) (N := 114) hx hb hts wi_X12 hown X.1 X.2.1 0 rfl rfl 36 (by decide) (hts _ q6_230) (fun _ h9 => h9) (fl_get (by decide)) dX12_cam_81 ?_
  obtain ⟨h_3, hF⟩ := grd_some hF
  refine va_iast (D := D.1) (f := gIA gT 54) hx hb X.1 X.2.1 X.2.2.1 X.2.2.2.1 36 35 rfl rfl (inB_ok h_3) dX12_cam_84 (fun H locs hP hD hS => ?_)
  have X : Hx D (tX12 yT) A s H locs (wX12 hT aT yT (sIA (sIA gT 53 (upd (gIA gT 53) v1.toNatClampNeg (gI gT 20))) 54 (upd (gIA gT 54) v1.toNatClampNeg (gI gT 36)))) := Hx_set X (wG_sIA (i := 35) (k := 54) ndX12 rfl rfl) hP hD hS
  refine lv_aload_n hx hb dX12_cam_85 rfl (lv_at hl 0 rfl) ?_
  refine va_get (D := D.1) (ci := 12) (v := .ref (aT 55)) (C := RX12) (T := TX12) (N := 114) hx hb hts wi_X12 hown X.1 X.2.1 0 rfl rfl 55 (by decide) (hts _ q7_9) (fun _ h9 => h9) (fl_get (by decide)) dX12_cam_86 ?_
  refine lv_iload_n hx hb dX12_cam_89 rfl (lv_at hl 1 rfl) ?_
  refine lv_iconst (v := (0 : Int32)) hx hb dX12_cam_90 (by decide) ?_
  obtain ⟨h_4, hF⟩ := grd_some hF
  refine va_iast (D := D.1) (f := gIA gT 55) hx hb X.1 X.2.1 X.2.2.1 X.2.2.2.1 37 36 rfl rfl (inB_ok h_4) dX12_cam_91 (fun H locs hP hD hS => ?_)
  have X : Hx D (tX12 yT) A s H locs (wX12 hT aT yT (sIA (sIA (sIA gT 53 (upd (gIA gT 53) v1.toNatClampNeg (gI gT 20))) 54 (upd (gIA gT 54) v1.toNatClampNeg (gI gT 36))) 55 (upd (gIA gT 55) v1.toNatClampNeg (0 : Int32)))) := Hx_set X (wG_sIA (i := 36) (k := 55) ndX12 rfl rfl) hP hD hS
  refine lv_aload_n hx hb dX12_cam_92 rfl (lv_at hl 0 rfl) ?_
  refine lv_iconst (v := (0 : Int32)) hx hb dX12_cam_93 (by decide) ?_
  refine lv_aload_n hx hb dX12_cam_94 rfl (lv_at hl 0 rfl) ?_
  refine va_get (D := D.1) (ci := 12) (v := .int (gI gT 20)) (C := RX12) (T := TX12) (N := 114) hx hb hts wi_X12 hown X.1 X.2.1 0 rfl rfl 20 (by decide) (hts _ q6_214) (fun _ h9 => h9) (fl_get (by decide)) dX12_cam_95 ?_
  refine lv_iconst (v := (-1 : Int32)) hx hb dX12_cam_98 (by decide) ?_
  obtain ⟨q_5, hc_6, hF⟩ := bnd_some hF
  refine cV_v (As := [.int (0 : Int32), .int (gI gT 20), .int (-1 : Int32)]) (rest := []) C X (c_X12_name l D hT aT yT (sIA (sIA (sIA gT 53 (upd (gIA gT 53) v1.toNatClampNeg (gI gT 20))) 54 (upd (gIA gT 54) v1.toNatClampNeg (gI gT 36))) 55 (upd (gIA gT 55) v1.toNatClampNeg (0 : Int32))) (0 : Int32) (gI gT 20) (-1 : Int32) q_5 hc_6 _) (cwV 3 hts (good_V q8_185 q8_187 q0_81 q1_9 q8_188) rfl rfl rfl (by decide +kernel) ⟨Nat.le_of_ble_eq_true rfl, Nat.le_of_ble_eq_true rfl⟩) (va_recv X.1 X.2.1 (ci := 12) (q0 := 0) rfl rfl) X.1 X.2.1 X.2.2.1 (free_all X) hl.1 rfl rfl (Nat.le_of_ble_eq_true rfl) dX12_cam_99 ⟨Nat.le_of_ble_eq_true rfl, Nat.le_of_ble_eq_true rfl⟩ (fun t H1 locs1 ht hB hk hS => ?_)
  have X : Hx D (tX12 yT) A s H1 locs1 (wX12 hT aT yT q_5) := Hx_after_all X ht hB hS
  clear hk hS ht hB
  generalize H1 = H at X ⊢
  generalize locs1 = locs at X ⊢
  refine lv_aload_n hx hb dX12_cam_102 rfl (lv_at hl 0 rfl) ?_
  refine lv_dup hx hb dX12_cam_103 rfl ?_
  refine va_get (D := D.1) (ci := 12) (v := .int (gI q_5 20)) (C := RX12) (T := TX12) (N := 114) hx hb hts wi_X12 hown X.1 X.2.1 0 rfl rfl 20 (by decide) (hts _ q6_214) (fun _ h9 => h9) (fl_get (by decide)) dX12_cam_104 ?_
  refine lv_iconst (v := (1 : Int32)) hx hb dX12_cam_107 (by decide) ?_
  refine lv_iadd hx hb dX12_cam_108 ?_
  refine va_put (D := D.1) (ci := 12) (v := .int ((gI q_5 20) + (1 : Int32))) (ty := .int) (C := RX12) (T := TX12) (N := 114) hx hb hts wi_X12 tyX12 tyX12_ok nmX12 hown X.1 X.2.1 X.2.2.1 X.2.2.2.1 0 rfl rfl 20 (by decide) (hts _ q6_214) (fun _ h9 => h9) rfl (by decide +kernel) rfl rfl (by rw [List.length_map, List.length_range]; decide) dX12_cam_109 (fun H locs hP hD hS => ?_)
  have X : Hx D (tX12 yT) A s H locs (wX12 hT aT yT (sI q_5 20 ((gI q_5 20) + (1 : Int32)))) := Hx_set X (wG_sI (k := 20) rfl) hP hD hS
  refine lv_aload_n hx hb dX12_cam_112 rfl (lv_at hl 0 rfl) ?_
  refine lv_bipush (v := (61 : Int32)) hx hb dX12_cam_113 (by decide) ?_
  obtain ⟨q_7, hc_8, hF⟩ := bnd_some hF
  refine cV_i (As := [.int (61 : Int32)]) (rest := []) C X (c_X12_need l D hT aT yT (sI q_5 20 ((gI q_5 20) + (1 : Int32))) (61 : Int32) q_7 hc_8 _) (cwV 1 hts (good_V q8_189 q8_191 q0_82 q1_9 q8_192) rfl rfl rfl (by decide +kernel) ⟨Nat.le_of_ble_eq_true rfl, Nat.le_of_ble_eq_true rfl⟩) (va_recv X.1 X.2.1 (ci := 12) (q0 := 0) rfl rfl) X.1 X.2.1 X.2.2.1 (free_all X) hl.1 rfl rfl (Nat.le_of_ble_eq_true rfl) dX12_cam_115 ⟨Nat.le_of_ble_eq_true rfl, Nat.le_of_ble_eq_true rfl⟩ (fun t H1 locs1 ht hB hk hS => ?_)
  have X : Hx D (tX12 yT) A s H1 locs1 (wX12 hT aT yT q_7.2) := Hx_after_all X ht hB hS
  clear hk hS ht hB
  generalize H1 = H at X ⊢
  generalize locs1 = locs at X ⊢
  refine lv_if_ne (tgt := 123) hx hb dX12_cam_118 (by decide) (fun c => ?_) (fun c => ?_)
  · replace hF := iF c hF
    refine lv_iconst (v := (1 : Int32)) hx hb dX12_cam_123 (by decide) ?_
    refine lv_istore_n (lv' := [(2, .int (1 : Int32)), (0, .ref hT), (1, .int v1)]) hx hb dX12_cam_124 rfl hl (by decide) rfl (fun ls hl => ?_)
    exact IH C X (lv_sub hl [1, 2, 0] rfl) hF
  · replace hF := iT c hF
    refine lv_iconst (v := (0 : Int32)) hx hb dX12_cam_121 (by decide) ?_
    have hq := Option.some.inj hF
    subst hq
    exact rt_z (v := (0 : Int32)) C X (by decide) dX12_cam_122
theorem kL_X12_cam (l : Launch) (D : Dx) (hT : Nat) (aT : Nat → Nat) (yT : Nat → ClassId) (n : Nat) : ∀ k, SH_X12_cam l D hT aT yT (L_X12_cam n k)
  | 0 => fun _ _ _ h => by cases h
  | k + 1 => k_X12_cam_125 l D hT aT yT n _ (kL_X12_cam l D hT aT yT n k)
set_option maxHeartbeats 4000000 in
set_option maxRecDepth 100000 in
theorem c_X12_cam (l : Launch) (D : Dx) (hT : Nat) (aT : Nat → Nat) (yT : Nat → ClassId) (n : Nat) (gT : Gs) (q : Int32 × Gs) (hF : f_X12_cam n gT = some q) (sz : Nat) : Met l yX12_cam (ws_ yX12_cam cX12_cam 6 (some .boolean)) R_X12_cam (PC D (tX12 yT) [.ref hT] (wX12 hT aT yT gT) sz) (QI D (va_A (wX12 hT aT yT gT) sz) (wX12 hT aT yT q.2) q.1) 0 0 (va_A (wX12 hT aT yT gT) sz) := by
  refine Met.ofW (cc := cX12_cam) (maxL := 6) (ret := (some .boolean)) (by decide) rfl ?_
  intro p e s m args below meth c s₁ B hml hv
  obtain ⟨rfl, hsz, hP, hK, hD, hN⟩ := hv
  subst hsz
  have C : Cx p s m _ meth c cX12_cam (some .boolean) 6 RX12 lw_all := Cx_of B hml
  have X := Hx_start hP hK hD hN
  obtain ⟨hx, hb, hr, -, hown, hts, hlk⟩ := id C
  generalize va_A (wX12 hT aT yT gT) s.heap.size = A at X ⊢
  have hl := lv_entry ([.ref hT]) (n := 6) (Nat.le_of_ble_eq_true rfl)
  rw [lg_entry_eq]
  generalize (lg_sl ([.ref hT]) ++ List.replicate (6 - (lg_sl ([.ref hT])).length) Slot.unset).toArray = ls at hl ⊢
  have hl : lv_has ls 6 [(0, .ref hT)] := hl
  unfold f_X12_cam at hF
  refine lv_aload_n hx hb dX12_cam_0 rfl (lv_at hl 0 rfl) ?_
  refine lv_dup hx hb dX12_cam_1 rfl ?_
  refine va_get (D := D.1) (ci := 12) (v := .int (gI gT 20)) (C := RX12) (T := TX12) (N := 114) hx hb hts wi_X12 hown X.1 X.2.1 0 rfl rfl 20 (by decide) (hts _ q6_214) (fun _ h9 => h9) (fl_get (by decide)) dX12_cam_2 ?_
  refine lv_iconst (v := (1 : Int32)) hx hb dX12_cam_5 (by decide) ?_
  refine lv_iadd hx hb dX12_cam_6 ?_
  refine va_put (D := D.1) (ci := 12) (v := .int ((gI gT 20) + (1 : Int32))) (ty := .int) (C := RX12) (T := TX12) (N := 114) hx hb hts wi_X12 tyX12 tyX12_ok nmX12 hown X.1 X.2.1 X.2.2.1 X.2.2.2.1 0 rfl rfl 20 (by decide) (hts _ q6_214) (fun _ h9 => h9) rfl (by decide +kernel) rfl rfl (by rw [List.length_map, List.length_range]; decide) dX12_cam_7 (fun H locs hP hD hS => ?_)
  have X : Hx D (tX12 yT) A s H locs (wX12 hT aT yT (sI gT 20 ((gI gT 20) + (1 : Int32)))) := Hx_set X (wG_sI (k := 20) rfl) hP hD hS
  refine lv_aload_n hx hb dX12_cam_10 rfl (lv_at hl 0 rfl) ?_
  refine va_get (D := D.1) (ci := 12) (v := .ref (aT 9)) (C := RX12) (T := TX12) (N := 114) hx hb hts wi_X12 hown X.1 X.2.1 0 rfl rfl 9 (by decide) (hts _ q6_203) (fun _ h9 => h9) (fl_get (by decide)) dX12_cam_11 ?_
  refine lv_aload_n hx hb dX12_cam_14 rfl (lv_at hl 0 rfl) ?_
  refine va_get (D := D.1) (ci := 12) (v := .int ((gI gT 20) + (1 : Int32))) (C := RX12) (T := TX12) (N := 114) hx hb hts wi_X12 hown X.1 X.2.1 0 rfl rfl 20 (by decide) (hts _ q6_214) (fun _ h9 => h9) (fl_get (by decide)) dX12_cam_15 ?_
  obtain ⟨h_1, hF⟩ := grd_some hF
  refine va_iald (D := D.1) (f := gIA gT 9) hx hb X.1 X.2.1 4 3 rfl rfl (inB_ok h_1) dX12_cam_18 ?_
  refine lv_iconst (v := (2 : Int32)) hx hb dX12_cam_19 (by decide) ?_
  refine lv_icmp_eq (tgt := 28) hx hb dX12_cam_20 (by decide) (fun c => ?_) (fun c => ?_)
  · replace hF := iT c hF
    refine lv_aload_n hx hb dX12_cam_28 rfl (lv_at hl 0 rfl) ?_
    refine va_get (D := D.1) (ci := 12) (v := .int (gI gT 35)) (C := RX12) (T := TX12) (N := 114) hx hb hts wi_X12 hown X.1 X.2.1 0 rfl rfl 35 (by decide) (hts _ q6_229) (fun _ h9 => h9) (fl_get (by decide)) dX12_cam_29 ?_
    refine lv_istore_n (lv' := [(1, .int (gI gT 35)), (0, .ref hT)]) hx hb dX12_cam_32 rfl hl (by decide) rfl (fun ls hl => ?_)
    refine lv_aload_n hx hb dX12_cam_33 rfl (lv_at hl 1 rfl) ?_
    refine lv_dup hx hb dX12_cam_34 rfl ?_
    refine va_get (D := D.1) (ci := 12) (v := .int (gI gT 35)) (C := RX12) (T := TX12) (N := 114) hx hb hts wi_X12 hown X.1 X.2.1 0 rfl rfl 35 (by decide) (hts _ q6_229) (fun _ h9 => h9) (fl_get (by decide)) dX12_cam_35 ?_
    refine lv_iconst (v := (1 : Int32)) hx hb dX12_cam_38 (by decide) ?_
    refine lv_iadd hx hb dX12_cam_39 ?_
    refine va_put (D := D.1) (ci := 12) (v := .int ((gI gT 35) + (1 : Int32))) (ty := .int) (C := RX12) (T := TX12) (N := 114) hx hb hts wi_X12 tyX12 tyX12_ok nmX12 hown X.1 X.2.1 X.2.2.1 X.2.2.2.1 0 rfl rfl 35 (by decide) (hts _ q6_229) (fun _ h9 => h9) rfl (by decide +kernel) rfl rfl (by rw [List.length_map, List.length_range]; decide) dX12_cam_40 (fun H locs hP hD hS => ?_)
    have X : Hx D (tX12 yT) A s H locs (wX12 hT aT yT (sI (sI gT 20 ((gI gT 20) + (1 : Int32))) 35 ((gI gT 35) + (1 : Int32)))) := Hx_set X (wG_sI (k := 35) rfl) hP hD hS
    refine lv_aload_n hx hb dX12_cam_43 rfl (lv_at hl 1 rfl) ?_
    refine va_get (D := D.1) (ci := 12) (v := .int ((gI gT 35) + (1 : Int32))) (C := RX12) (T := TX12) (N := 114) hx hb hts wi_X12 hown X.1 X.2.1 0 rfl rfl 35 (by decide) (hts _ q6_229) (fun _ h9 => h9) (fl_get (by decide)) dX12_cam_44 ?_
    refine lv_bipush (v := (9 : Int32)) hx hb dX12_cam_47 (by decide) ?_
    refine lv_icmp_ne (tgt := 65) hx hb dX12_cam_49 (by decide) (fun c => ?_) (fun c => ?_)
    · replace hF := iF c hF
      exact (k_X12_cam_65 l D hT aT yT n (L_X12_cam n n) (kL_X12_cam l D hT aT yT n n)) C X (lv_sub hl [1, 0] rfl) hF
    · replace hF := iT c hF
      refine lv_aload_n hx hb dX12_cam_52 rfl (lv_at hl 1 rfl) ?_
      refine lv_aload_n hx hb dX12_cam_53 rfl (lv_at hl 1 rfl) ?_
      refine va_get (D := D.1) (ci := 12) (v := .ref (aT 10)) (C := RX12) (T := TX12) (N := 114) hx hb hts wi_X12 hown X.1 X.2.1 0 rfl rfl 10 (by decide) (hts _ q6_204) (fun _ h9 => h9) (fl_get (by decide)) dX12_cam_54 ?_
      refine lv_aload_n hx hb dX12_cam_57 rfl (lv_at hl 1 rfl) ?_
      refine va_get (D := D.1) (ci := 12) (v := .int ((gI gT 20) + (1 : Int32))) (C := RX12) (T := TX12) (N := 114) hx hb hts wi_X12 hown X.1 X.2.1 0 rfl rfl 20 (by decide) (hts _ q6_214) (fun _ h9 => h9) (fl_get (by decide)) dX12_cam_58 ?_
      obtain ⟨h_29, hF⟩ := grd_some hF
      refine va_iald (D := D.1) (f := gIA gT 10) hx hb X.1 X.2.1 5 4 rfl rfl (inB_ok h_29) dX12_cam_61 ?_
      obtain ⟨q_30, hc_31, hF⟩ := bnd_some hF
      refine cV_v (As := [.int (gIA gT 10 ((gI gT 20) + (1 : Int32)).toNatClampNeg)]) (rest := []) C X (c_X12_much l D hT aT yT (sI (sI gT 20 ((gI gT 20) + (1 : Int32))) 35 ((gI gT 35) + (1 : Int32))) (gIA gT 10 ((gI gT 20) + (1 : Int32)).toNatClampNeg) q_30 hc_31 _) (cwV 1 hts (good_V q8_181 q8_183 q0_80 q1_9 q8_184) rfl rfl rfl (by decide +kernel) ⟨Nat.le_of_ble_eq_true rfl, Nat.le_of_ble_eq_true rfl⟩) (va_recv X.1 X.2.1 (ci := 12) (q0 := 0) rfl rfl) X.1 X.2.1 X.2.2.1 (free_all X) hl.1 rfl rfl (Nat.le_of_ble_eq_true rfl) dX12_cam_62 ⟨Nat.le_of_ble_eq_true rfl, Nat.le_of_ble_eq_true rfl⟩ (fun t H1 locs1 ht hB hk hS => ?_)
      have X : Hx D (tX12 yT) A s H1 locs1 (wX12 hT aT yT q_30) := Hx_after_all X ht hB hS
      clear hk hS ht hB
      generalize H1 = H at X ⊢
      generalize locs1 = locs at X ⊢
      exact (k_X12_cam_65 l D hT aT yT n (L_X12_cam n n) (kL_X12_cam l D hT aT yT n n)) C X (lv_sub hl [1, 0] rfl) hF
  · replace hF := iF c hF
    refine lv_aload_n hx hb dX12_cam_23 rfl (lv_at hl 0 rfl) ?_
    obtain ⟨q_32, hc_33, hF⟩ := bnd_some hF
    refine cV_i (As := []) (rest := []) C X (c_X12_cannot l D hT aT yT (sI gT 20 ((gI gT 20) + (1 : Int32))) q_32 hc_33 _) (cwV 0 hts (good_V q8_173 q8_175 q0_78 q1_9 q8_176) rfl rfl rfl (by decide +kernel) ⟨Nat.le_of_ble_eq_true rfl, Nat.le_of_ble_eq_true rfl⟩) (va_recv X.1 X.2.1 (ci := 12) (q0 := 0) rfl rfl) X.1 X.2.1 X.2.2.1 (free_all X) hl.1 rfl rfl (Nat.le_of_ble_eq_true rfl) dX12_cam_24 ⟨Nat.le_of_ble_eq_true rfl, Nat.le_of_ble_eq_true rfl⟩ (fun t H1 locs1 ht hB hk hS => ?_)
    have X : Hx D (tX12 yT) A s H1 locs1 (wX12 hT aT yT q_32.2) := Hx_after_all X ht hB hS
    clear hk hS ht hB
    generalize H1 = H at X ⊢
    generalize locs1 = locs at X ⊢
    obtain ⟨h_34, hF⟩ := grd_some hF
    have hq := Option.some.inj hF
    subst hq
    exact rt_z (v := q_32.1) C X (zB_n h_34) dX12_cam_27

/-! ### X12_begins -/
theorem dX12_begins_0 : decode cX12_begins 0 = .ok (.aload_n 0, 1) := by decide +kernel
theorem dX12_begins_1 : decode cX12_begins 1 = .ok (.invokevirtual 594, 3) := by decide +kernel
theorem dX12_begins_4 : decode cX12_begins 4 = .ok (.aload_n 0, 1) := by decide +kernel
theorem dX12_begins_5 : decode cX12_begins 5 = .ok (.iconst 0, 1) := by decide +kernel
theorem dX12_begins_6 : decode cX12_begins 6 = .ok (.putfield 116, 3) := by decide +kernel
theorem dX12_begins_9 : decode cX12_begins 9 = .ok (.aload_n 0, 1) := by decide +kernel
theorem dX12_begins_10 : decode cX12_begins 10 = .ok (.sipush 2000, 3) := by decide +kernel
theorem dX12_begins_13 : decode cX12_begins 13 = .ok (.putfield 113, 3) := by decide +kernel
theorem dX12_begins_16 : decode cX12_begins 16 = .ok (.aload_n 0, 1) := by decide +kernel
theorem dX12_begins_17 : decode cX12_begins 17 = .ok (.iconst (-1), 1) := by decide +kernel
theorem dX12_begins_18 : decode cX12_begins 18 = .ok (.putfield 125, 3) := by decide +kernel
theorem dX12_begins_21 : decode cX12_begins 21 = .ok (.aload_n 0, 1) := by decide +kernel
theorem dX12_begins_22 : decode cX12_begins 22 = .ok (.iconst 0, 1) := by decide +kernel
theorem dX12_begins_23 : decode cX12_begins 23 = .ok (.putfield 128, 3) := by decide +kernel
theorem dX12_begins_26 : decode cX12_begins 26 = .ok (.aload_n 0, 1) := by decide +kernel
theorem dX12_begins_27 : decode cX12_begins 27 = .ok (.iconst 0, 1) := by decide +kernel
theorem dX12_begins_28 : decode cX12_begins 28 = .ok (.putfield 131, 3) := by decide +kernel
theorem dX12_begins_31 : decode cX12_begins 31 = .ok (.aload_n 0, 1) := by decide +kernel
theorem dX12_begins_32 : decode cX12_begins 32 = .ok (.iconst 0, 1) := by decide +kernel
theorem dX12_begins_33 : decode cX12_begins 33 = .ok (.putfield 138, 3) := by decide +kernel
theorem dX12_begins_36 : decode cX12_begins 36 = .ok (.aload_n 0, 1) := by decide +kernel
theorem dX12_begins_37 : decode cX12_begins 37 = .ok (.iconst 0, 1) := by decide +kernel
theorem dX12_begins_38 : decode cX12_begins 38 = .ok (.putfield 119, 3) := by decide +kernel
theorem dX12_begins_41 : decode cX12_begins 41 = .ok (.return_, 1) := by decide +kernel
abbrev R_X12_begins : Room := ({ frames := 7, cells := 0, slots := 0, locals := 192 } : Room)
def f_X12_begins (n : Nat) (gT : Gs) : Option (Gs) :=
  bnd (f_X12_scan n gT) (fun q_1 => some (sI (sI (sI (sI (sI (sI (sI q_1 20 (0 : Int32)) 19 (2000 : Int32)) 23 (-1 : Int32)) 24 (0 : Int32)) 25 (0 : Int32)) 27 (0 : Int32)) 21 (0 : Int32)))
set_option maxHeartbeats 4000000 in
set_option maxRecDepth 100000 in
theorem c_X12_begins (l : Launch) (D : Dx) (hT : Nat) (aT : Nat → Nat) (yT : Nat → ClassId) (n : Nat) (gT : Gs) (q : Gs) (hF : f_X12_begins n gT = some q) (sz : Nat) : Met l yX12_begins (ws_ yX12_begins cX12_begins 1 none) R_X12_begins (PC D (tX12 yT) [.ref hT] (wX12 hT aT yT gT) sz) (QV D (va_A (wX12 hT aT yT gT) sz) (wX12 hT aT yT q)) 0 0 (va_A (wX12 hT aT yT gT) sz) := by
  refine Met.ofW (cc := cX12_begins) (maxL := 1) (ret := none) (by decide) rfl ?_
  intro p e s m args below meth c s₁ B hml hv
  obtain ⟨rfl, hsz, hP, hK, hD, hN⟩ := hv
  subst hsz
  have C : Cx p s m _ meth c cX12_begins none 1 RX12 lw_all := Cx_of B hml
  have X := Hx_start hP hK hD hN
  obtain ⟨hx, hb, hr, -, hown, hts, hlk⟩ := id C
  generalize va_A (wX12 hT aT yT gT) s.heap.size = A at X ⊢
  have hl := lv_entry ([.ref hT]) (n := 1) (Nat.le_of_ble_eq_true rfl)
  rw [lg_entry_eq]
  generalize (lg_sl ([.ref hT]) ++ List.replicate (1 - (lg_sl ([.ref hT])).length) Slot.unset).toArray = ls at hl ⊢
  have hl : lv_has ls 1 [(0, .ref hT)] := hl
  unfold f_X12_begins at hF
  refine lv_aload_n hx hb dX12_begins_0 rfl (lv_at hl 0 rfl) ?_
  obtain ⟨q_1, hc_2, hF⟩ := bnd_some hF
  refine cV_v (As := []) (rest := []) C X (c_X12_scan l D hT aT yT n gT q_1 hc_2 _) (cwV 0 hts (good_V q8_73 q8_75 q0_66 q1_9 q8_76) rfl rfl rfl (by decide +kernel) ⟨Nat.le_of_ble_eq_true rfl, Nat.le_of_ble_eq_true rfl⟩) (va_recv X.1 X.2.1 (ci := 12) (q0 := 0) rfl rfl) X.1 X.2.1 X.2.2.1 (free_all X) hl.1 rfl rfl (Nat.le_of_ble_eq_true rfl) dX12_begins_1 ⟨Nat.le_of_ble_eq_true rfl, Nat.le_of_ble_eq_true rfl⟩ (fun t H1 locs1 ht hB hk hS => ?_)
  have X : Hx D (tX12 yT) A s H1 locs1 (wX12 hT aT yT q_1) := Hx_after_all X ht hB hS
  clear hk hS ht hB
  generalize H1 = H at X ⊢
  generalize locs1 = locs at X ⊢
  refine lv_aload_n hx hb dX12_begins_4 rfl (lv_at hl 0 rfl) ?_
  refine lv_iconst (v := (0 : Int32)) hx hb dX12_begins_5 (by decide) ?_
  refine va_put (D := D.1) (ci := 12) (v := .int (0 : Int32)) (ty := .int) (C := RX12) (T := TX12) (N := 114) hx hb hts wi_X12 tyX12 tyX12_ok nmX12 hown X.1 X.2.1 X.2.2.1 X.2.2.2.1 0 rfl rfl 20 (by decide) (hts _ q6_214) (fun _ h9 => h9) rfl (by decide +kernel) rfl rfl (by rw [List.length_map, List.length_range]; decide) dX12_begins_6 (fun H locs hP hD hS => ?_)
  have X : Hx D (tX12 yT) A s H locs (wX12 hT aT yT (sI q_1 20 (0 : Int32))) := Hx_set X (wG_sI (k := 20) rfl) hP hD hS
  refine lv_aload_n hx hb dX12_begins_9 rfl (lv_at hl 0 rfl) ?_
  refine lv_sipush (v := (2000 : Int32)) hx hb dX12_begins_10 (by decide) ?_
  refine va_put (D := D.1) (ci := 12) (v := .int (2000 : Int32)) (ty := .int) (C := RX12) (T := TX12) (N := 114) hx hb hts wi_X12 tyX12 tyX12_ok nmX12 hown X.1 X.2.1 X.2.2.1 X.2.2.2.1 0 rfl rfl 19 (by decide) (hts _ q6_213) (fun _ h9 => h9) rfl (by decide +kernel) rfl rfl (by rw [List.length_map, List.length_range]; decide) dX12_begins_13 (fun H locs hP hD hS => ?_)
  have X : Hx D (tX12 yT) A s H locs (wX12 hT aT yT (sI (sI q_1 20 (0 : Int32)) 19 (2000 : Int32))) := Hx_set X (wG_sI (k := 19) rfl) hP hD hS
  refine lv_aload_n hx hb dX12_begins_16 rfl (lv_at hl 0 rfl) ?_
  refine lv_iconst (v := (-1 : Int32)) hx hb dX12_begins_17 (by decide) ?_
  refine va_put (D := D.1) (ci := 12) (v := .int (-1 : Int32)) (ty := .int) (C := RX12) (T := TX12) (N := 114) hx hb hts wi_X12 tyX12 tyX12_ok nmX12 hown X.1 X.2.1 X.2.2.1 X.2.2.2.1 0 rfl rfl 23 (by decide) (hts _ q6_217) (fun _ h9 => h9) rfl (by decide +kernel) rfl rfl (by rw [List.length_map, List.length_range]; decide) dX12_begins_18 (fun H locs hP hD hS => ?_)
  have X : Hx D (tX12 yT) A s H locs (wX12 hT aT yT (sI (sI (sI q_1 20 (0 : Int32)) 19 (2000 : Int32)) 23 (-1 : Int32))) := Hx_set X (wG_sI (k := 23) rfl) hP hD hS
  refine lv_aload_n hx hb dX12_begins_21 rfl (lv_at hl 0 rfl) ?_
  refine lv_iconst (v := (0 : Int32)) hx hb dX12_begins_22 (by decide) ?_
  refine va_put (D := D.1) (ci := 12) (v := .int (0 : Int32)) (ty := .int) (C := RX12) (T := TX12) (N := 114) hx hb hts wi_X12 tyX12 tyX12_ok nmX12 hown X.1 X.2.1 X.2.2.1 X.2.2.2.1 0 rfl rfl 24 (by decide) (hts _ q6_218) (fun _ h9 => h9) rfl (by decide +kernel) rfl rfl (by rw [List.length_map, List.length_range]; decide) dX12_begins_23 (fun H locs hP hD hS => ?_)
  have X : Hx D (tX12 yT) A s H locs (wX12 hT aT yT (sI (sI (sI (sI q_1 20 (0 : Int32)) 19 (2000 : Int32)) 23 (-1 : Int32)) 24 (0 : Int32))) := Hx_set X (wG_sI (k := 24) rfl) hP hD hS
  refine lv_aload_n hx hb dX12_begins_26 rfl (lv_at hl 0 rfl) ?_
  refine lv_iconst (v := (0 : Int32)) hx hb dX12_begins_27 (by decide) ?_
  refine va_put (D := D.1) (ci := 12) (v := .int (0 : Int32)) (ty := .int) (C := RX12) (T := TX12) (N := 114) hx hb hts wi_X12 tyX12 tyX12_ok nmX12 hown X.1 X.2.1 X.2.2.1 X.2.2.2.1 0 rfl rfl 25 (by decide) (hts _ q6_219) (fun _ h9 => h9) rfl (by decide +kernel) rfl rfl (by rw [List.length_map, List.length_range]; decide) dX12_begins_28 (fun H locs hP hD hS => ?_)
  have X : Hx D (tX12 yT) A s H locs (wX12 hT aT yT (sI (sI (sI (sI (sI q_1 20 (0 : Int32)) 19 (2000 : Int32)) 23 (-1 : Int32)) 24 (0 : Int32)) 25 (0 : Int32))) := Hx_set X (wG_sI (k := 25) rfl) hP hD hS
  refine lv_aload_n hx hb dX12_begins_31 rfl (lv_at hl 0 rfl) ?_
  refine lv_iconst (v := (0 : Int32)) hx hb dX12_begins_32 (by decide) ?_
  refine va_put (D := D.1) (ci := 12) (v := .int (0 : Int32)) (ty := .int) (C := RX12) (T := TX12) (N := 114) hx hb hts wi_X12 tyX12 tyX12_ok nmX12 hown X.1 X.2.1 X.2.2.1 X.2.2.2.1 0 rfl rfl 27 (by decide) (hts _ q6_221) (fun _ h9 => h9) rfl (by decide +kernel) rfl rfl (by rw [List.length_map, List.length_range]; decide) dX12_begins_33 (fun H locs hP hD hS => ?_)
  have X : Hx D (tX12 yT) A s H locs (wX12 hT aT yT (sI (sI (sI (sI (sI (sI q_1 20 (0 : Int32)) 19 (2000 : Int32)) 23 (-1 : Int32)) 24 (0 : Int32)) 25 (0 : Int32)) 27 (0 : Int32))) := Hx_set X (wG_sI (k := 27) rfl) hP hD hS
  refine lv_aload_n hx hb dX12_begins_36 rfl (lv_at hl 0 rfl) ?_
  refine lv_iconst (v := (0 : Int32)) hx hb dX12_begins_37 (by decide) ?_
  refine va_put (D := D.1) (ci := 12) (v := .int (0 : Int32)) (ty := .int) (C := RX12) (T := TX12) (N := 114) hx hb hts wi_X12 tyX12 tyX12_ok nmX12 hown X.1 X.2.1 X.2.2.1 X.2.2.2.1 0 rfl rfl 21 (by decide) (hts _ q6_215) (fun _ h9 => h9) rfl (by decide +kernel) rfl rfl (by rw [List.length_map, List.length_range]; decide) dX12_begins_38 (fun H locs hP hD hS => ?_)
  have X : Hx D (tX12 yT) A s H locs (wX12 hT aT yT (sI (sI (sI (sI (sI (sI (sI q_1 20 (0 : Int32)) 19 (2000 : Int32)) 23 (-1 : Int32)) 24 (0 : Int32)) 25 (0 : Int32)) 27 (0 : Int32)) 21 (0 : Int32))) := Hx_set X (wG_sI (k := 21) rfl) hP hD hS
  have hq := Option.some.inj hF
  subst hq
  exact rt_v C X dX12_begins_41

/-! ### X12_rowOf__0a37 -/
theorem dX12_rowOf_0 : decode cX12_rowOf 0 = .ok (.iconst 0, 1) := by decide +kernel
theorem dX12_rowOf_1 : decode cX12_rowOf 1 = .ok (.istore 4, 2) := by decide +kernel
theorem dX12_rowOf_3 : decode cX12_rowOf 3 = .ok (.iload 4, 2) := by decide +kernel
theorem dX12_rowOf_5 : decode cX12_rowOf 5 = .ok (.iload_n 2, 1) := by decide +kernel
theorem dX12_rowOf_6 : decode cX12_rowOf 6 = .ok (.if_icmp .ge 21, 3) := by decide +kernel
theorem dX12_rowOf_9 : decode cX12_rowOf 9 = .ok (.aload_n 0, 1) := by decide +kernel
theorem dX12_rowOf_10 : decode cX12_rowOf 10 = .ok (.aload_n 1, 1) := by decide +kernel
theorem dX12_rowOf_11 : decode cX12_rowOf 11 = .ok (.iload 4, 2) := by decide +kernel
theorem dX12_rowOf_13 : decode cX12_rowOf 13 = .ok (.iaload, 1) := by decide +kernel
theorem dX12_rowOf_14 : decode cX12_rowOf 14 = .ok (.iload_n 3, 1) := by decide +kernel
theorem dX12_rowOf_15 : decode cX12_rowOf 15 = .ok (.invokevirtual 606, 3) := by decide +kernel
theorem dX12_rowOf_18 : decode cX12_rowOf 18 = .ok (.ifCond .ne 9, 3) := by decide +kernel
theorem dX12_rowOf_21 : decode cX12_rowOf 21 = .ok (.iinc 4 1, 3) := by decide +kernel
theorem dX12_rowOf_24 : decode cX12_rowOf 24 = .ok (.goto (-21), 3) := by decide +kernel
theorem dX12_rowOf_27 : decode cX12_rowOf 27 = .ok (.iload 4, 2) := by decide +kernel
theorem dX12_rowOf_29 : decode cX12_rowOf 29 = .ok (.ireturn, 1) := by decide +kernel
abbrev R_X12_rowOf__0a37 : Room := ({ frames := 1, cells := 0, slots := 0, locals := 25 } : Room)
def h_X12_rowOf__0a37_3 (n : Nat) (rec : (Gs → Int32 → Int32 → Int32 → Option (Int32))) (gT : Gs) (v2 : Int32) (v3 : Int32) (v4 : Int32) : Option (Int32) :=
  if v2 ≤ v4 then (some v4) else (grd (inB v4 400) (bnd (f_X12_alike n gT (gIA gT 37 v4.toNatClampNeg) v3) (fun q_2 => if q_2 = 0 then (rec gT v2 v3 (v4 + (1 : Int32))) else (some v4))))
def L_X12_rowOf__0a37 (n : Nat) : Nat → (Gs → Int32 → Int32 → Int32 → Option (Int32))
  | 0 => ((fun _ _ _ _ => none))
  | k + 1 => (h_X12_rowOf__0a37_3 n (L_X12_rowOf__0a37 n k))
def f_X12_rowOf__0a37 (n : Nat) (gT : Gs) (x1 : Int32) (x2 : Int32) : Option (Int32) :=
  (L_X12_rowOf__0a37 n n) gT x1 x2 (0 : Int32)
def S_X12_rowOf__0a37_3 (l : Launch) (D : Dx) (hT : Nat) (aT : Nat → Nat) (yT : Nat → ClassId) (fn : Gs → Int32 → Int32 → Int32 → Option (Int32)) : Prop :=
  ∀ {p : Program} {e : Env} {s : State} {m : MethodId} {args : Array Value} {below : List Frame} {meth : Method} {c : Code} {H : Heap} {locs : List Loc} {A : Nat → Prop} {ls : Array Slot} {gT : Gs} {v2 : Int32} {v3 : Int32} {v4 : Int32} {q : Int32}, Cx p s m args meth c cX12_rowOf (some .int) 5 RX12 lw_all → Hx D (tX12 yT) A s H locs (wX12 hT aT yT gT) → lv_has ls 5 [(0, .ref hT), (1, .ref (aT 37)), (2, .int v2), (3, .int v3), (4, .int v4)] → fn gT v2 v3 v4 = some q → W p l e R_X12_rowOf__0a37 s m args below meth c H locs 0 0 (MQ below (QI D A (wX12 hT aT yT gT) q) args s 0 0 A) (F0 m 3 ls [])
def SH_X12_rowOf__0a37 (l : Launch) (D : Dx) (hT : Nat) (aT : Nat → Nat) (yT : Nat → ClassId) (rec : (Gs → Int32 → Int32 → Int32 → Option (Int32))) : Prop := S_X12_rowOf__0a37_3 l D hT aT yT rec
set_option maxHeartbeats 4000000 in
set_option maxRecDepth 100000 in
theorem k_X12_rowOf__0a37_3 (l : Launch) (D : Dx) (hT : Nat) (aT : Nat → Nat) (yT : Nat → ClassId) (n : Nat) (rec : (Gs → Int32 → Int32 → Int32 → Option (Int32))) (IH : SH_X12_rowOf__0a37 l D hT aT yT rec) : S_X12_rowOf__0a37_3 l D hT aT yT (h_X12_rowOf__0a37_3 n rec) := by
  intro p e s m args below meth c H locs A ls gT v2 v3 v4 q C X hl hF
  obtain ⟨hx, hb, hr, hml, hown, hts, hlk⟩ := id C
  unfold h_X12_rowOf__0a37_3 at hF
  refine lv_iload hx hb dX12_rowOf_3 (lv_at hl 4 rfl) ?_
  refine lv_iload_n hx hb dX12_rowOf_5 rfl (lv_at hl 2 rfl) ?_
  refine lv_icmp_ge (tgt := 27) hx hb dX12_rowOf_6 (by decide) (fun c => ?_) (fun c => ?_)
  · replace hF := iT c hF
    refine lv_iload hx hb dX12_rowOf_27 (lv_at hl 4 rfl) ?_
    have hq := Option.some.inj hF
    subst hq
    exact rt_i C X dX12_rowOf_29
  · replace hF := iF c hF
    refine lv_aload_n hx hb dX12_rowOf_9 rfl (lv_at hl 0 rfl) ?_
    refine lv_aload_n hx hb dX12_rowOf_10 rfl (lv_at hl 1 rfl) ?_
    refine lv_iload hx hb dX12_rowOf_11 (lv_at hl 4 rfl) ?_
    obtain ⟨h_1, hF⟩ := grd_some hF
    refine va_iald (D := D.1) (f := gIA gT 37) hx hb X.1 X.2.1 19 18 rfl rfl (inB_ok h_1) dX12_rowOf_13 ?_
    refine lv_iload_n hx hb dX12_rowOf_14 rfl (lv_at hl 3 rfl) ?_
    obtain ⟨q_2, hc_3, hF⟩ := bnd_some hF
    refine cV_i (As := [.int (gIA gT 37 v4.toNatClampNeg), .int v3]) (rest := []) C X (c_X12_alike l D hT aT yT n gT (gIA gT 37 v4.toNatClampNeg) v3 q_2 hc_3 _) (cwV 2 hts (good_V q9_20 q9_22 q0_99 q1_9 q9_23) rfl rfl rfl (by decide +kernel) ⟨Nat.le_of_ble_eq_true rfl, Nat.le_of_ble_eq_true rfl⟩) (va_recv X.1 X.2.1 (ci := 12) (q0 := 0) rfl rfl) X.1 X.2.1 X.2.2.1 (free_all X) hl.1 rfl rfl (Nat.le_of_ble_eq_true rfl) dX12_rowOf_15 ⟨Nat.le_of_ble_eq_true rfl, Nat.le_of_ble_eq_true rfl⟩ (fun t H1 locs1 ht hB hk hS => ?_)
    have X : Hx D (tX12 yT) A s H1 locs1 (wX12 hT aT yT gT) := Hx_after_all X ht hB hS
    clear hk hS ht hB
    generalize H1 = H at X ⊢
    generalize locs1 = locs at X ⊢
    refine lv_if_ne (tgt := 27) hx hb dX12_rowOf_18 (by decide) (fun c => ?_) (fun c => ?_)
    · replace hF := iF c hF
      refine lv_iload hx hb dX12_rowOf_27 (lv_at hl 4 rfl) ?_
      have hq := Option.some.inj hF
      subst hq
      exact rt_i C X dX12_rowOf_29
    · replace hF := iT c hF
      refine lv_iinc (v := v4 + (1 : Int32)) (lv' := [(4, .int (v4 + (1 : Int32))), (0, .ref hT), (1, .ref (aT 37)), (2, .int v2), (3, .int v3)]) hx hb dX12_rowOf_21 hl (k := 4) rfl rfl (by decide) rfl (fun ls hl => ?_)
      refine lv_goto (tgt := 3) hx hb dX12_rowOf_24 (by decide) ?_
      exact IH C X (lv_sub hl [1, 2, 3, 4, 0] rfl) hF
theorem kL_X12_rowOf__0a37 (l : Launch) (D : Dx) (hT : Nat) (aT : Nat → Nat) (yT : Nat → ClassId) (n : Nat) : ∀ k, SH_X12_rowOf__0a37 l D hT aT yT (L_X12_rowOf__0a37 n k)
  | 0 => fun _ _ _ h => by cases h
  | k + 1 => k_X12_rowOf__0a37_3 l D hT aT yT n _ (kL_X12_rowOf__0a37 l D hT aT yT n k)
set_option maxHeartbeats 4000000 in
set_option maxRecDepth 100000 in
theorem c_X12_rowOf__0a37 (l : Launch) (D : Dx) (hT : Nat) (aT : Nat → Nat) (yT : Nat → ClassId) (n : Nat) (gT : Gs) (x1 : Int32) (x2 : Int32) (q : Int32) (hF : f_X12_rowOf__0a37 n gT x1 x2 = some q) (sz : Nat) : Met l yX12_rowOf (ws_ yX12_rowOf cX12_rowOf 5 (some .int)) R_X12_rowOf__0a37 (PC D (tX12 yT) [.ref hT, .ref (aT 37), .int x1, .int x2] (wX12 hT aT yT gT) sz) (QI D (va_A (wX12 hT aT yT gT) sz) (wX12 hT aT yT gT) q) 0 0 (va_A (wX12 hT aT yT gT) sz) := by
  refine Met.ofW (cc := cX12_rowOf) (maxL := 5) (ret := (some .int)) (by decide) rfl ?_
  intro p e s m args below meth c s₁ B hml hv
  obtain ⟨rfl, hsz, hP, hK, hD, hN⟩ := hv
  subst hsz
  have C : Cx p s m _ meth c cX12_rowOf (some .int) 5 RX12 lw_all := Cx_of B hml
  have X := Hx_start hP hK hD hN
  obtain ⟨hx, hb, hr, -, hown, hts, hlk⟩ := id C
  generalize va_A (wX12 hT aT yT gT) s.heap.size = A at X ⊢
  have hl := lv_entry ([.ref hT, .ref (aT 37), .int x1, .int x2]) (n := 5) (Nat.le_of_ble_eq_true rfl)
  rw [lg_entry_eq]
  generalize (lg_sl ([.ref hT, .ref (aT 37), .int x1, .int x2]) ++ List.replicate (5 - (lg_sl ([.ref hT, .ref (aT 37), .int x1, .int x2])).length) Slot.unset).toArray = ls at hl ⊢
  have hl : lv_has ls 5 [(0, .ref hT), (1, .ref (aT 37)), (2, .int x1), (3, .int x2)] := hl
  unfold f_X12_rowOf__0a37 at hF
  refine lv_iconst (v := (0 : Int32)) hx hb dX12_rowOf_0 (by decide) ?_
  refine lv_istore (lv' := [(4, .int (0 : Int32)), (0, .ref hT), (1, .ref (aT 37)), (2, .int x1), (3, .int x2)]) hx hb dX12_rowOf_1 hl (by decide) rfl (fun ls hl => ?_)
  exact (kL_X12_rowOf__0a37 l D hT aT yT n n) C X (lv_sub hl [1, 2, 3, 4, 0] rfl) hF

/-! ### X12_rowOf__0a53 -/
abbrev R_X12_rowOf__0a53 : Room := ({ frames := 1, cells := 0, slots := 0, locals := 25 } : Room)
def h_X12_rowOf__0a53_3 (n : Nat) (rec : (Gs → Int32 → Int32 → Int32 → Option (Int32))) (gT : Gs) (v2 : Int32) (v3 : Int32) (v4 : Int32) : Option (Int32) :=
  if v2 ≤ v4 then (some v4) else (grd (inB v4 400) (bnd (f_X12_alike n gT (gIA gT 53 v4.toNatClampNeg) v3) (fun q_2 => if q_2 = 0 then (rec gT v2 v3 (v4 + (1 : Int32))) else (some v4))))
def L_X12_rowOf__0a53 (n : Nat) : Nat → (Gs → Int32 → Int32 → Int32 → Option (Int32))
  | 0 => ((fun _ _ _ _ => none))
  | k + 1 => (h_X12_rowOf__0a53_3 n (L_X12_rowOf__0a53 n k))
def f_X12_rowOf__0a53 (n : Nat) (gT : Gs) (x1 : Int32) (x2 : Int32) : Option (Int32) :=
  (L_X12_rowOf__0a53 n n) gT x1 x2 (0 : Int32)
def S_X12_rowOf__0a53_3 (l : Launch) (D : Dx) (hT : Nat) (aT : Nat → Nat) (yT : Nat → ClassId) (fn : Gs → Int32 → Int32 → Int32 → Option (Int32)) : Prop :=
  ∀ {p : Program} {e : Env} {s : State} {m : MethodId} {args : Array Value} {below : List Frame} {meth : Method} {c : Code} {H : Heap} {locs : List Loc} {A : Nat → Prop} {ls : Array Slot} {gT : Gs} {v2 : Int32} {v3 : Int32} {v4 : Int32} {q : Int32}, Cx p s m args meth c cX12_rowOf (some .int) 5 RX12 lw_all → Hx D (tX12 yT) A s H locs (wX12 hT aT yT gT) → lv_has ls 5 [(0, .ref hT), (1, .ref (aT 53)), (2, .int v2), (3, .int v3), (4, .int v4)] → fn gT v2 v3 v4 = some q → W p l e R_X12_rowOf__0a53 s m args below meth c H locs 0 0 (MQ below (QI D A (wX12 hT aT yT gT) q) args s 0 0 A) (F0 m 3 ls [])
def SH_X12_rowOf__0a53 (l : Launch) (D : Dx) (hT : Nat) (aT : Nat → Nat) (yT : Nat → ClassId) (rec : (Gs → Int32 → Int32 → Int32 → Option (Int32))) : Prop := S_X12_rowOf__0a53_3 l D hT aT yT rec
set_option maxHeartbeats 4000000 in
set_option maxRecDepth 100000 in
theorem k_X12_rowOf__0a53_3 (l : Launch) (D : Dx) (hT : Nat) (aT : Nat → Nat) (yT : Nat → ClassId) (n : Nat) (rec : (Gs → Int32 → Int32 → Int32 → Option (Int32))) (IH : SH_X12_rowOf__0a53 l D hT aT yT rec) : S_X12_rowOf__0a53_3 l D hT aT yT (h_X12_rowOf__0a53_3 n rec) := by
  intro p e s m args below meth c H locs A ls gT v2 v3 v4 q C X hl hF
  obtain ⟨hx, hb, hr, hml, hown, hts, hlk⟩ := id C
  unfold h_X12_rowOf__0a53_3 at hF
  refine lv_iload hx hb dX12_rowOf_3 (lv_at hl 4 rfl) ?_
  refine lv_iload_n hx hb dX12_rowOf_5 rfl (lv_at hl 2 rfl) ?_
  refine lv_icmp_ge (tgt := 27) hx hb dX12_rowOf_6 (by decide) (fun c => ?_) (fun c => ?_)
  · replace hF := iT c hF
    refine lv_iload hx hb dX12_rowOf_27 (lv_at hl 4 rfl) ?_
    have hq := Option.some.inj hF
    subst hq
    exact rt_i C X dX12_rowOf_29
  · replace hF := iF c hF
    refine lv_aload_n hx hb dX12_rowOf_9 rfl (lv_at hl 0 rfl) ?_
    refine lv_aload_n hx hb dX12_rowOf_10 rfl (lv_at hl 1 rfl) ?_
    refine lv_iload hx hb dX12_rowOf_11 (lv_at hl 4 rfl) ?_
    obtain ⟨h_1, hF⟩ := grd_some hF
    refine va_iald (D := D.1) (f := gIA gT 53) hx hb X.1 X.2.1 35 34 rfl rfl (inB_ok h_1) dX12_rowOf_13 ?_
    refine lv_iload_n hx hb dX12_rowOf_14 rfl (lv_at hl 3 rfl) ?_
    obtain ⟨q_2, hc_3, hF⟩ := bnd_some hF
    refine cV_i (As := [.int (gIA gT 53 v4.toNatClampNeg), .int v3]) (rest := []) C X (c_X12_alike l D hT aT yT n gT (gIA gT 53 v4.toNatClampNeg) v3 q_2 hc_3 _) (cwV 2 hts (good_V q9_20 q9_22 q0_99 q1_9 q9_23) rfl rfl rfl (by decide +kernel) ⟨Nat.le_of_ble_eq_true rfl, Nat.le_of_ble_eq_true rfl⟩) (va_recv X.1 X.2.1 (ci := 12) (q0 := 0) rfl rfl) X.1 X.2.1 X.2.2.1 (free_all X) hl.1 rfl rfl (Nat.le_of_ble_eq_true rfl) dX12_rowOf_15 ⟨Nat.le_of_ble_eq_true rfl, Nat.le_of_ble_eq_true rfl⟩ (fun t H1 locs1 ht hB hk hS => ?_)
    have X : Hx D (tX12 yT) A s H1 locs1 (wX12 hT aT yT gT) := Hx_after_all X ht hB hS
    clear hk hS ht hB
    generalize H1 = H at X ⊢
    generalize locs1 = locs at X ⊢
    refine lv_if_ne (tgt := 27) hx hb dX12_rowOf_18 (by decide) (fun c => ?_) (fun c => ?_)
    · replace hF := iF c hF
      refine lv_iload hx hb dX12_rowOf_27 (lv_at hl 4 rfl) ?_
      have hq := Option.some.inj hF
      subst hq
      exact rt_i C X dX12_rowOf_29
    · replace hF := iT c hF
      refine lv_iinc (v := v4 + (1 : Int32)) (lv' := [(4, .int (v4 + (1 : Int32))), (0, .ref hT), (1, .ref (aT 53)), (2, .int v2), (3, .int v3)]) hx hb dX12_rowOf_21 hl (k := 4) rfl rfl (by decide) rfl (fun ls hl => ?_)
      refine lv_goto (tgt := 3) hx hb dX12_rowOf_24 (by decide) ?_
      exact IH C X (lv_sub hl [1, 2, 3, 4, 0] rfl) hF
theorem kL_X12_rowOf__0a53 (l : Launch) (D : Dx) (hT : Nat) (aT : Nat → Nat) (yT : Nat → ClassId) (n : Nat) : ∀ k, SH_X12_rowOf__0a53 l D hT aT yT (L_X12_rowOf__0a53 n k)
  | 0 => fun _ _ _ h => by cases h
  | k + 1 => k_X12_rowOf__0a53_3 l D hT aT yT n _ (kL_X12_rowOf__0a53 l D hT aT yT n k)
set_option maxHeartbeats 4000000 in
set_option maxRecDepth 100000 in
theorem c_X12_rowOf__0a53 (l : Launch) (D : Dx) (hT : Nat) (aT : Nat → Nat) (yT : Nat → ClassId) (n : Nat) (gT : Gs) (x1 : Int32) (x2 : Int32) (q : Int32) (hF : f_X12_rowOf__0a53 n gT x1 x2 = some q) (sz : Nat) : Met l yX12_rowOf (ws_ yX12_rowOf cX12_rowOf 5 (some .int)) R_X12_rowOf__0a53 (PC D (tX12 yT) [.ref hT, .ref (aT 53), .int x1, .int x2] (wX12 hT aT yT gT) sz) (QI D (va_A (wX12 hT aT yT gT) sz) (wX12 hT aT yT gT) q) 0 0 (va_A (wX12 hT aT yT gT) sz) := by
  refine Met.ofW (cc := cX12_rowOf) (maxL := 5) (ret := (some .int)) (by decide) rfl ?_
  intro p e s m args below meth c s₁ B hml hv
  obtain ⟨rfl, hsz, hP, hK, hD, hN⟩ := hv
  subst hsz
  have C : Cx p s m _ meth c cX12_rowOf (some .int) 5 RX12 lw_all := Cx_of B hml
  have X := Hx_start hP hK hD hN
  obtain ⟨hx, hb, hr, -, hown, hts, hlk⟩ := id C
  generalize va_A (wX12 hT aT yT gT) s.heap.size = A at X ⊢
  have hl := lv_entry ([.ref hT, .ref (aT 53), .int x1, .int x2]) (n := 5) (Nat.le_of_ble_eq_true rfl)
  rw [lg_entry_eq]
  generalize (lg_sl ([.ref hT, .ref (aT 53), .int x1, .int x2]) ++ List.replicate (5 - (lg_sl ([.ref hT, .ref (aT 53), .int x1, .int x2])).length) Slot.unset).toArray = ls at hl ⊢
  have hl : lv_has ls 5 [(0, .ref hT), (1, .ref (aT 53)), (2, .int x1), (3, .int x2)] := hl
  unfold f_X12_rowOf__0a53 at hF
  refine lv_iconst (v := (0 : Int32)) hx hb dX12_rowOf_0 (by decide) ?_
  refine lv_istore (lv' := [(4, .int (0 : Int32)), (0, .ref hT), (1, .ref (aT 53)), (2, .int x1), (3, .int x2)]) hx hb dX12_rowOf_1 hl (by decide) rfl (fun ls hl => ?_)
  exact (kL_X12_rowOf__0a53 l D hT aT yT n n) C X (lv_sub hl [1, 2, 3, 4, 0] rfl) hF

/-! ### X12_told -/
theorem dX12_told_0 : decode cX12_told 0 = .ok (.iconst 0, 1) := by decide +kernel
theorem dX12_told_1 : decode cX12_told 1 = .ok (.istore_n 2, 1) := by decide +kernel
theorem dX12_told_2 : decode cX12_told 2 = .ok (.iconst 0, 1) := by decide +kernel
theorem dX12_told_3 : decode cX12_told 3 = .ok (.istore_n 3, 1) := by decide +kernel
theorem dX12_told_4 : decode cX12_told 4 = .ok (.iload_n 3, 1) := by decide +kernel
theorem dX12_told_5 : decode cX12_told 5 = .ok (.aload_n 0, 1) := by decide +kernel
theorem dX12_told_6 : decode cX12_told 6 = .ok (.getfield 156, 3) := by decide +kernel
theorem dX12_told_9 : decode cX12_told 9 = .ok (.if_icmp .ge 43, 3) := by decide +kernel
theorem dX12_told_12 : decode cX12_told 12 = .ok (.iload_n 2, 1) := by decide +kernel
theorem dX12_told_13 : decode cX12_told 13 = .ok (.ifCond .ne 27, 3) := by decide +kernel
theorem dX12_told_16 : decode cX12_told 16 = .ok (.aload_n 0, 1) := by decide +kernel
theorem dX12_told_17 : decode cX12_told 17 = .ok (.getfield 168, 3) := by decide +kernel
theorem dX12_told_20 : decode cX12_told 20 = .ok (.iload_n 3, 1) := by decide +kernel
theorem dX12_told_21 : decode cX12_told 21 = .ok (.iaload, 1) := by decide +kernel
theorem dX12_told_22 : decode cX12_told 22 = .ok (.iload_n 1, 1) := by decide +kernel
theorem dX12_told_23 : decode cX12_told 23 = .ok (.if_icmp .ge 21, 3) := by decide +kernel
theorem dX12_told_26 : decode cX12_told 26 = .ok (.aload_n 0, 1) := by decide +kernel
theorem dX12_told_27 : decode cX12_told 27 = .ok (.aload_n 0, 1) := by decide +kernel
theorem dX12_told_28 : decode cX12_told 28 = .ok (.getfield 168, 3) := by decide +kernel
theorem dX12_told_31 : decode cX12_told 31 = .ok (.iload_n 3, 1) := by decide +kernel
theorem dX12_told_32 : decode cX12_told 32 = .ok (.iaload, 1) := by decide +kernel
theorem dX12_told_33 : decode cX12_told 33 = .ok (.iload_n 1, 1) := by decide +kernel
theorem dX12_told_34 : decode cX12_told 34 = .ok (.invokevirtual 606, 3) := by decide +kernel
theorem dX12_told_37 : decode cX12_told 37 = .ok (.ifCond .eq 7, 3) := by decide +kernel
theorem dX12_told_40 : decode cX12_told 40 = .ok (.iconst 1, 1) := by decide +kernel
theorem dX12_told_41 : decode cX12_told 41 = .ok (.goto 4, 3) := by decide +kernel
theorem dX12_told_44 : decode cX12_told 44 = .ok (.iconst 0, 1) := by decide +kernel
theorem dX12_told_45 : decode cX12_told 45 = .ok (.istore_n 2, 1) := by decide +kernel
theorem dX12_told_46 : decode cX12_told 46 = .ok (.iinc 3 1, 3) := by decide +kernel
theorem dX12_told_49 : decode cX12_told 49 = .ok (.goto (-45), 3) := by decide +kernel
theorem dX12_told_52 : decode cX12_told 52 = .ok (.iconst 0, 1) := by decide +kernel
theorem dX12_told_53 : decode cX12_told 53 = .ok (.istore_n 3, 1) := by decide +kernel
theorem dX12_told_54 : decode cX12_told 54 = .ok (.iload_n 3, 1) := by decide +kernel
theorem dX12_told_55 : decode cX12_told 55 = .ok (.aload_n 0, 1) := by decide +kernel
theorem dX12_told_56 : decode cX12_told 56 = .ok (.getfield 159, 3) := by decide +kernel
theorem dX12_told_59 : decode cX12_told 59 = .ok (.if_icmp .ge 43, 3) := by decide +kernel
theorem dX12_told_62 : decode cX12_told 62 = .ok (.iload_n 2, 1) := by decide +kernel
theorem dX12_told_63 : decode cX12_told 63 = .ok (.ifCond .ne 27, 3) := by decide +kernel
theorem dX12_told_66 : decode cX12_told 66 = .ok (.aload_n 0, 1) := by decide +kernel
theorem dX12_told_67 : decode cX12_told 67 = .ok (.getfield 202, 3) := by decide +kernel
theorem dX12_told_70 : decode cX12_told 70 = .ok (.iload_n 3, 1) := by decide +kernel
theorem dX12_told_71 : decode cX12_told 71 = .ok (.iaload, 1) := by decide +kernel
theorem dX12_told_72 : decode cX12_told 72 = .ok (.iload_n 1, 1) := by decide +kernel
theorem dX12_told_73 : decode cX12_told 73 = .ok (.if_icmp .ge 21, 3) := by decide +kernel
theorem dX12_told_76 : decode cX12_told 76 = .ok (.aload_n 0, 1) := by decide +kernel
theorem dX12_told_77 : decode cX12_told 77 = .ok (.aload_n 0, 1) := by decide +kernel
theorem dX12_told_78 : decode cX12_told 78 = .ok (.getfield 202, 3) := by decide +kernel
theorem dX12_told_81 : decode cX12_told 81 = .ok (.iload_n 3, 1) := by decide +kernel
theorem dX12_told_82 : decode cX12_told 82 = .ok (.iaload, 1) := by decide +kernel
theorem dX12_told_83 : decode cX12_told 83 = .ok (.iload_n 1, 1) := by decide +kernel
theorem dX12_told_84 : decode cX12_told 84 = .ok (.invokevirtual 606, 3) := by decide +kernel
theorem dX12_told_87 : decode cX12_told 87 = .ok (.ifCond .eq 7, 3) := by decide +kernel
theorem dX12_told_90 : decode cX12_told 90 = .ok (.iconst 1, 1) := by decide +kernel
theorem dX12_told_91 : decode cX12_told 91 = .ok (.goto 4, 3) := by decide +kernel
theorem dX12_told_94 : decode cX12_told 94 = .ok (.iconst 0, 1) := by decide +kernel
theorem dX12_told_95 : decode cX12_told 95 = .ok (.istore_n 2, 1) := by decide +kernel
theorem dX12_told_96 : decode cX12_told 96 = .ok (.iinc 3 1, 3) := by decide +kernel
theorem dX12_told_99 : decode cX12_told 99 = .ok (.goto (-45), 3) := by decide +kernel
theorem dX12_told_102 : decode cX12_told 102 = .ok (.iconst 0, 1) := by decide +kernel
theorem dX12_told_103 : decode cX12_told 103 = .ok (.istore_n 3, 1) := by decide +kernel
theorem dX12_told_104 : decode cX12_told 104 = .ok (.iload_n 3, 1) := by decide +kernel
theorem dX12_told_105 : decode cX12_told 105 = .ok (.aload_n 0, 1) := by decide +kernel
theorem dX12_told_106 : decode cX12_told 106 = .ok (.getfield 162, 3) := by decide +kernel
theorem dX12_told_109 : decode cX12_told 109 = .ok (.if_icmp .ge 43, 3) := by decide +kernel
theorem dX12_told_112 : decode cX12_told 112 = .ok (.iload_n 2, 1) := by decide +kernel
theorem dX12_told_113 : decode cX12_told 113 = .ok (.ifCond .ne 27, 3) := by decide +kernel
theorem dX12_told_116 : decode cX12_told 116 = .ok (.aload_n 0, 1) := by decide +kernel
theorem dX12_told_117 : decode cX12_told 117 = .ok (.getfield 217, 3) := by decide +kernel
theorem dX12_told_120 : decode cX12_told 120 = .ok (.iload_n 3, 1) := by decide +kernel
theorem dX12_told_121 : decode cX12_told 121 = .ok (.iaload, 1) := by decide +kernel
theorem dX12_told_122 : decode cX12_told 122 = .ok (.iload_n 1, 1) := by decide +kernel
theorem dX12_told_123 : decode cX12_told 123 = .ok (.if_icmp .ge 21, 3) := by decide +kernel
theorem dX12_told_126 : decode cX12_told 126 = .ok (.aload_n 0, 1) := by decide +kernel
theorem dX12_told_127 : decode cX12_told 127 = .ok (.aload_n 0, 1) := by decide +kernel
theorem dX12_told_128 : decode cX12_told 128 = .ok (.getfield 217, 3) := by decide +kernel
theorem dX12_told_131 : decode cX12_told 131 = .ok (.iload_n 3, 1) := by decide +kernel
theorem dX12_told_132 : decode cX12_told 132 = .ok (.iaload, 1) := by decide +kernel
theorem dX12_told_133 : decode cX12_told 133 = .ok (.iload_n 1, 1) := by decide +kernel
theorem dX12_told_134 : decode cX12_told 134 = .ok (.invokevirtual 606, 3) := by decide +kernel
theorem dX12_told_137 : decode cX12_told 137 = .ok (.ifCond .eq 7, 3) := by decide +kernel
theorem dX12_told_140 : decode cX12_told 140 = .ok (.iconst 1, 1) := by decide +kernel
theorem dX12_told_141 : decode cX12_told 141 = .ok (.goto 4, 3) := by decide +kernel
theorem dX12_told_144 : decode cX12_told 144 = .ok (.iconst 0, 1) := by decide +kernel
theorem dX12_told_145 : decode cX12_told 145 = .ok (.istore_n 2, 1) := by decide +kernel
theorem dX12_told_146 : decode cX12_told 146 = .ok (.iinc 3 1, 3) := by decide +kernel
theorem dX12_told_149 : decode cX12_told 149 = .ok (.goto (-45), 3) := by decide +kernel
theorem dX12_told_152 : decode cX12_told 152 = .ok (.iload_n 2, 1) := by decide +kernel
theorem dX12_told_153 : decode cX12_told 153 = .ok (.ireturn, 1) := by decide +kernel
abbrev R_X12_told : Room := ({ frames := 1, cells := 0, slots := 0, locals := 25 } : Room)
def b_X12_told_145 (n : Nat) (rec : (Gs → Int32 → Int32 → Int32 → Option (Int32)) × (Gs → Int32 → Int32 → Int32 → Option (Int32)) × (Gs → Int32 → Int32 → Int32 → Option (Int32))) (gT : Gs) (v1 : Int32) (v3 : Int32) (s0 : Int32) : Option (Int32) :=
  rec.2.2 gT v1 s0 (v3 + (1 : Int32))
def b_X12_told_140 (n : Nat) (rec : (Gs → Int32 → Int32 → Int32 → Option (Int32)) × (Gs → Int32 → Int32 → Int32 → Option (Int32)) × (Gs → Int32 → Int32 → Int32 → Option (Int32))) (gT : Gs) (v1 : Int32) (v3 : Int32) : Option (Int32) :=
  b_X12_told_145 n rec gT v1 v3 (1 : Int32)
def b_X12_told_144 (n : Nat) (rec : (Gs → Int32 → Int32 → Int32 → Option (Int32)) × (Gs → Int32 → Int32 → Int32 → Option (Int32)) × (Gs → Int32 → Int32 → Int32 → Option (Int32))) (gT : Gs) (v1 : Int32) (v3 : Int32) : Option (Int32) :=
  b_X12_told_145 n rec gT v1 v3 (0 : Int32)
def h_X12_told_104 (n : Nat) (rec : (Gs → Int32 → Int32 → Int32 → Option (Int32)) × (Gs → Int32 → Int32 → Int32 → Option (Int32)) × (Gs → Int32 → Int32 → Int32 → Option (Int32))) (gT : Gs) (v1 : Int32) (v2 : Int32) (v3 : Int32) : Option (Int32) :=
  if (gI gT 35) ≤ v3 then (grd (zB v2) (some v2)) else (if v2 = 0 then (grd (inB v3 400) (if v1 ≤ (gIA gT 53 v3.toNatClampNeg) then (b_X12_told_144 n rec gT v1 v3) else (grd (inB v3 400) (bnd (f_X12_alike n gT (gIA gT 53 v3.toNatClampNeg) v1) (fun q_4 => if q_4 = 0 then (b_X12_told_144 n rec gT v1 v3) else (b_X12_told_140 n rec gT v1 v3)))))) else (b_X12_told_140 n rec gT v1 v3))
def b_X12_told_95 (n : Nat) (rec : (Gs → Int32 → Int32 → Int32 → Option (Int32)) × (Gs → Int32 → Int32 → Int32 → Option (Int32)) × (Gs → Int32 → Int32 → Int32 → Option (Int32))) (gT : Gs) (v1 : Int32) (v3 : Int32) (s0 : Int32) : Option (Int32) :=
  rec.2.1 gT v1 s0 (v3 + (1 : Int32))
def b_X12_told_90 (n : Nat) (rec : (Gs → Int32 → Int32 → Int32 → Option (Int32)) × (Gs → Int32 → Int32 → Int32 → Option (Int32)) × (Gs → Int32 → Int32 → Int32 → Option (Int32))) (gT : Gs) (v1 : Int32) (v3 : Int32) : Option (Int32) :=
  b_X12_told_95 n rec gT v1 v3 (1 : Int32)
def b_X12_told_94 (n : Nat) (rec : (Gs → Int32 → Int32 → Int32 → Option (Int32)) × (Gs → Int32 → Int32 → Int32 → Option (Int32)) × (Gs → Int32 → Int32 → Int32 → Option (Int32))) (gT : Gs) (v1 : Int32) (v3 : Int32) : Option (Int32) :=
  b_X12_told_95 n rec gT v1 v3 (0 : Int32)
def h_X12_told_54 (n : Nat) (rec : (Gs → Int32 → Int32 → Int32 → Option (Int32)) × (Gs → Int32 → Int32 → Int32 → Option (Int32)) × (Gs → Int32 → Int32 → Int32 → Option (Int32))) (gT : Gs) (v1 : Int32) (v2 : Int32) (v3 : Int32) : Option (Int32) :=
  if (gI gT 34) ≤ v3 then (rec.2.2 gT v1 v2 (0 : Int32)) else (if v2 = 0 then (grd (inB v3 400) (if v1 ≤ (gIA gT 48 v3.toNatClampNeg) then (b_X12_told_94 n rec gT v1 v3) else (grd (inB v3 400) (bnd (f_X12_alike n gT (gIA gT 48 v3.toNatClampNeg) v1) (fun q_8 => if q_8 = 0 then (b_X12_told_94 n rec gT v1 v3) else (b_X12_told_90 n rec gT v1 v3)))))) else (b_X12_told_90 n rec gT v1 v3))
def b_X12_told_45 (n : Nat) (rec : (Gs → Int32 → Int32 → Int32 → Option (Int32)) × (Gs → Int32 → Int32 → Int32 → Option (Int32)) × (Gs → Int32 → Int32 → Int32 → Option (Int32))) (gT : Gs) (v1 : Int32) (v3 : Int32) (s0 : Int32) : Option (Int32) :=
  rec.1 gT v1 s0 (v3 + (1 : Int32))
def b_X12_told_40 (n : Nat) (rec : (Gs → Int32 → Int32 → Int32 → Option (Int32)) × (Gs → Int32 → Int32 → Int32 → Option (Int32)) × (Gs → Int32 → Int32 → Int32 → Option (Int32))) (gT : Gs) (v1 : Int32) (v3 : Int32) : Option (Int32) :=
  b_X12_told_45 n rec gT v1 v3 (1 : Int32)
def b_X12_told_44 (n : Nat) (rec : (Gs → Int32 → Int32 → Int32 → Option (Int32)) × (Gs → Int32 → Int32 → Int32 → Option (Int32)) × (Gs → Int32 → Int32 → Int32 → Option (Int32))) (gT : Gs) (v1 : Int32) (v3 : Int32) : Option (Int32) :=
  b_X12_told_45 n rec gT v1 v3 (0 : Int32)
def h_X12_told_4 (n : Nat) (rec : (Gs → Int32 → Int32 → Int32 → Option (Int32)) × (Gs → Int32 → Int32 → Int32 → Option (Int32)) × (Gs → Int32 → Int32 → Int32 → Option (Int32))) (gT : Gs) (v1 : Int32) (v2 : Int32) (v3 : Int32) : Option (Int32) :=
  if (gI gT 33) ≤ v3 then (rec.2.1 gT v1 v2 (0 : Int32)) else (if v2 = 0 then (grd (inB v3 400) (if v1 ≤ (gIA gT 37 v3.toNatClampNeg) then (b_X12_told_44 n rec gT v1 v3) else (grd (inB v3 400) (bnd (f_X12_alike n gT (gIA gT 37 v3.toNatClampNeg) v1) (fun q_12 => if q_12 = 0 then (b_X12_told_44 n rec gT v1 v3) else (b_X12_told_40 n rec gT v1 v3)))))) else (b_X12_told_40 n rec gT v1 v3))
def L_X12_told (n : Nat) : Nat → ((Gs → Int32 → Int32 → Int32 → Option (Int32)) × (Gs → Int32 → Int32 → Int32 → Option (Int32)) × (Gs → Int32 → Int32 → Int32 → Option (Int32)))
  | 0 => ((fun _ _ _ _ => none), (fun _ _ _ _ => none), (fun _ _ _ _ => none))
  | k + 1 => (h_X12_told_4 n (L_X12_told n k), h_X12_told_54 n (L_X12_told n k), h_X12_told_104 n (L_X12_told n k))
def f_X12_told (n : Nat) (gT : Gs) (x0 : Int32) : Option (Int32) :=
  (L_X12_told n n).1 gT x0 (0 : Int32) (0 : Int32)
def S_X12_told_145 (l : Launch) (D : Dx) (hT : Nat) (aT : Nat → Nat) (yT : Nat → ClassId) (fn : Gs → Int32 → Int32 → Int32 → Option (Int32)) : Prop :=
  ∀ {p : Program} {e : Env} {s : State} {m : MethodId} {args : Array Value} {below : List Frame} {meth : Method} {c : Code} {H : Heap} {locs : List Loc} {A : Nat → Prop} {ls : Array Slot} {gT : Gs} {v1 : Int32} {v3 : Int32} {s0 : Int32} {q : Int32}, Cx p s m args meth c cX12_told (some .boolean) 4 RX12 lw_all → Hx D (tX12 yT) A s H locs (wX12 hT aT yT gT) → lv_has ls 4 [(0, .ref hT), (1, .int v1), (3, .int v3)] → fn gT v1 v3 s0 = some q → W p l e R_X12_told s m args below meth c H locs 0 0 (MQ below (QI D A (wX12 hT aT yT gT) q) args s 0 0 A) (F0 m 145 ls [.int s0])
def S_X12_told_140 (l : Launch) (D : Dx) (hT : Nat) (aT : Nat → Nat) (yT : Nat → ClassId) (fn : Gs → Int32 → Int32 → Option (Int32)) : Prop :=
  ∀ {p : Program} {e : Env} {s : State} {m : MethodId} {args : Array Value} {below : List Frame} {meth : Method} {c : Code} {H : Heap} {locs : List Loc} {A : Nat → Prop} {ls : Array Slot} {gT : Gs} {v1 : Int32} {v3 : Int32} {q : Int32}, Cx p s m args meth c cX12_told (some .boolean) 4 RX12 lw_all → Hx D (tX12 yT) A s H locs (wX12 hT aT yT gT) → lv_has ls 4 [(0, .ref hT), (1, .int v1), (3, .int v3)] → fn gT v1 v3 = some q → W p l e R_X12_told s m args below meth c H locs 0 0 (MQ below (QI D A (wX12 hT aT yT gT) q) args s 0 0 A) (F0 m 140 ls [])
def S_X12_told_144 (l : Launch) (D : Dx) (hT : Nat) (aT : Nat → Nat) (yT : Nat → ClassId) (fn : Gs → Int32 → Int32 → Option (Int32)) : Prop :=
  ∀ {p : Program} {e : Env} {s : State} {m : MethodId} {args : Array Value} {below : List Frame} {meth : Method} {c : Code} {H : Heap} {locs : List Loc} {A : Nat → Prop} {ls : Array Slot} {gT : Gs} {v1 : Int32} {v3 : Int32} {q : Int32}, Cx p s m args meth c cX12_told (some .boolean) 4 RX12 lw_all → Hx D (tX12 yT) A s H locs (wX12 hT aT yT gT) → lv_has ls 4 [(0, .ref hT), (1, .int v1), (3, .int v3)] → fn gT v1 v3 = some q → W p l e R_X12_told s m args below meth c H locs 0 0 (MQ below (QI D A (wX12 hT aT yT gT) q) args s 0 0 A) (F0 m 144 ls [])
def S_X12_told_104 (l : Launch) (D : Dx) (hT : Nat) (aT : Nat → Nat) (yT : Nat → ClassId) (fn : Gs → Int32 → Int32 → Int32 → Option (Int32)) : Prop :=
  ∀ {p : Program} {e : Env} {s : State} {m : MethodId} {args : Array Value} {below : List Frame} {meth : Method} {c : Code} {H : Heap} {locs : List Loc} {A : Nat → Prop} {ls : Array Slot} {gT : Gs} {v1 : Int32} {v2 : Int32} {v3 : Int32} {q : Int32}, Cx p s m args meth c cX12_told (some .boolean) 4 RX12 lw_all → Hx D (tX12 yT) A s H locs (wX12 hT aT yT gT) → lv_has ls 4 [(0, .ref hT), (1, .int v1), (2, .int v2), (3, .int v3)] → fn gT v1 v2 v3 = some q → W p l e R_X12_told s m args below meth c H locs 0 0 (MQ below (QI D A (wX12 hT aT yT gT) q) args s 0 0 A) (F0 m 104 ls [])
def S_X12_told_95 (l : Launch) (D : Dx) (hT : Nat) (aT : Nat → Nat) (yT : Nat → ClassId) (fn : Gs → Int32 → Int32 → Int32 → Option (Int32)) : Prop :=
  ∀ {p : Program} {e : Env} {s : State} {m : MethodId} {args : Array Value} {below : List Frame} {meth : Method} {c : Code} {H : Heap} {locs : List Loc} {A : Nat → Prop} {ls : Array Slot} {gT : Gs} {v1 : Int32} {v3 : Int32} {s0 : Int32} {q : Int32}, Cx p s m args meth c cX12_told (some .boolean) 4 RX12 lw_all → Hx D (tX12 yT) A s H locs (wX12 hT aT yT gT) → lv_has ls 4 [(0, .ref hT), (1, .int v1), (3, .int v3)] → fn gT v1 v3 s0 = some q → W p l e R_X12_told s m args below meth c H locs 0 0 (MQ below (QI D A (wX12 hT aT yT gT) q) args s 0 0 A) (F0 m 95 ls [.int s0])
def S_X12_told_90 (l : Launch) (D : Dx) (hT : Nat) (aT : Nat → Nat) (yT : Nat → ClassId) (fn : Gs → Int32 → Int32 → Option (Int32)) : Prop :=
  ∀ {p : Program} {e : Env} {s : State} {m : MethodId} {args : Array Value} {below : List Frame} {meth : Method} {c : Code} {H : Heap} {locs : List Loc} {A : Nat → Prop} {ls : Array Slot} {gT : Gs} {v1 : Int32} {v3 : Int32} {q : Int32}, Cx p s m args meth c cX12_told (some .boolean) 4 RX12 lw_all → Hx D (tX12 yT) A s H locs (wX12 hT aT yT gT) → lv_has ls 4 [(0, .ref hT), (1, .int v1), (3, .int v3)] → fn gT v1 v3 = some q → W p l e R_X12_told s m args below meth c H locs 0 0 (MQ below (QI D A (wX12 hT aT yT gT) q) args s 0 0 A) (F0 m 90 ls [])
def S_X12_told_94 (l : Launch) (D : Dx) (hT : Nat) (aT : Nat → Nat) (yT : Nat → ClassId) (fn : Gs → Int32 → Int32 → Option (Int32)) : Prop :=
  ∀ {p : Program} {e : Env} {s : State} {m : MethodId} {args : Array Value} {below : List Frame} {meth : Method} {c : Code} {H : Heap} {locs : List Loc} {A : Nat → Prop} {ls : Array Slot} {gT : Gs} {v1 : Int32} {v3 : Int32} {q : Int32}, Cx p s m args meth c cX12_told (some .boolean) 4 RX12 lw_all → Hx D (tX12 yT) A s H locs (wX12 hT aT yT gT) → lv_has ls 4 [(0, .ref hT), (1, .int v1), (3, .int v3)] → fn gT v1 v3 = some q → W p l e R_X12_told s m args below meth c H locs 0 0 (MQ below (QI D A (wX12 hT aT yT gT) q) args s 0 0 A) (F0 m 94 ls [])
def S_X12_told_54 (l : Launch) (D : Dx) (hT : Nat) (aT : Nat → Nat) (yT : Nat → ClassId) (fn : Gs → Int32 → Int32 → Int32 → Option (Int32)) : Prop :=
  ∀ {p : Program} {e : Env} {s : State} {m : MethodId} {args : Array Value} {below : List Frame} {meth : Method} {c : Code} {H : Heap} {locs : List Loc} {A : Nat → Prop} {ls : Array Slot} {gT : Gs} {v1 : Int32} {v2 : Int32} {v3 : Int32} {q : Int32}, Cx p s m args meth c cX12_told (some .boolean) 4 RX12 lw_all → Hx D (tX12 yT) A s H locs (wX12 hT aT yT gT) → lv_has ls 4 [(0, .ref hT), (1, .int v1), (2, .int v2), (3, .int v3)] → fn gT v1 v2 v3 = some q → W p l e R_X12_told s m args below meth c H locs 0 0 (MQ below (QI D A (wX12 hT aT yT gT) q) args s 0 0 A) (F0 m 54 ls [])
def S_X12_told_45 (l : Launch) (D : Dx) (hT : Nat) (aT : Nat → Nat) (yT : Nat → ClassId) (fn : Gs → Int32 → Int32 → Int32 → Option (Int32)) : Prop :=
  ∀ {p : Program} {e : Env} {s : State} {m : MethodId} {args : Array Value} {below : List Frame} {meth : Method} {c : Code} {H : Heap} {locs : List Loc} {A : Nat → Prop} {ls : Array Slot} {gT : Gs} {v1 : Int32} {v3 : Int32} {s0 : Int32} {q : Int32}, Cx p s m args meth c cX12_told (some .boolean) 4 RX12 lw_all → Hx D (tX12 yT) A s H locs (wX12 hT aT yT gT) → lv_has ls 4 [(0, .ref hT), (1, .int v1), (3, .int v3)] → fn gT v1 v3 s0 = some q → W p l e R_X12_told s m args below meth c H locs 0 0 (MQ below (QI D A (wX12 hT aT yT gT) q) args s 0 0 A) (F0 m 45 ls [.int s0])
def S_X12_told_40 (l : Launch) (D : Dx) (hT : Nat) (aT : Nat → Nat) (yT : Nat → ClassId) (fn : Gs → Int32 → Int32 → Option (Int32)) : Prop :=
  ∀ {p : Program} {e : Env} {s : State} {m : MethodId} {args : Array Value} {below : List Frame} {meth : Method} {c : Code} {H : Heap} {locs : List Loc} {A : Nat → Prop} {ls : Array Slot} {gT : Gs} {v1 : Int32} {v3 : Int32} {q : Int32}, Cx p s m args meth c cX12_told (some .boolean) 4 RX12 lw_all → Hx D (tX12 yT) A s H locs (wX12 hT aT yT gT) → lv_has ls 4 [(0, .ref hT), (1, .int v1), (3, .int v3)] → fn gT v1 v3 = some q → W p l e R_X12_told s m args below meth c H locs 0 0 (MQ below (QI D A (wX12 hT aT yT gT) q) args s 0 0 A) (F0 m 40 ls [])
def S_X12_told_44 (l : Launch) (D : Dx) (hT : Nat) (aT : Nat → Nat) (yT : Nat → ClassId) (fn : Gs → Int32 → Int32 → Option (Int32)) : Prop :=
  ∀ {p : Program} {e : Env} {s : State} {m : MethodId} {args : Array Value} {below : List Frame} {meth : Method} {c : Code} {H : Heap} {locs : List Loc} {A : Nat → Prop} {ls : Array Slot} {gT : Gs} {v1 : Int32} {v3 : Int32} {q : Int32}, Cx p s m args meth c cX12_told (some .boolean) 4 RX12 lw_all → Hx D (tX12 yT) A s H locs (wX12 hT aT yT gT) → lv_has ls 4 [(0, .ref hT), (1, .int v1), (3, .int v3)] → fn gT v1 v3 = some q → W p l e R_X12_told s m args below meth c H locs 0 0 (MQ below (QI D A (wX12 hT aT yT gT) q) args s 0 0 A) (F0 m 44 ls [])
def S_X12_told_4 (l : Launch) (D : Dx) (hT : Nat) (aT : Nat → Nat) (yT : Nat → ClassId) (fn : Gs → Int32 → Int32 → Int32 → Option (Int32)) : Prop :=
  ∀ {p : Program} {e : Env} {s : State} {m : MethodId} {args : Array Value} {below : List Frame} {meth : Method} {c : Code} {H : Heap} {locs : List Loc} {A : Nat → Prop} {ls : Array Slot} {gT : Gs} {v1 : Int32} {v2 : Int32} {v3 : Int32} {q : Int32}, Cx p s m args meth c cX12_told (some .boolean) 4 RX12 lw_all → Hx D (tX12 yT) A s H locs (wX12 hT aT yT gT) → lv_has ls 4 [(0, .ref hT), (1, .int v1), (2, .int v2), (3, .int v3)] → fn gT v1 v2 v3 = some q → W p l e R_X12_told s m args below meth c H locs 0 0 (MQ below (QI D A (wX12 hT aT yT gT) q) args s 0 0 A) (F0 m 4 ls [])
def SH_X12_told (l : Launch) (D : Dx) (hT : Nat) (aT : Nat → Nat) (yT : Nat → ClassId) (rec : (Gs → Int32 → Int32 → Int32 → Option (Int32)) × (Gs → Int32 → Int32 → Int32 → Option (Int32)) × (Gs → Int32 → Int32 → Int32 → Option (Int32))) : Prop := S_X12_told_4 l D hT aT yT rec.1 ∧ S_X12_told_54 l D hT aT yT rec.2.1 ∧ S_X12_told_104 l D hT aT yT rec.2.2
set_option maxHeartbeats 4000000 in
set_option maxRecDepth 100000 in
theorem k_X12_told_145 (l : Launch) (D : Dx) (hT : Nat) (aT : Nat → Nat) (yT : Nat → ClassId) (n : Nat) (rec : (Gs → Int32 → Int32 → Int32 → Option (Int32)) × (Gs → Int32 → Int32 → Int32 → Option (Int32)) × (Gs → Int32 → Int32 → Int32 → Option (Int32))) (IH : SH_X12_told l D hT aT yT rec) : S_X12_told_145 l D hT aT yT (b_X12_told_145 n rec) := by
  intro p e s m args below meth c H locs A ls gT v1 v3 s0 q C X hl hF
  obtain ⟨hx, hb, hr, hml, hown, hts, hlk⟩ := id C
  unfold b_X12_told_145 at hF
  refine lv_istore_n (lv' := [(2, .int s0), (0, .ref hT), (1, .int v1), (3, .int v3)]) hx hb dX12_told_145 rfl hl (by decide) rfl (fun ls hl => ?_)
  refine lv_iinc (v := v3 + (1 : Int32)) (lv' := [(3, .int (v3 + (1 : Int32))), (2, .int s0), (0, .ref hT), (1, .int v1)]) hx hb dX12_told_146 hl (k := 3) rfl rfl (by decide) rfl (fun ls hl => ?_)
  refine lv_goto (tgt := 104) hx hb dX12_told_149 (by decide) ?_
  exact IH.2.2 C X (lv_sub hl [2, 3, 1, 0] rfl) hF
set_option maxHeartbeats 4000000 in
set_option maxRecDepth 100000 in
theorem k_X12_told_140 (l : Launch) (D : Dx) (hT : Nat) (aT : Nat → Nat) (yT : Nat → ClassId) (n : Nat) (rec : (Gs → Int32 → Int32 → Int32 → Option (Int32)) × (Gs → Int32 → Int32 → Int32 → Option (Int32)) × (Gs → Int32 → Int32 → Int32 → Option (Int32))) (IH : SH_X12_told l D hT aT yT rec) : S_X12_told_140 l D hT aT yT (b_X12_told_140 n rec) := by
  intro p e s m args below meth c H locs A ls gT v1 v3 q C X hl hF
  obtain ⟨hx, hb, hr, hml, hown, hts, hlk⟩ := id C
  unfold b_X12_told_140 at hF
  refine lv_iconst (v := (1 : Int32)) hx hb dX12_told_140 (by decide) ?_
  refine lv_goto (tgt := 145) hx hb dX12_told_141 (by decide) ?_
  exact (k_X12_told_145 l D hT aT yT n rec IH) C X (lv_sub hl [0, 1, 2] rfl) hF
set_option maxHeartbeats 4000000 in
set_option maxRecDepth 100000 in
theorem k_X12_told_144 (l : Launch) (D : Dx) (hT : Nat) (aT : Nat → Nat) (yT : Nat → ClassId) (n : Nat) (rec : (Gs → Int32 → Int32 → Int32 → Option (Int32)) × (Gs → Int32 → Int32 → Int32 → Option (Int32)) × (Gs → Int32 → Int32 → Int32 → Option (Int32))) (IH : SH_X12_told l D hT aT yT rec) : S_X12_told_144 l D hT aT yT (b_X12_told_144 n rec) := by
  intro p e s m args below meth c H locs A ls gT v1 v3 q C X hl hF
  obtain ⟨hx, hb, hr, hml, hown, hts, hlk⟩ := id C
  unfold b_X12_told_144 at hF
  refine lv_iconst (v := (0 : Int32)) hx hb dX12_told_144 (by decide) ?_
  exact (k_X12_told_145 l D hT aT yT n rec IH) C X (lv_sub hl [0, 1, 2] rfl) hF
set_option maxHeartbeats 4000000 in
set_option maxRecDepth 100000 in
theorem k_X12_told_104 (l : Launch) (D : Dx) (hT : Nat) (aT : Nat → Nat) (yT : Nat → ClassId) (n : Nat) (rec : (Gs → Int32 → Int32 → Int32 → Option (Int32)) × (Gs → Int32 → Int32 → Int32 → Option (Int32)) × (Gs → Int32 → Int32 → Int32 → Option (Int32))) (IH : SH_X12_told l D hT aT yT rec) : S_X12_told_104 l D hT aT yT (h_X12_told_104 n rec) := by
  intro p e s m args below meth c H locs A ls gT v1 v2 v3 q C X hl hF
  obtain ⟨hx, hb, hr, hml, hown, hts, hlk⟩ := id C
  unfold h_X12_told_104 at hF
  refine lv_iload_n hx hb dX12_told_104 rfl (lv_at hl 3 rfl) ?_
  refine lv_aload_n hx hb dX12_told_105 rfl (lv_at hl 0 rfl) ?_
  refine va_get (D := D.1) (ci := 12) (v := .int (gI gT 35)) (C := RX12) (T := TX12) (N := 114) hx hb hts wi_X12 hown X.1 X.2.1 0 rfl rfl 35 (by decide) (hts _ q6_229) (fun _ h9 => h9) (fl_get (by decide)) dX12_told_106 ?_
  refine lv_icmp_ge (tgt := 152) hx hb dX12_told_109 (by decide) (fun c => ?_) (fun c => ?_)
  · replace hF := iT c hF
    refine lv_iload_n hx hb dX12_told_152 rfl (lv_at hl 2 rfl) ?_
    obtain ⟨h_1, hF⟩ := grd_some hF
    have hq := Option.some.inj hF
    subst hq
    exact rt_z (v := v2) C X (zB_n h_1) dX12_told_153
  · replace hF := iF c hF
    refine lv_iload_n hx hb dX12_told_112 rfl (lv_at hl 2 rfl) ?_
    refine lv_if_ne (tgt := 140) hx hb dX12_told_113 (by decide) (fun c => ?_) (fun c => ?_)
    · replace hF := iF c hF
      exact (k_X12_told_140 l D hT aT yT n rec IH) C X (lv_sub hl [0, 1, 3] rfl) hF
    · replace hF := iT c hF
      refine lv_aload_n hx hb dX12_told_116 rfl (lv_at hl 0 rfl) ?_
      refine va_get (D := D.1) (ci := 12) (v := .ref (aT 53)) (C := RX12) (T := TX12) (N := 114) hx hb hts wi_X12 hown X.1 X.2.1 0 rfl rfl 53 (by decide) (hts _ q7_7) (fun _ h9 => h9) (fl_get (by decide)) dX12_told_117 ?_
      refine lv_iload_n hx hb dX12_told_120 rfl (lv_at hl 3 rfl) ?_
      obtain ⟨h_2, hF⟩ := grd_some hF
      refine va_iald (D := D.1) (f := gIA gT 53) hx hb X.1 X.2.1 35 34 rfl rfl (inB_ok h_2) dX12_told_121 ?_
      refine lv_iload_n hx hb dX12_told_122 rfl (lv_at hl 1 rfl) ?_
      refine lv_icmp_ge (tgt := 144) hx hb dX12_told_123 (by decide) (fun c => ?_) (fun c => ?_)
      · replace hF := iT c hF
        exact (k_X12_told_144 l D hT aT yT n rec IH) C X (lv_sub hl [0, 1, 3] rfl) hF
      · replace hF := iF c hF
        refine lv_aload_n hx hb dX12_told_126 rfl (lv_at hl 0 rfl) ?_
        refine lv_aload_n hx hb dX12_told_127 rfl (lv_at hl 0 rfl) ?_
        refine va_get (D := D.1) (ci := 12) (v := .ref (aT 53)) (C := RX12) (T := TX12) (N := 114) hx hb hts wi_X12 hown X.1 X.2.1 0 rfl rfl 53 (by decide) (hts _ q7_7) (fun _ h9 => h9) (fl_get (by decide)) dX12_told_128 ?_
        refine lv_iload_n hx hb dX12_told_131 rfl (lv_at hl 3 rfl) ?_
        obtain ⟨h_3, hF⟩ := grd_some hF
        refine va_iald (D := D.1) (f := gIA gT 53) hx hb X.1 X.2.1 35 34 rfl rfl (inB_ok h_3) dX12_told_132 ?_
        refine lv_iload_n hx hb dX12_told_133 rfl (lv_at hl 1 rfl) ?_
        obtain ⟨q_4, hc_5, hF⟩ := bnd_some hF
        refine cV_i (As := [.int (gIA gT 53 v3.toNatClampNeg), .int v1]) (rest := []) C X (c_X12_alike l D hT aT yT n gT (gIA gT 53 v3.toNatClampNeg) v1 q_4 hc_5 _) (cwV 2 hts (good_V q9_20 q9_22 q0_99 q1_9 q9_23) rfl rfl rfl (by decide +kernel) ⟨Nat.le_of_ble_eq_true rfl, Nat.le_of_ble_eq_true rfl⟩) (va_recv X.1 X.2.1 (ci := 12) (q0 := 0) rfl rfl) X.1 X.2.1 X.2.2.1 (free_all X) hl.1 rfl rfl (Nat.le_of_ble_eq_true rfl) dX12_told_134 ⟨Nat.le_of_ble_eq_true rfl, Nat.le_of_ble_eq_true rfl⟩ (fun t H1 locs1 ht hB hk hS => ?_)
        have X : Hx D (tX12 yT) A s H1 locs1 (wX12 hT aT yT gT) := Hx_after_all X ht hB hS
        clear hk hS ht hB
        generalize H1 = H at X ⊢
        generalize locs1 = locs at X ⊢
        refine lv_if_eq (tgt := 144) hx hb dX12_told_137 (by decide) (fun c => ?_) (fun c => ?_)
        · replace hF := iT c hF
          exact (k_X12_told_144 l D hT aT yT n rec IH) C X (lv_sub hl [0, 1, 3] rfl) hF
        · replace hF := iF c hF
          exact (k_X12_told_140 l D hT aT yT n rec IH) C X (lv_sub hl [0, 1, 3] rfl) hF
set_option maxHeartbeats 4000000 in
set_option maxRecDepth 100000 in
theorem k_X12_told_95 (l : Launch) (D : Dx) (hT : Nat) (aT : Nat → Nat) (yT : Nat → ClassId) (n : Nat) (rec : (Gs → Int32 → Int32 → Int32 → Option (Int32)) × (Gs → Int32 → Int32 → Int32 → Option (Int32)) × (Gs → Int32 → Int32 → Int32 → Option (Int32))) (IH : SH_X12_told l D hT aT yT rec) : S_X12_told_95 l D hT aT yT (b_X12_told_95 n rec) := by
  intro p e s m args below meth c H locs A ls gT v1 v3 s0 q C X hl hF
  obtain ⟨hx, hb, hr, hml, hown, hts, hlk⟩ := id C
  unfold b_X12_told_95 at hF
  refine lv_istore_n (lv' := [(2, .int s0), (0, .ref hT), (1, .int v1), (3, .int v3)]) hx hb dX12_told_95 rfl hl (by decide) rfl (fun ls hl => ?_)
  refine lv_iinc (v := v3 + (1 : Int32)) (lv' := [(3, .int (v3 + (1 : Int32))), (2, .int s0), (0, .ref hT), (1, .int v1)]) hx hb dX12_told_96 hl (k := 3) rfl rfl (by decide) rfl (fun ls hl => ?_)
  refine lv_goto (tgt := 54) hx hb dX12_told_99 (by decide) ?_
  exact IH.2.1 C X (lv_sub hl [2, 3, 1, 0] rfl) hF
set_option maxHeartbeats 4000000 in
set_option maxRecDepth 100000 in
theorem k_X12_told_90 (l : Launch) (D : Dx) (hT : Nat) (aT : Nat → Nat) (yT : Nat → ClassId) (n : Nat) (rec : (Gs → Int32 → Int32 → Int32 → Option (Int32)) × (Gs → Int32 → Int32 → Int32 → Option (Int32)) × (Gs → Int32 → Int32 → Int32 → Option (Int32))) (IH : SH_X12_told l D hT aT yT rec) : S_X12_told_90 l D hT aT yT (b_X12_told_90 n rec) := by
  intro p e s m args below meth c H locs A ls gT v1 v3 q C X hl hF
  obtain ⟨hx, hb, hr, hml, hown, hts, hlk⟩ := id C
  unfold b_X12_told_90 at hF
  refine lv_iconst (v := (1 : Int32)) hx hb dX12_told_90 (by decide) ?_
  refine lv_goto (tgt := 95) hx hb dX12_told_91 (by decide) ?_
  exact (k_X12_told_95 l D hT aT yT n rec IH) C X (lv_sub hl [0, 1, 2] rfl) hF
set_option maxHeartbeats 4000000 in
set_option maxRecDepth 100000 in
theorem k_X12_told_94 (l : Launch) (D : Dx) (hT : Nat) (aT : Nat → Nat) (yT : Nat → ClassId) (n : Nat) (rec : (Gs → Int32 → Int32 → Int32 → Option (Int32)) × (Gs → Int32 → Int32 → Int32 → Option (Int32)) × (Gs → Int32 → Int32 → Int32 → Option (Int32))) (IH : SH_X12_told l D hT aT yT rec) : S_X12_told_94 l D hT aT yT (b_X12_told_94 n rec) := by
  intro p e s m args below meth c H locs A ls gT v1 v3 q C X hl hF
  obtain ⟨hx, hb, hr, hml, hown, hts, hlk⟩ := id C
  unfold b_X12_told_94 at hF
  refine lv_iconst (v := (0 : Int32)) hx hb dX12_told_94 (by decide) ?_
  exact (k_X12_told_95 l D hT aT yT n rec IH) C X (lv_sub hl [0, 1, 2] rfl) hF
set_option maxHeartbeats 4000000 in
set_option maxRecDepth 100000 in
theorem k_X12_told_54 (l : Launch) (D : Dx) (hT : Nat) (aT : Nat → Nat) (yT : Nat → ClassId) (n : Nat) (rec : (Gs → Int32 → Int32 → Int32 → Option (Int32)) × (Gs → Int32 → Int32 → Int32 → Option (Int32)) × (Gs → Int32 → Int32 → Int32 → Option (Int32))) (IH : SH_X12_told l D hT aT yT rec) : S_X12_told_54 l D hT aT yT (h_X12_told_54 n rec) := by
  intro p e s m args below meth c H locs A ls gT v1 v2 v3 q C X hl hF
  obtain ⟨hx, hb, hr, hml, hown, hts, hlk⟩ := id C
  unfold h_X12_told_54 at hF
  refine lv_iload_n hx hb dX12_told_54 rfl (lv_at hl 3 rfl) ?_
  refine lv_aload_n hx hb dX12_told_55 rfl (lv_at hl 0 rfl) ?_
  refine va_get (D := D.1) (ci := 12) (v := .int (gI gT 34)) (C := RX12) (T := TX12) (N := 114) hx hb hts wi_X12 hown X.1 X.2.1 0 rfl rfl 34 (by decide) (hts _ q6_228) (fun _ h9 => h9) (fl_get (by decide)) dX12_told_56 ?_
  refine lv_icmp_ge (tgt := 102) hx hb dX12_told_59 (by decide) (fun c => ?_) (fun c => ?_)
  · replace hF := iT c hF
    refine lv_iconst (v := (0 : Int32)) hx hb dX12_told_102 (by decide) ?_
    refine lv_istore_n (lv' := [(3, .int (0 : Int32)), (0, .ref hT), (1, .int v1), (2, .int v2)]) hx hb dX12_told_103 rfl hl (by decide) rfl (fun ls hl => ?_)
    exact IH.2.2 C X (lv_sub hl [1, 2, 3, 0] rfl) hF
  · replace hF := iF c hF
    refine lv_iload_n hx hb dX12_told_62 rfl (lv_at hl 2 rfl) ?_
    refine lv_if_ne (tgt := 90) hx hb dX12_told_63 (by decide) (fun c => ?_) (fun c => ?_)
    · replace hF := iF c hF
      exact (k_X12_told_90 l D hT aT yT n rec IH) C X (lv_sub hl [0, 1, 3] rfl) hF
    · replace hF := iT c hF
      refine lv_aload_n hx hb dX12_told_66 rfl (lv_at hl 0 rfl) ?_
      refine va_get (D := D.1) (ci := 12) (v := .ref (aT 48)) (C := RX12) (T := TX12) (N := 114) hx hb hts wi_X12 hown X.1 X.2.1 0 rfl rfl 48 (by decide) (hts _ q7_2) (fun _ h9 => h9) (fl_get (by decide)) dX12_told_67 ?_
      refine lv_iload_n hx hb dX12_told_70 rfl (lv_at hl 3 rfl) ?_
      obtain ⟨h_6, hF⟩ := grd_some hF
      refine va_iald (D := D.1) (f := gIA gT 48) hx hb X.1 X.2.1 30 29 rfl rfl (inB_ok h_6) dX12_told_71 ?_
      refine lv_iload_n hx hb dX12_told_72 rfl (lv_at hl 1 rfl) ?_
      refine lv_icmp_ge (tgt := 94) hx hb dX12_told_73 (by decide) (fun c => ?_) (fun c => ?_)
      · replace hF := iT c hF
        exact (k_X12_told_94 l D hT aT yT n rec IH) C X (lv_sub hl [0, 1, 3] rfl) hF
      · replace hF := iF c hF
        refine lv_aload_n hx hb dX12_told_76 rfl (lv_at hl 0 rfl) ?_
        refine lv_aload_n hx hb dX12_told_77 rfl (lv_at hl 0 rfl) ?_
        refine va_get (D := D.1) (ci := 12) (v := .ref (aT 48)) (C := RX12) (T := TX12) (N := 114) hx hb hts wi_X12 hown X.1 X.2.1 0 rfl rfl 48 (by decide) (hts _ q7_2) (fun _ h9 => h9) (fl_get (by decide)) dX12_told_78 ?_
        refine lv_iload_n hx hb dX12_told_81 rfl (lv_at hl 3 rfl) ?_
        obtain ⟨h_7, hF⟩ := grd_some hF
        refine va_iald (D := D.1) (f := gIA gT 48) hx hb X.1 X.2.1 30 29 rfl rfl (inB_ok h_7) dX12_told_82 ?_
        refine lv_iload_n hx hb dX12_told_83 rfl (lv_at hl 1 rfl) ?_
        obtain ⟨q_8, hc_9, hF⟩ := bnd_some hF
        refine cV_i (As := [.int (gIA gT 48 v3.toNatClampNeg), .int v1]) (rest := []) C X (c_X12_alike l D hT aT yT n gT (gIA gT 48 v3.toNatClampNeg) v1 q_8 hc_9 _) (cwV 2 hts (good_V q9_20 q9_22 q0_99 q1_9 q9_23) rfl rfl rfl (by decide +kernel) ⟨Nat.le_of_ble_eq_true rfl, Nat.le_of_ble_eq_true rfl⟩) (va_recv X.1 X.2.1 (ci := 12) (q0 := 0) rfl rfl) X.1 X.2.1 X.2.2.1 (free_all X) hl.1 rfl rfl (Nat.le_of_ble_eq_true rfl) dX12_told_84 ⟨Nat.le_of_ble_eq_true rfl, Nat.le_of_ble_eq_true rfl⟩ (fun t H1 locs1 ht hB hk hS => ?_)
        have X : Hx D (tX12 yT) A s H1 locs1 (wX12 hT aT yT gT) := Hx_after_all X ht hB hS
        clear hk hS ht hB
        generalize H1 = H at X ⊢
        generalize locs1 = locs at X ⊢
        refine lv_if_eq (tgt := 94) hx hb dX12_told_87 (by decide) (fun c => ?_) (fun c => ?_)
        · replace hF := iT c hF
          exact (k_X12_told_94 l D hT aT yT n rec IH) C X (lv_sub hl [0, 1, 3] rfl) hF
        · replace hF := iF c hF
          exact (k_X12_told_90 l D hT aT yT n rec IH) C X (lv_sub hl [0, 1, 3] rfl) hF
set_option maxHeartbeats 4000000 in
set_option maxRecDepth 100000 in
theorem k_X12_told_45 (l : Launch) (D : Dx) (hT : Nat) (aT : Nat → Nat) (yT : Nat → ClassId) (n : Nat) (rec : (Gs → Int32 → Int32 → Int32 → Option (Int32)) × (Gs → Int32 → Int32 → Int32 → Option (Int32)) × (Gs → Int32 → Int32 → Int32 → Option (Int32))) (IH : SH_X12_told l D hT aT yT rec) : S_X12_told_45 l D hT aT yT (b_X12_told_45 n rec) := by
  intro p e s m args below meth c H locs A ls gT v1 v3 s0 q C X hl hF
  obtain ⟨hx, hb, hr, hml, hown, hts, hlk⟩ := id C
  unfold b_X12_told_45 at hF
  refine lv_istore_n (lv' := [(2, .int s0), (0, .ref hT), (1, .int v1), (3, .int v3)]) hx hb dX12_told_45 rfl hl (by decide) rfl (fun ls hl => ?_)
  refine lv_iinc (v := v3 + (1 : Int32)) (lv' := [(3, .int (v3 + (1 : Int32))), (2, .int s0), (0, .ref hT), (1, .int v1)]) hx hb dX12_told_46 hl (k := 3) rfl rfl (by decide) rfl (fun ls hl => ?_)
  refine lv_goto (tgt := 4) hx hb dX12_told_49 (by decide) ?_
  exact IH.1 C X (lv_sub hl [2, 3, 1, 0] rfl) hF
set_option maxHeartbeats 4000000 in
set_option maxRecDepth 100000 in
theorem k_X12_told_40 (l : Launch) (D : Dx) (hT : Nat) (aT : Nat → Nat) (yT : Nat → ClassId) (n : Nat) (rec : (Gs → Int32 → Int32 → Int32 → Option (Int32)) × (Gs → Int32 → Int32 → Int32 → Option (Int32)) × (Gs → Int32 → Int32 → Int32 → Option (Int32))) (IH : SH_X12_told l D hT aT yT rec) : S_X12_told_40 l D hT aT yT (b_X12_told_40 n rec) := by
  intro p e s m args below meth c H locs A ls gT v1 v3 q C X hl hF
  obtain ⟨hx, hb, hr, hml, hown, hts, hlk⟩ := id C
  unfold b_X12_told_40 at hF
  refine lv_iconst (v := (1 : Int32)) hx hb dX12_told_40 (by decide) ?_
  refine lv_goto (tgt := 45) hx hb dX12_told_41 (by decide) ?_
  exact (k_X12_told_45 l D hT aT yT n rec IH) C X (lv_sub hl [0, 1, 2] rfl) hF
set_option maxHeartbeats 4000000 in
set_option maxRecDepth 100000 in
theorem k_X12_told_44 (l : Launch) (D : Dx) (hT : Nat) (aT : Nat → Nat) (yT : Nat → ClassId) (n : Nat) (rec : (Gs → Int32 → Int32 → Int32 → Option (Int32)) × (Gs → Int32 → Int32 → Int32 → Option (Int32)) × (Gs → Int32 → Int32 → Int32 → Option (Int32))) (IH : SH_X12_told l D hT aT yT rec) : S_X12_told_44 l D hT aT yT (b_X12_told_44 n rec) := by
  intro p e s m args below meth c H locs A ls gT v1 v3 q C X hl hF
  obtain ⟨hx, hb, hr, hml, hown, hts, hlk⟩ := id C
  unfold b_X12_told_44 at hF
  refine lv_iconst (v := (0 : Int32)) hx hb dX12_told_44 (by decide) ?_
  exact (k_X12_told_45 l D hT aT yT n rec IH) C X (lv_sub hl [0, 1, 2] rfl) hF
set_option maxHeartbeats 4000000 in
set_option maxRecDepth 100000 in
theorem k_X12_told_4 (l : Launch) (D : Dx) (hT : Nat) (aT : Nat → Nat) (yT : Nat → ClassId) (n : Nat) (rec : (Gs → Int32 → Int32 → Int32 → Option (Int32)) × (Gs → Int32 → Int32 → Int32 → Option (Int32)) × (Gs → Int32 → Int32 → Int32 → Option (Int32))) (IH : SH_X12_told l D hT aT yT rec) : S_X12_told_4 l D hT aT yT (h_X12_told_4 n rec) := by
  intro p e s m args below meth c H locs A ls gT v1 v2 v3 q C X hl hF
  obtain ⟨hx, hb, hr, hml, hown, hts, hlk⟩ := id C
  unfold h_X12_told_4 at hF
  refine lv_iload_n hx hb dX12_told_4 rfl (lv_at hl 3 rfl) ?_
  refine lv_aload_n hx hb dX12_told_5 rfl (lv_at hl 0 rfl) ?_
  refine va_get (D := D.1) (ci := 12) (v := .int (gI gT 33)) (C := RX12) (T := TX12) (N := 114) hx hb hts wi_X12 hown X.1 X.2.1 0 rfl rfl 33 (by decide) (hts _ q6_227) (fun _ h9 => h9) (fl_get (by decide)) dX12_told_6 ?_
  refine lv_icmp_ge (tgt := 52) hx hb dX12_told_9 (by decide) (fun c => ?_) (fun c => ?_)
  · replace hF := iT c hF
    refine lv_iconst (v := (0 : Int32)) hx hb dX12_told_52 (by decide) ?_
    refine lv_istore_n (lv' := [(3, .int (0 : Int32)), (0, .ref hT), (1, .int v1), (2, .int v2)]) hx hb dX12_told_53 rfl hl (by decide) rfl (fun ls hl => ?_)
    exact IH.2.1 C X (lv_sub hl [1, 2, 3, 0] rfl) hF
  · replace hF := iF c hF
    refine lv_iload_n hx hb dX12_told_12 rfl (lv_at hl 2 rfl) ?_
    refine lv_if_ne (tgt := 40) hx hb dX12_told_13 (by decide) (fun c => ?_) (fun c => ?_)
    · replace hF := iF c hF
      exact (k_X12_told_40 l D hT aT yT n rec IH) C X (lv_sub hl [0, 1, 3] rfl) hF
    · replace hF := iT c hF
      refine lv_aload_n hx hb dX12_told_16 rfl (lv_at hl 0 rfl) ?_
      refine va_get (D := D.1) (ci := 12) (v := .ref (aT 37)) (C := RX12) (T := TX12) (N := 114) hx hb hts wi_X12 hown X.1 X.2.1 0 rfl rfl 37 (by decide) (hts _ q6_231) (fun _ h9 => h9) (fl_get (by decide)) dX12_told_17 ?_
      refine lv_iload_n hx hb dX12_told_20 rfl (lv_at hl 3 rfl) ?_
      obtain ⟨h_10, hF⟩ := grd_some hF
      refine va_iald (D := D.1) (f := gIA gT 37) hx hb X.1 X.2.1 19 18 rfl rfl (inB_ok h_10) dX12_told_21 ?_
      refine lv_iload_n hx hb dX12_told_22 rfl (lv_at hl 1 rfl) ?_
      refine lv_icmp_ge (tgt := 44) hx hb dX12_told_23 (by decide) (fun c => ?_) (fun c => ?_)
      · replace hF := iT c hF
        exact (k_X12_told_44 l D hT aT yT n rec IH) C X (lv_sub hl [0, 1, 3] rfl) hF
      · replace hF := iF c hF
        refine lv_aload_n hx hb dX12_told_26 rfl (lv_at hl 0 rfl) ?_
        refine lv_aload_n hx hb dX12_told_27 rfl (lv_at hl 0 rfl) ?_
        refine va_get (D := D.1) (ci := 12) (v := .ref (aT 37)) (C := RX12) (T := TX12) (N := 114) hx hb hts wi_X12 hown X.1 X.2.1 0 rfl rfl 37 (by decide) (hts _ q6_231) (fun _ h9 => h9) (fl_get (by decide)) dX12_told_28 ?_
        refine lv_iload_n hx hb dX12_told_31 rfl (lv_at hl 3 rfl) ?_
        obtain ⟨h_11, hF⟩ := grd_some hF
        refine va_iald (D := D.1) (f := gIA gT 37) hx hb X.1 X.2.1 19 18 rfl rfl (inB_ok h_11) dX12_told_32 ?_
        refine lv_iload_n hx hb dX12_told_33 rfl (lv_at hl 1 rfl) ?_
        obtain ⟨q_12, hc_13, hF⟩ := bnd_some hF
        refine cV_i (As := [.int (gIA gT 37 v3.toNatClampNeg), .int v1]) (rest := []) C X (c_X12_alike l D hT aT yT n gT (gIA gT 37 v3.toNatClampNeg) v1 q_12 hc_13 _) (cwV 2 hts (good_V q9_20 q9_22 q0_99 q1_9 q9_23) rfl rfl rfl (by decide +kernel) ⟨Nat.le_of_ble_eq_true rfl, Nat.le_of_ble_eq_true rfl⟩) (va_recv X.1 X.2.1 (ci := 12) (q0 := 0) rfl rfl) X.1 X.2.1 X.2.2.1 (free_all X) hl.1 rfl rfl (Nat.le_of_ble_eq_true rfl) dX12_told_34 ⟨Nat.le_of_ble_eq_true rfl, Nat.le_of_ble_eq_true rfl⟩ (fun t H1 locs1 ht hB hk hS => ?_)
        have X : Hx D (tX12 yT) A s H1 locs1 (wX12 hT aT yT gT) := Hx_after_all X ht hB hS
        clear hk hS ht hB
        generalize H1 = H at X ⊢
        generalize locs1 = locs at X ⊢
        refine lv_if_eq (tgt := 44) hx hb dX12_told_37 (by decide) (fun c => ?_) (fun c => ?_)
        · replace hF := iT c hF
          exact (k_X12_told_44 l D hT aT yT n rec IH) C X (lv_sub hl [0, 1, 3] rfl) hF
        · replace hF := iF c hF
          exact (k_X12_told_40 l D hT aT yT n rec IH) C X (lv_sub hl [0, 1, 3] rfl) hF
theorem kL_X12_told (l : Launch) (D : Dx) (hT : Nat) (aT : Nat → Nat) (yT : Nat → ClassId) (n : Nat) : ∀ k, SH_X12_told l D hT aT yT (L_X12_told n k)
  | 0 => ⟨(fun _ _ _ h => by cases h), (fun _ _ _ h => by cases h), (fun _ _ _ h => by cases h)⟩
  | k + 1 => ⟨k_X12_told_4 l D hT aT yT n _ (kL_X12_told l D hT aT yT n k), k_X12_told_54 l D hT aT yT n _ (kL_X12_told l D hT aT yT n k), k_X12_told_104 l D hT aT yT n _ (kL_X12_told l D hT aT yT n k)⟩
set_option maxHeartbeats 4000000 in
set_option maxRecDepth 100000 in
theorem c_X12_told (l : Launch) (D : Dx) (hT : Nat) (aT : Nat → Nat) (yT : Nat → ClassId) (n : Nat) (gT : Gs) (x0 : Int32) (q : Int32) (hF : f_X12_told n gT x0 = some q) (sz : Nat) : Met l yX12_told (ws_ yX12_told cX12_told 4 (some .boolean)) R_X12_told (PC D (tX12 yT) [.ref hT, .int x0] (wX12 hT aT yT gT) sz) (QI D (va_A (wX12 hT aT yT gT) sz) (wX12 hT aT yT gT) q) 0 0 (va_A (wX12 hT aT yT gT) sz) := by
  refine Met.ofW (cc := cX12_told) (maxL := 4) (ret := (some .boolean)) (by decide) rfl ?_
  intro p e s m args below meth c s₁ B hml hv
  obtain ⟨rfl, hsz, hP, hK, hD, hN⟩ := hv
  subst hsz
  have C : Cx p s m _ meth c cX12_told (some .boolean) 4 RX12 lw_all := Cx_of B hml
  have X := Hx_start hP hK hD hN
  obtain ⟨hx, hb, hr, -, hown, hts, hlk⟩ := id C
  generalize va_A (wX12 hT aT yT gT) s.heap.size = A at X ⊢
  have hl := lv_entry ([.ref hT, .int x0]) (n := 4) (Nat.le_of_ble_eq_true rfl)
  rw [lg_entry_eq]
  generalize (lg_sl ([.ref hT, .int x0]) ++ List.replicate (4 - (lg_sl ([.ref hT, .int x0])).length) Slot.unset).toArray = ls at hl ⊢
  have hl : lv_has ls 4 [(0, .ref hT), (1, .int x0)] := hl
  unfold f_X12_told at hF
  refine lv_iconst (v := (0 : Int32)) hx hb dX12_told_0 (by decide) ?_
  refine lv_istore_n (lv' := [(2, .int (0 : Int32)), (0, .ref hT), (1, .int x0)]) hx hb dX12_told_1 rfl hl (by decide) rfl (fun ls hl => ?_)
  refine lv_iconst (v := (0 : Int32)) hx hb dX12_told_2 (by decide) ?_
  refine lv_istore_n (lv' := [(3, .int (0 : Int32)), (2, .int (0 : Int32)), (0, .ref hT), (1, .int x0)]) hx hb dX12_told_3 rfl hl (by decide) rfl (fun ls hl => ?_)
  exact (kL_X12_told l D hT aT yT n n).1 C X (lv_sub hl [2, 3, 1, 0] rfl) hF

/-! ### X12_means -/
theorem dX12_means_0 : decode cX12_means 0 = .ok (.iconst 0, 1) := by decide +kernel
theorem dX12_means_1 : decode cX12_means 1 = .ok (.istore_n 1, 1) := by decide +kernel
theorem dX12_means_2 : decode cX12_means 2 = .ok (.iload_n 1, 1) := by decide +kernel
theorem dX12_means_3 : decode cX12_means 3 = .ok (.aload_n 0, 1) := by decide +kernel
theorem dX12_means_4 : decode cX12_means 4 = .ok (.getfield 138, 3) := by decide +kernel
theorem dX12_means_7 : decode cX12_means 7 = .ok (.if_icmp .ge 178, 3) := by decide +kernel
theorem dX12_means_10 : decode cX12_means 10 = .ok (.aload_n 0, 1) := by decide +kernel
theorem dX12_means_11 : decode cX12_means 11 = .ok (.getfield 144, 3) := by decide +kernel
theorem dX12_means_14 : decode cX12_means 14 = .ok (.iload_n 1, 1) := by decide +kernel
theorem dX12_means_15 : decode cX12_means 15 = .ok (.iaload, 1) := by decide +kernel
theorem dX12_means_16 : decode cX12_means 16 = .ok (.istore_n 2, 1) := by decide +kernel
theorem dX12_means_17 : decode cX12_means 17 = .ok (.iconst 0, 1) := by decide +kernel
theorem dX12_means_18 : decode cX12_means 18 = .ok (.istore_n 3, 1) := by decide +kernel
theorem dX12_means_19 : decode cX12_means 19 = .ok (.aload_n 0, 1) := by decide +kernel
theorem dX12_means_20 : decode cX12_means 20 = .ok (.getfield 141, 3) := by decide +kernel
theorem dX12_means_23 : decode cX12_means 23 = .ok (.iload_n 1, 1) := by decide +kernel
theorem dX12_means_24 : decode cX12_means 24 = .ok (.iaload, 1) := by decide +kernel
theorem dX12_means_25 : decode cX12_means 25 = .ok (.ifCond .ne 12, 3) := by decide +kernel
theorem dX12_means_28 : decode cX12_means 28 = .ok (.aload_n 0, 1) := by decide +kernel
theorem dX12_means_29 : decode cX12_means 29 = .ok (.iload_n 2, 1) := by decide +kernel
theorem dX12_means_30 : decode cX12_means 30 = .ok (.invokevirtual 609, 3) := by decide +kernel
theorem dX12_means_33 : decode cX12_means 33 = .ok (.istore_n 3, 1) := by decide +kernel
theorem dX12_means_34 : decode cX12_means 34 = .ok (.goto 129, 3) := by decide +kernel
theorem dX12_means_37 : decode cX12_means 37 = .ok (.aload_n 0, 1) := by decide +kernel
theorem dX12_means_38 : decode cX12_means 38 = .ok (.getfield 141, 3) := by decide +kernel
theorem dX12_means_41 : decode cX12_means 41 = .ok (.iload_n 1, 1) := by decide +kernel
theorem dX12_means_42 : decode cX12_means 42 = .ok (.iaload, 1) := by decide +kernel
theorem dX12_means_43 : decode cX12_means 43 = .ok (.iconst 1, 1) := by decide +kernel
theorem dX12_means_44 : decode cX12_means 44 = .ok (.if_icmp .ne 7, 3) := by decide +kernel
theorem dX12_means_47 : decode cX12_means 47 = .ok (.iconst 1, 1) := by decide +kernel
theorem dX12_means_48 : decode cX12_means 48 = .ok (.goto 4, 3) := by decide +kernel
theorem dX12_means_51 : decode cX12_means 51 = .ok (.iconst 0, 1) := by decide +kernel
theorem dX12_means_52 : decode cX12_means 52 = .ok (.istore 4, 2) := by decide +kernel
theorem dX12_means_54 : decode cX12_means 54 = .ok (.iload 4, 2) := by decide +kernel
theorem dX12_means_56 : decode cX12_means 56 = .ok (.ifCond .eq 19, 3) := by decide +kernel
theorem dX12_means_59 : decode cX12_means 59 = .ok (.aload_n 0, 1) := by decide +kernel
theorem dX12_means_60 : decode cX12_means 60 = .ok (.aload_n 0, 1) := by decide +kernel
theorem dX12_means_61 : decode cX12_means 61 = .ok (.getfield 168, 3) := by decide +kernel
theorem dX12_means_64 : decode cX12_means 64 = .ok (.aload_n 0, 1) := by decide +kernel
theorem dX12_means_65 : decode cX12_means 65 = .ok (.getfield 156, 3) := by decide +kernel
theorem dX12_means_68 : decode cX12_means 68 = .ok (.iload_n 2, 1) := by decide +kernel
theorem dX12_means_69 : decode cX12_means 69 = .ok (.invokevirtual 612, 3) := by decide +kernel
theorem dX12_means_72 : decode cX12_means 72 = .ok (.goto 16, 3) := by decide +kernel
theorem dX12_means_75 : decode cX12_means 75 = .ok (.aload_n 0, 1) := by decide +kernel
theorem dX12_means_76 : decode cX12_means 76 = .ok (.aload_n 0, 1) := by decide +kernel
theorem dX12_means_77 : decode cX12_means 77 = .ok (.getfield 217, 3) := by decide +kernel
theorem dX12_means_80 : decode cX12_means 80 = .ok (.aload_n 0, 1) := by decide +kernel
theorem dX12_means_81 : decode cX12_means 81 = .ok (.getfield 162, 3) := by decide +kernel
theorem dX12_means_84 : decode cX12_means 84 = .ok (.iload_n 2, 1) := by decide +kernel
theorem dX12_means_85 : decode cX12_means 85 = .ok (.invokevirtual 612, 3) := by decide +kernel
theorem dX12_means_88 : decode cX12_means 88 = .ok (.istore 5, 2) := by decide +kernel
theorem dX12_means_90 : decode cX12_means 90 = .ok (.iload 4, 2) := by decide +kernel
theorem dX12_means_92 : decode cX12_means 92 = .ok (.ifCond .eq 12, 3) := by decide +kernel
theorem dX12_means_95 : decode cX12_means 95 = .ok (.aload_n 0, 1) := by decide +kernel
theorem dX12_means_96 : decode cX12_means 96 = .ok (.getfield 147, 3) := by decide +kernel
theorem dX12_means_99 : decode cX12_means 99 = .ok (.iload_n 1, 1) := by decide +kernel
theorem dX12_means_100 : decode cX12_means 100 = .ok (.iaload, 1) := by decide +kernel
theorem dX12_means_101 : decode cX12_means 101 = .ok (.goto 9, 3) := by decide +kernel
theorem dX12_means_104 : decode cX12_means 104 = .ok (.aload_n 0, 1) := by decide +kernel
theorem dX12_means_105 : decode cX12_means 105 = .ok (.getfield 150, 3) := by decide +kernel
theorem dX12_means_108 : decode cX12_means 108 = .ok (.iload_n 1, 1) := by decide +kernel
theorem dX12_means_109 : decode cX12_means 109 = .ok (.iaload, 1) := by decide +kernel
theorem dX12_means_110 : decode cX12_means 110 = .ok (.istore 6, 2) := by decide +kernel
theorem dX12_means_112 : decode cX12_means 112 = .ok (.iload 5, 2) := by decide +kernel
theorem dX12_means_114 : decode cX12_means 114 = .ok (.iload 4, 2) := by decide +kernel
theorem dX12_means_116 : decode cX12_means 116 = .ok (.ifCond .eq 10, 3) := by decide +kernel
theorem dX12_means_119 : decode cX12_means 119 = .ok (.aload_n 0, 1) := by decide +kernel
theorem dX12_means_120 : decode cX12_means 120 = .ok (.getfield 156, 3) := by decide +kernel
theorem dX12_means_123 : decode cX12_means 123 = .ok (.goto 7, 3) := by decide +kernel
theorem dX12_means_126 : decode cX12_means 126 = .ok (.aload_n 0, 1) := by decide +kernel
theorem dX12_means_127 : decode cX12_means 127 = .ok (.getfield 162, 3) := by decide +kernel
theorem dX12_means_130 : decode cX12_means 130 = .ok (.if_icmp .eq 10, 3) := by decide +kernel
theorem dX12_means_133 : decode cX12_means 133 = .ok (.iload 5, 2) := by decide +kernel
theorem dX12_means_135 : decode cX12_means 135 = .ok (.iload 6, 2) := by decide +kernel
theorem dX12_means_137 : decode cX12_means 137 = .ok (.if_icmp .lt 7, 3) := by decide +kernel
theorem dX12_means_140 : decode cX12_means 140 = .ok (.iconst 1, 1) := by decide +kernel
theorem dX12_means_141 : decode cX12_means 141 = .ok (.goto 4, 3) := by decide +kernel
theorem dX12_means_144 : decode cX12_means 144 = .ok (.iconst 0, 1) := by decide +kernel
theorem dX12_means_145 : decode cX12_means 145 = .ok (.istore_n 3, 1) := by decide +kernel
theorem dX12_means_146 : decode cX12_means 146 = .ok (.iload_n 3, 1) := by decide +kernel
theorem dX12_means_147 : decode cX12_means 147 = .ok (.ifCond .ne 16, 3) := by decide +kernel
theorem dX12_means_150 : decode cX12_means 150 = .ok (.aload_n 0, 1) := by decide +kernel
theorem dX12_means_151 : decode cX12_means 151 = .ok (.getfield 101, 3) := by decide +kernel
theorem dX12_means_154 : decode cX12_means 154 = .ok (.aload_n 0, 1) := by decide +kernel
theorem dX12_means_155 : decode cX12_means 155 = .ok (.getfield 153, 3) := by decide +kernel
theorem dX12_means_158 : decode cX12_means 158 = .ok (.iload_n 1, 1) := by decide +kernel
theorem dX12_means_159 : decode cX12_means 159 = .ok (.iaload, 1) := by decide +kernel
theorem dX12_means_160 : decode cX12_means 160 = .ok (.iload 5, 2) := by decide +kernel
theorem dX12_means_162 : decode cX12_means 162 = .ok (.iastore, 1) := by decide +kernel
theorem dX12_means_163 : decode cX12_means 163 = .ok (.iload_n 3, 1) := by decide +kernel
theorem dX12_means_164 : decode cX12_means 164 = .ok (.ifCond .eq 15, 3) := by decide +kernel
theorem dX12_means_167 : decode cX12_means 167 = .ok (.aload_n 0, 1) := by decide +kernel
theorem dX12_means_168 : decode cX12_means 168 = .ok (.iconst 3, 1) := by decide +kernel
theorem dX12_means_169 : decode cX12_means 169 = .ok (.aload_n 0, 1) := by decide +kernel
theorem dX12_means_170 : decode cX12_means 170 = .ok (.getfield 86, 3) := by decide +kernel
theorem dX12_means_173 : decode cX12_means 173 = .ok (.iload_n 2, 1) := by decide +kernel
theorem dX12_means_174 : decode cX12_means 174 = .ok (.iaload, 1) := by decide +kernel
theorem dX12_means_175 : decode cX12_means 175 = .ok (.invokevirtual 537, 3) := by decide +kernel
theorem dX12_means_178 : decode cX12_means 178 = .ok (.ireturn, 1) := by decide +kernel
theorem dX12_means_179 : decode cX12_means 179 = .ok (.iinc 1 1, 3) := by decide +kernel
theorem dX12_means_182 : decode cX12_means 182 = .ok (.goto (-180), 3) := by decide +kernel
theorem dX12_means_185 : decode cX12_means 185 = .ok (.iconst 1, 1) := by decide +kernel
theorem dX12_means_186 : decode cX12_means 186 = .ok (.ireturn, 1) := by decide +kernel
abbrev R_X12_means : Room := ({ frames := 2, cells := 0, slots := 0, locals := 49 } : Room)
def b_X12_means_163 (n : Nat) (rec : (Gs → Int32 → Option (Int32 × Gs))) (gT : Gs) (v1 : Int32) (v2 : Int32) (v3 : Int32) : Option (Int32 × Gs) :=
  if v3 = 0 then (rec gT (v1 + (1 : Int32))) else (grd (inB v2 3001) (bnd (f_X12_fault gT (3 : Int32) (gIA gT 10 v2.toNatClampNeg)) (fun q_8 => grd (zB q_8.1) (some (q_8.1, q_8.2)))))
def b_X12_means_145 (n : Nat) (rec : (Gs → Int32 → Option (Int32 × Gs))) (gT : Gs) (v1 : Int32) (v2 : Int32) (v5 : Int32) (s0 : Int32) : Option (Int32 × Gs) :=
  if s0 = 0 then (grd (inB v1 3001) (grd (inB (gIA gT 32 v1.toNatClampNeg) 8000) (b_X12_means_163 n rec (sIA gT 15 (upd (gIA gT 15) (gIA gT 32 v1.toNatClampNeg).toNatClampNeg v5)) v1 v2 s0))) else (b_X12_means_163 n rec gT v1 v2 s0)
def b_X12_means_140 (n : Nat) (rec : (Gs → Int32 → Option (Int32 × Gs))) (gT : Gs) (v1 : Int32) (v2 : Int32) (v5 : Int32) : Option (Int32 × Gs) :=
  b_X12_means_145 n rec gT v1 v2 v5 (1 : Int32)
def b_X12_means_130 (n : Nat) (rec : (Gs → Int32 → Option (Int32 × Gs))) (gT : Gs) (v1 : Int32) (v2 : Int32) (v5 : Int32) (v6 : Int32) (s0 : Int32) (s1 : Int32) : Option (Int32 × Gs) :=
  if s1 = s0 then (b_X12_means_140 n rec gT v1 v2 v5) else (if v5 < v6 then (b_X12_means_145 n rec gT v1 v2 v5 (0 : Int32)) else (b_X12_means_140 n rec gT v1 v2 v5))
def b_X12_means_110 (n : Nat) (rec : (Gs → Int32 → Option (Int32 × Gs))) (gT : Gs) (v1 : Int32) (v2 : Int32) (v4 : Int32) (v5 : Int32) (s0 : Int32) : Option (Int32 × Gs) :=
  if v4 = 0 then (b_X12_means_130 n rec gT v1 v2 v5 s0 (gI gT 35) v5) else (b_X12_means_130 n rec gT v1 v2 v5 s0 (gI gT 33) v5)
def b_X12_means_88 (n : Nat) (rec : (Gs → Int32 → Option (Int32 × Gs))) (gT : Gs) (v1 : Int32) (v2 : Int32) (v4 : Int32) (s0 : Int32) : Option (Int32 × Gs) :=
  if v4 = 0 then (grd (inB v1 3001) (b_X12_means_110 n rec gT v1 v2 v4 s0 (gIA gT 31 v1.toNatClampNeg))) else (grd (inB v1 3001) (b_X12_means_110 n rec gT v1 v2 v4 s0 (gIA gT 30 v1.toNatClampNeg)))
def b_X12_means_52 (n : Nat) (rec : (Gs → Int32 → Option (Int32 × Gs))) (gT : Gs) (v1 : Int32) (v2 : Int32) (s0 : Int32) : Option (Int32 × Gs) :=
  if s0 = 0 then (bnd (f_X12_rowOf__0a53 n gT (gI gT 35) v2) (fun q_4 => b_X12_means_88 n rec gT v1 v2 s0 q_4)) else (bnd (f_X12_rowOf__0a37 n gT (gI gT 33) v2) (fun q_14 => b_X12_means_88 n rec gT v1 v2 s0 q_14))
def h_X12_means_2 (n : Nat) (rec : (Gs → Int32 → Option (Int32 × Gs))) (gT : Gs) (v1 : Int32) : Option (Int32 × Gs) :=
  if (gI gT 27) ≤ v1 then (some ((1 : Int32), gT)) else (grd (inB v1 3001) (grd (inB v1 3001) (if (gIA gT 28 v1.toNatClampNeg) = 0 then (bnd (f_X12_told n gT (gIA gT 29 v1.toNatClampNeg)) (fun q_16 => b_X12_means_163 n rec gT v1 (gIA gT 29 v1.toNatClampNeg) q_16)) else (grd (inB v1 3001) (if (gIA gT 28 v1.toNatClampNeg) = (1 : Int32) then (b_X12_means_52 n rec gT v1 (gIA gT 29 v1.toNatClampNeg) (1 : Int32)) else (b_X12_means_52 n rec gT v1 (gIA gT 29 v1.toNatClampNeg) (0 : Int32)))))))
def L_X12_means (n : Nat) : Nat → (Gs → Int32 → Option (Int32 × Gs))
  | 0 => ((fun _ _ => none))
  | k + 1 => (h_X12_means_2 n (L_X12_means n k))
def f_X12_means (n : Nat) (gT : Gs) : Option (Int32 × Gs) :=
  (L_X12_means n n) gT (0 : Int32)
def S_X12_means_163 (l : Launch) (D : Dx) (hT : Nat) (aT : Nat → Nat) (yT : Nat → ClassId) (fn : Gs → Int32 → Int32 → Int32 → Option (Int32 × Gs)) : Prop :=
  ∀ {p : Program} {e : Env} {s : State} {m : MethodId} {args : Array Value} {below : List Frame} {meth : Method} {c : Code} {H : Heap} {locs : List Loc} {A : Nat → Prop} {ls : Array Slot} {gT : Gs} {v1 : Int32} {v2 : Int32} {v3 : Int32} {q : Int32 × Gs}, Cx p s m args meth c cX12_means (some .boolean) 7 RX12 lw_all → Hx D (tX12 yT) A s H locs (wX12 hT aT yT gT) → lv_has ls 7 [(0, .ref hT), (1, .int v1), (2, .int v2), (3, .int v3)] → fn gT v1 v2 v3 = some q → W p l e R_X12_means s m args below meth c H locs 0 0 (MQ below (QI D A (wX12 hT aT yT q.2) q.1) args s 0 0 A) (F0 m 163 ls [])
def S_X12_means_145 (l : Launch) (D : Dx) (hT : Nat) (aT : Nat → Nat) (yT : Nat → ClassId) (fn : Gs → Int32 → Int32 → Int32 → Int32 → Option (Int32 × Gs)) : Prop :=
  ∀ {p : Program} {e : Env} {s : State} {m : MethodId} {args : Array Value} {below : List Frame} {meth : Method} {c : Code} {H : Heap} {locs : List Loc} {A : Nat → Prop} {ls : Array Slot} {gT : Gs} {v1 : Int32} {v2 : Int32} {v5 : Int32} {s0 : Int32} {q : Int32 × Gs}, Cx p s m args meth c cX12_means (some .boolean) 7 RX12 lw_all → Hx D (tX12 yT) A s H locs (wX12 hT aT yT gT) → lv_has ls 7 [(0, .ref hT), (1, .int v1), (2, .int v2), (5, .int v5)] → fn gT v1 v2 v5 s0 = some q → W p l e R_X12_means s m args below meth c H locs 0 0 (MQ below (QI D A (wX12 hT aT yT q.2) q.1) args s 0 0 A) (F0 m 145 ls [.int s0])
def S_X12_means_140 (l : Launch) (D : Dx) (hT : Nat) (aT : Nat → Nat) (yT : Nat → ClassId) (fn : Gs → Int32 → Int32 → Int32 → Option (Int32 × Gs)) : Prop :=
  ∀ {p : Program} {e : Env} {s : State} {m : MethodId} {args : Array Value} {below : List Frame} {meth : Method} {c : Code} {H : Heap} {locs : List Loc} {A : Nat → Prop} {ls : Array Slot} {gT : Gs} {v1 : Int32} {v2 : Int32} {v5 : Int32} {q : Int32 × Gs}, Cx p s m args meth c cX12_means (some .boolean) 7 RX12 lw_all → Hx D (tX12 yT) A s H locs (wX12 hT aT yT gT) → lv_has ls 7 [(0, .ref hT), (1, .int v1), (2, .int v2), (5, .int v5)] → fn gT v1 v2 v5 = some q → W p l e R_X12_means s m args below meth c H locs 0 0 (MQ below (QI D A (wX12 hT aT yT q.2) q.1) args s 0 0 A) (F0 m 140 ls [])
def S_X12_means_130 (l : Launch) (D : Dx) (hT : Nat) (aT : Nat → Nat) (yT : Nat → ClassId) (fn : Gs → Int32 → Int32 → Int32 → Int32 → Int32 → Int32 → Option (Int32 × Gs)) : Prop :=
  ∀ {p : Program} {e : Env} {s : State} {m : MethodId} {args : Array Value} {below : List Frame} {meth : Method} {c : Code} {H : Heap} {locs : List Loc} {A : Nat → Prop} {ls : Array Slot} {gT : Gs} {v1 : Int32} {v2 : Int32} {v5 : Int32} {v6 : Int32} {s0 : Int32} {s1 : Int32} {q : Int32 × Gs}, Cx p s m args meth c cX12_means (some .boolean) 7 RX12 lw_all → Hx D (tX12 yT) A s H locs (wX12 hT aT yT gT) → lv_has ls 7 [(0, .ref hT), (1, .int v1), (2, .int v2), (5, .int v5), (6, .int v6)] → fn gT v1 v2 v5 v6 s0 s1 = some q → W p l e R_X12_means s m args below meth c H locs 0 0 (MQ below (QI D A (wX12 hT aT yT q.2) q.1) args s 0 0 A) (F0 m 130 ls [.int s0, .int s1])
def S_X12_means_110 (l : Launch) (D : Dx) (hT : Nat) (aT : Nat → Nat) (yT : Nat → ClassId) (fn : Gs → Int32 → Int32 → Int32 → Int32 → Int32 → Option (Int32 × Gs)) : Prop :=
  ∀ {p : Program} {e : Env} {s : State} {m : MethodId} {args : Array Value} {below : List Frame} {meth : Method} {c : Code} {H : Heap} {locs : List Loc} {A : Nat → Prop} {ls : Array Slot} {gT : Gs} {v1 : Int32} {v2 : Int32} {v4 : Int32} {v5 : Int32} {s0 : Int32} {q : Int32 × Gs}, Cx p s m args meth c cX12_means (some .boolean) 7 RX12 lw_all → Hx D (tX12 yT) A s H locs (wX12 hT aT yT gT) → lv_has ls 7 [(0, .ref hT), (1, .int v1), (2, .int v2), (4, .int v4), (5, .int v5)] → fn gT v1 v2 v4 v5 s0 = some q → W p l e R_X12_means s m args below meth c H locs 0 0 (MQ below (QI D A (wX12 hT aT yT q.2) q.1) args s 0 0 A) (F0 m 110 ls [.int s0])
def S_X12_means_88 (l : Launch) (D : Dx) (hT : Nat) (aT : Nat → Nat) (yT : Nat → ClassId) (fn : Gs → Int32 → Int32 → Int32 → Int32 → Option (Int32 × Gs)) : Prop :=
  ∀ {p : Program} {e : Env} {s : State} {m : MethodId} {args : Array Value} {below : List Frame} {meth : Method} {c : Code} {H : Heap} {locs : List Loc} {A : Nat → Prop} {ls : Array Slot} {gT : Gs} {v1 : Int32} {v2 : Int32} {v4 : Int32} {s0 : Int32} {q : Int32 × Gs}, Cx p s m args meth c cX12_means (some .boolean) 7 RX12 lw_all → Hx D (tX12 yT) A s H locs (wX12 hT aT yT gT) → lv_has ls 7 [(0, .ref hT), (1, .int v1), (2, .int v2), (4, .int v4)] → fn gT v1 v2 v4 s0 = some q → W p l e R_X12_means s m args below meth c H locs 0 0 (MQ below (QI D A (wX12 hT aT yT q.2) q.1) args s 0 0 A) (F0 m 88 ls [.int s0])
def S_X12_means_52 (l : Launch) (D : Dx) (hT : Nat) (aT : Nat → Nat) (yT : Nat → ClassId) (fn : Gs → Int32 → Int32 → Int32 → Option (Int32 × Gs)) : Prop :=
  ∀ {p : Program} {e : Env} {s : State} {m : MethodId} {args : Array Value} {below : List Frame} {meth : Method} {c : Code} {H : Heap} {locs : List Loc} {A : Nat → Prop} {ls : Array Slot} {gT : Gs} {v1 : Int32} {v2 : Int32} {s0 : Int32} {q : Int32 × Gs}, Cx p s m args meth c cX12_means (some .boolean) 7 RX12 lw_all → Hx D (tX12 yT) A s H locs (wX12 hT aT yT gT) → lv_has ls 7 [(0, .ref hT), (1, .int v1), (2, .int v2)] → fn gT v1 v2 s0 = some q → W p l e R_X12_means s m args below meth c H locs 0 0 (MQ below (QI D A (wX12 hT aT yT q.2) q.1) args s 0 0 A) (F0 m 52 ls [.int s0])
def S_X12_means_2 (l : Launch) (D : Dx) (hT : Nat) (aT : Nat → Nat) (yT : Nat → ClassId) (fn : Gs → Int32 → Option (Int32 × Gs)) : Prop :=
  ∀ {p : Program} {e : Env} {s : State} {m : MethodId} {args : Array Value} {below : List Frame} {meth : Method} {c : Code} {H : Heap} {locs : List Loc} {A : Nat → Prop} {ls : Array Slot} {gT : Gs} {v1 : Int32} {q : Int32 × Gs}, Cx p s m args meth c cX12_means (some .boolean) 7 RX12 lw_all → Hx D (tX12 yT) A s H locs (wX12 hT aT yT gT) → lv_has ls 7 [(0, .ref hT), (1, .int v1)] → fn gT v1 = some q → W p l e R_X12_means s m args below meth c H locs 0 0 (MQ below (QI D A (wX12 hT aT yT q.2) q.1) args s 0 0 A) (F0 m 2 ls [])
def SH_X12_means (l : Launch) (D : Dx) (hT : Nat) (aT : Nat → Nat) (yT : Nat → ClassId) (rec : (Gs → Int32 → Option (Int32 × Gs))) : Prop := S_X12_means_2 l D hT aT yT rec
set_option maxHeartbeats 4000000 in
set_option maxRecDepth 100000 in
theorem k_X12_means_163 (l : Launch) (D : Dx) (hT : Nat) (aT : Nat → Nat) (yT : Nat → ClassId) (n : Nat) (rec : (Gs → Int32 → Option (Int32 × Gs))) (IH : SH_X12_means l D hT aT yT rec) : S_X12_means_163 l D hT aT yT (b_X12_means_163 n rec) := by
  intro p e s m args below meth c H locs A ls gT v1 v2 v3 q C X hl hF
  obtain ⟨hx, hb, hr, hml, hown, hts, hlk⟩ := id C
  unfold b_X12_means_163 at hF
  refine lv_iload_n hx hb dX12_means_163 rfl (lv_at hl 3 rfl) ?_
  refine lv_if_eq (tgt := 179) hx hb dX12_means_164 (by decide) (fun c => ?_) (fun c => ?_)
  · replace hF := iT c hF
    refine lv_iinc (v := v1 + (1 : Int32)) (lv' := [(1, .int (v1 + (1 : Int32))), (0, .ref hT), (2, .int v2), (3, .int v3)]) hx hb dX12_means_179 hl (k := 1) rfl rfl (by decide) rfl (fun ls hl => ?_)
    refine lv_goto (tgt := 2) hx hb dX12_means_182 (by decide) ?_
    exact IH C X (lv_sub hl [1, 0] rfl) hF
  · replace hF := iF c hF
    refine lv_aload_n hx hb dX12_means_167 rfl (lv_at hl 0 rfl) ?_
    refine lv_iconst (v := (3 : Int32)) hx hb dX12_means_168 (by decide) ?_
    refine lv_aload_n hx hb dX12_means_169 rfl (lv_at hl 0 rfl) ?_
    refine va_get (D := D.1) (ci := 12) (v := .ref (aT 10)) (C := RX12) (T := TX12) (N := 114) hx hb hts wi_X12 hown X.1 X.2.1 0 rfl rfl 10 (by decide) (hts _ q6_204) (fun _ h9 => h9) (fl_get (by decide)) dX12_means_170 ?_
    refine lv_iload_n hx hb dX12_means_173 rfl (lv_at hl 2 rfl) ?_
    obtain ⟨h_7, hF⟩ := grd_some hF
    refine va_iald (D := D.1) (f := gIA gT 10) hx hb X.1 X.2.1 5 4 rfl rfl (inB_ok h_7) dX12_means_174 ?_
    obtain ⟨q_8, hc_9, hF⟩ := bnd_some hF
    refine cV_i (As := [.int (3 : Int32), .int (gIA gT 10 v2.toNatClampNeg)]) (rest := []) C X (c_X12_fault l D hT aT yT gT (3 : Int32) (gIA gT 10 v2.toNatClampNeg) q_8 hc_9 _) (cwV 2 hts (good_V q8_177 q8_179 q0_79 q1_9 q8_180) rfl rfl rfl (by decide +kernel) ⟨Nat.le_of_ble_eq_true rfl, Nat.le_of_ble_eq_true rfl⟩) (va_recv X.1 X.2.1 (ci := 12) (q0 := 0) rfl rfl) X.1 X.2.1 X.2.2.1 (free_all X) hl.1 rfl rfl (Nat.le_of_ble_eq_true rfl) dX12_means_175 ⟨Nat.le_of_ble_eq_true rfl, Nat.le_of_ble_eq_true rfl⟩ (fun t H1 locs1 ht hB hk hS => ?_)
    have X : Hx D (tX12 yT) A s H1 locs1 (wX12 hT aT yT q_8.2) := Hx_after_all X ht hB hS
    clear hk hS ht hB
    generalize H1 = H at X ⊢
    generalize locs1 = locs at X ⊢
    obtain ⟨h_10, hF⟩ := grd_some hF
    have hq := Option.some.inj hF
    subst hq
    exact rt_z (v := q_8.1) C X (zB_n h_10) dX12_means_178
set_option maxHeartbeats 4000000 in
set_option maxRecDepth 100000 in
theorem k_X12_means_145 (l : Launch) (D : Dx) (hT : Nat) (aT : Nat → Nat) (yT : Nat → ClassId) (n : Nat) (rec : (Gs → Int32 → Option (Int32 × Gs))) (IH : SH_X12_means l D hT aT yT rec) : S_X12_means_145 l D hT aT yT (b_X12_means_145 n rec) := by
  intro p e s m args below meth c H locs A ls gT v1 v2 v5 s0 q C X hl hF
  obtain ⟨hx, hb, hr, hml, hown, hts, hlk⟩ := id C
  unfold b_X12_means_145 at hF
  refine lv_istore_n (lv' := [(3, .int s0), (0, .ref hT), (1, .int v1), (2, .int v2), (5, .int v5)]) hx hb dX12_means_145 rfl hl (by decide) rfl (fun ls hl => ?_)
  refine lv_iload_n hx hb dX12_means_146 rfl (lv_at hl 0 rfl) ?_
  refine lv_if_ne (tgt := 163) hx hb dX12_means_147 (by decide) (fun c => ?_) (fun c => ?_)
  · replace hF := iF c hF
    exact (k_X12_means_163 l D hT aT yT n rec IH) C X (lv_sub hl [1, 2, 3, 0] rfl) hF
  · replace hF := iT c hF
    refine lv_aload_n hx hb dX12_means_150 rfl (lv_at hl 1 rfl) ?_
    refine va_get (D := D.1) (ci := 12) (v := .ref (aT 15)) (C := RX12) (T := TX12) (N := 114) hx hb hts wi_X12 hown X.1 X.2.1 0 rfl rfl 15 (by decide) (hts _ q6_209) (fun _ h9 => h9) (fl_get (by decide)) dX12_means_151 ?_
    refine lv_aload_n hx hb dX12_means_154 rfl (lv_at hl 1 rfl) ?_
    refine va_get (D := D.1) (ci := 12) (v := .ref (aT 32)) (C := RX12) (T := TX12) (N := 114) hx hb hts wi_X12 hown X.1 X.2.1 0 rfl rfl 32 (by decide) (hts _ q6_226) (fun _ h9 => h9) (fl_get (by decide)) dX12_means_155 ?_
    refine lv_iload_n hx hb dX12_means_158 rfl (lv_at hl 2 rfl) ?_
    obtain ⟨h_11, hF⟩ := grd_some hF
    refine va_iald (D := D.1) (f := gIA gT 32) hx hb X.1 X.2.1 18 17 rfl rfl (inB_ok h_11) dX12_means_159 ?_
    refine lv_iload hx hb dX12_means_160 (lv_at hl 4 rfl) ?_
    obtain ⟨h_12, hF⟩ := grd_some hF
    refine va_iast (D := D.1) (f := gIA gT 15) hx hb X.1 X.2.1 X.2.2.1 X.2.2.2.1 10 9 rfl rfl (inB_ok h_12) dX12_means_162 (fun H locs hP hD hS => ?_)
    have X : Hx D (tX12 yT) A s H locs (wX12 hT aT yT (sIA gT 15 (upd (gIA gT 15) (gIA gT 32 v1.toNatClampNeg).toNatClampNeg v5))) := Hx_set X (wG_sIA (i := 9) (k := 15) ndX12 rfl rfl) hP hD hS
    exact (k_X12_means_163 l D hT aT yT n rec IH) C X (lv_sub hl [1, 2, 3, 0] rfl) hF
set_option maxHeartbeats 4000000 in
set_option maxRecDepth 100000 in
theorem k_X12_means_140 (l : Launch) (D : Dx) (hT : Nat) (aT : Nat → Nat) (yT : Nat → ClassId) (n : Nat) (rec : (Gs → Int32 → Option (Int32 × Gs))) (IH : SH_X12_means l D hT aT yT rec) : S_X12_means_140 l D hT aT yT (b_X12_means_140 n rec) := by
  intro p e s m args below meth c H locs A ls gT v1 v2 v5 q C X hl hF
  obtain ⟨hx, hb, hr, hml, hown, hts, hlk⟩ := id C
  unfold b_X12_means_140 at hF
  refine lv_iconst (v := (1 : Int32)) hx hb dX12_means_140 (by decide) ?_
  refine lv_goto (tgt := 145) hx hb dX12_means_141 (by decide) ?_
  exact (k_X12_means_145 l D hT aT yT n rec IH) C X (lv_sub hl [0, 1, 2, 3] rfl) hF
set_option maxHeartbeats 4000000 in
set_option maxRecDepth 100000 in
theorem k_X12_means_130 (l : Launch) (D : Dx) (hT : Nat) (aT : Nat → Nat) (yT : Nat → ClassId) (n : Nat) (rec : (Gs → Int32 → Option (Int32 × Gs))) (IH : SH_X12_means l D hT aT yT rec) : S_X12_means_130 l D hT aT yT (b_X12_means_130 n rec) := by
  intro p e s m args below meth c H locs A ls gT v1 v2 v5 v6 s0 s1 q C X hl hF
  obtain ⟨hx, hb, hr, hml, hown, hts, hlk⟩ := id C
  unfold b_X12_means_130 at hF
  refine lv_icmp_eq (tgt := 140) hx hb dX12_means_130 (by decide) (fun c => ?_) (fun c => ?_)
  · replace hF := iT c hF
    exact (k_X12_means_140 l D hT aT yT n rec IH) C X (lv_sub hl [0, 1, 2, 3] rfl) hF
  · replace hF := iF c hF
    refine lv_iload hx hb dX12_means_133 (lv_at hl 3 rfl) ?_
    refine lv_iload hx hb dX12_means_135 (lv_at hl 4 rfl) ?_
    refine lv_icmp_lt (tgt := 144) hx hb dX12_means_137 (by decide) (fun c => ?_) (fun c => ?_)
    · replace hF := iT c hF
      refine lv_iconst (v := (0 : Int32)) hx hb dX12_means_144 (by decide) ?_
      exact (k_X12_means_145 l D hT aT yT n rec IH) C X (lv_sub hl [0, 1, 2, 3] rfl) hF
    · replace hF := iF c hF
      exact (k_X12_means_140 l D hT aT yT n rec IH) C X (lv_sub hl [0, 1, 2, 3] rfl) hF
set_option maxHeartbeats 4000000 in
set_option maxRecDepth 100000 in
theorem k_X12_means_110 (l : Launch) (D : Dx) (hT : Nat) (aT : Nat → Nat) (yT : Nat → ClassId) (n : Nat) (rec : (Gs → Int32 → Option (Int32 × Gs))) (IH : SH_X12_means l D hT aT yT rec) : S_X12_means_110 l D hT aT yT (b_X12_means_110 n rec) := by
  intro p e s m args below meth c H locs A ls gT v1 v2 v4 v5 s0 q C X hl hF
  obtain ⟨hx, hb, hr, hml, hown, hts, hlk⟩ := id C
  unfold b_X12_means_110 at hF
  refine lv_istore (lv' := [(6, .int s0), (0, .ref hT), (1, .int v1), (2, .int v2), (4, .int v4), (5, .int v5)]) hx hb dX12_means_110 hl (by decide) rfl (fun ls hl => ?_)
  refine lv_iload hx hb dX12_means_112 (lv_at hl 5 rfl) ?_
  refine lv_iload hx hb dX12_means_114 (lv_at hl 4 rfl) ?_
  refine lv_if_eq (tgt := 126) hx hb dX12_means_116 (by decide) (fun c => ?_) (fun c => ?_)
  · replace hF := iT c hF
    refine lv_aload_n hx hb dX12_means_126 rfl (lv_at hl 1 rfl) ?_
    refine va_get (D := D.1) (ci := 12) (v := .int (gI gT 35)) (C := RX12) (T := TX12) (N := 114) hx hb hts wi_X12 hown X.1 X.2.1 0 rfl rfl 35 (by decide) (hts _ q6_229) (fun _ h9 => h9) (fl_get (by decide)) dX12_means_127 ?_
    exact (k_X12_means_130 l D hT aT yT n rec IH) C X (lv_sub hl [1, 2, 3, 5, 0] rfl) hF
  · replace hF := iF c hF
    refine lv_aload_n hx hb dX12_means_119 rfl (lv_at hl 1 rfl) ?_
    refine va_get (D := D.1) (ci := 12) (v := .int (gI gT 33)) (C := RX12) (T := TX12) (N := 114) hx hb hts wi_X12 hown X.1 X.2.1 0 rfl rfl 33 (by decide) (hts _ q6_227) (fun _ h9 => h9) (fl_get (by decide)) dX12_means_120 ?_
    refine lv_goto (tgt := 130) hx hb dX12_means_123 (by decide) ?_
    exact (k_X12_means_130 l D hT aT yT n rec IH) C X (lv_sub hl [1, 2, 3, 5, 0] rfl) hF
set_option maxHeartbeats 4000000 in
set_option maxRecDepth 100000 in
theorem k_X12_means_88 (l : Launch) (D : Dx) (hT : Nat) (aT : Nat → Nat) (yT : Nat → ClassId) (n : Nat) (rec : (Gs → Int32 → Option (Int32 × Gs))) (IH : SH_X12_means l D hT aT yT rec) : S_X12_means_88 l D hT aT yT (b_X12_means_88 n rec) := by
  intro p e s m args below meth c H locs A ls gT v1 v2 v4 s0 q C X hl hF
  obtain ⟨hx, hb, hr, hml, hown, hts, hlk⟩ := id C
  unfold b_X12_means_88 at hF
  refine lv_istore (lv' := [(5, .int s0), (0, .ref hT), (1, .int v1), (2, .int v2), (4, .int v4)]) hx hb dX12_means_88 hl (by decide) rfl (fun ls hl => ?_)
  refine lv_iload hx hb dX12_means_90 (lv_at hl 4 rfl) ?_
  refine lv_if_eq (tgt := 104) hx hb dX12_means_92 (by decide) (fun c => ?_) (fun c => ?_)
  · replace hF := iT c hF
    refine lv_aload_n hx hb dX12_means_104 rfl (lv_at hl 1 rfl) ?_
    refine va_get (D := D.1) (ci := 12) (v := .ref (aT 31)) (C := RX12) (T := TX12) (N := 114) hx hb hts wi_X12 hown X.1 X.2.1 0 rfl rfl 31 (by decide) (hts _ q6_225) (fun _ h9 => h9) (fl_get (by decide)) dX12_means_105 ?_
    refine lv_iload_n hx hb dX12_means_108 rfl (lv_at hl 2 rfl) ?_
    obtain ⟨h_6, hF⟩ := grd_some hF
    refine va_iald (D := D.1) (f := gIA gT 31) hx hb X.1 X.2.1 17 16 rfl rfl (inB_ok h_6) dX12_means_109 ?_
    exact (k_X12_means_110 l D hT aT yT n rec IH) C X (lv_sub hl [1, 2, 3, 4, 0] rfl) hF
  · replace hF := iF c hF
    refine lv_aload_n hx hb dX12_means_95 rfl (lv_at hl 1 rfl) ?_
    refine va_get (D := D.1) (ci := 12) (v := .ref (aT 30)) (C := RX12) (T := TX12) (N := 114) hx hb hts wi_X12 hown X.1 X.2.1 0 rfl rfl 30 (by decide) (hts _ q6_224) (fun _ h9 => h9) (fl_get (by decide)) dX12_means_96 ?_
    refine lv_iload_n hx hb dX12_means_99 rfl (lv_at hl 2 rfl) ?_
    obtain ⟨h_13, hF⟩ := grd_some hF
    refine va_iald (D := D.1) (f := gIA gT 30) hx hb X.1 X.2.1 16 15 rfl rfl (inB_ok h_13) dX12_means_100 ?_
    refine lv_goto (tgt := 110) hx hb dX12_means_101 (by decide) ?_
    exact (k_X12_means_110 l D hT aT yT n rec IH) C X (lv_sub hl [1, 2, 3, 4, 0] rfl) hF
set_option maxHeartbeats 4000000 in
set_option maxRecDepth 100000 in
theorem k_X12_means_52 (l : Launch) (D : Dx) (hT : Nat) (aT : Nat → Nat) (yT : Nat → ClassId) (n : Nat) (rec : (Gs → Int32 → Option (Int32 × Gs))) (IH : SH_X12_means l D hT aT yT rec) : S_X12_means_52 l D hT aT yT (b_X12_means_52 n rec) := by
  intro p e s m args below meth c H locs A ls gT v1 v2 s0 q C X hl hF
  obtain ⟨hx, hb, hr, hml, hown, hts, hlk⟩ := id C
  unfold b_X12_means_52 at hF
  refine lv_istore (lv' := [(4, .int s0), (0, .ref hT), (1, .int v1), (2, .int v2)]) hx hb dX12_means_52 hl (by decide) rfl (fun ls hl => ?_)
  refine lv_iload hx hb dX12_means_54 (lv_at hl 0 rfl) ?_
  refine lv_if_eq (tgt := 75) hx hb dX12_means_56 (by decide) (fun c => ?_) (fun c => ?_)
  · replace hF := iT c hF
    refine lv_aload_n hx hb dX12_means_75 rfl (lv_at hl 1 rfl) ?_
    refine lv_aload_n hx hb dX12_means_76 rfl (lv_at hl 1 rfl) ?_
    refine va_get (D := D.1) (ci := 12) (v := .ref (aT 53)) (C := RX12) (T := TX12) (N := 114) hx hb hts wi_X12 hown X.1 X.2.1 0 rfl rfl 53 (by decide) (hts _ q7_7) (fun _ h9 => h9) (fl_get (by decide)) dX12_means_77 ?_
    refine lv_aload_n hx hb dX12_means_80 rfl (lv_at hl 1 rfl) ?_
    refine va_get (D := D.1) (ci := 12) (v := .int (gI gT 35)) (C := RX12) (T := TX12) (N := 114) hx hb hts wi_X12 hown X.1 X.2.1 0 rfl rfl 35 (by decide) (hts _ q6_229) (fun _ h9 => h9) (fl_get (by decide)) dX12_means_81 ?_
    refine lv_iload_n hx hb dX12_means_84 rfl (lv_at hl 3 rfl) ?_
    obtain ⟨q_4, hc_5, hF⟩ := bnd_some hF
    refine cV_i (As := [.ref (aT 53), .int (gI gT 35), .int v2]) (rest := []) C X (c_X12_rowOf__0a53 l D hT aT yT n gT (gI gT 35) v2 q_4 hc_5 _) (cwV 3 hts (good_V q9_24 q9_26 q0_100 q1_9 q9_27) rfl rfl rfl (by decide +kernel) ⟨Nat.le_of_ble_eq_true rfl, Nat.le_of_ble_eq_true rfl⟩) (va_recv X.1 X.2.1 (ci := 12) (q0 := 0) rfl rfl) X.1 X.2.1 X.2.2.1 (free_all X) hl.1 rfl rfl (Nat.le_of_ble_eq_true rfl) dX12_means_85 ⟨Nat.le_of_ble_eq_true rfl, Nat.le_of_ble_eq_true rfl⟩ (fun t H1 locs1 ht hB hk hS => ?_)
    have X : Hx D (tX12 yT) A s H1 locs1 (wX12 hT aT yT gT) := Hx_after_all X ht hB hS
    clear hk hS ht hB
    generalize H1 = H at X ⊢
    generalize locs1 = locs at X ⊢
    exact (k_X12_means_88 l D hT aT yT n rec IH) C X (lv_sub hl [1, 2, 3, 0] rfl) hF
  · replace hF := iF c hF
    refine lv_aload_n hx hb dX12_means_59 rfl (lv_at hl 1 rfl) ?_
    refine lv_aload_n hx hb dX12_means_60 rfl (lv_at hl 1 rfl) ?_
    refine va_get (D := D.1) (ci := 12) (v := .ref (aT 37)) (C := RX12) (T := TX12) (N := 114) hx hb hts wi_X12 hown X.1 X.2.1 0 rfl rfl 37 (by decide) (hts _ q6_231) (fun _ h9 => h9) (fl_get (by decide)) dX12_means_61 ?_
    refine lv_aload_n hx hb dX12_means_64 rfl (lv_at hl 1 rfl) ?_
    refine va_get (D := D.1) (ci := 12) (v := .int (gI gT 33)) (C := RX12) (T := TX12) (N := 114) hx hb hts wi_X12 hown X.1 X.2.1 0 rfl rfl 33 (by decide) (hts _ q6_227) (fun _ h9 => h9) (fl_get (by decide)) dX12_means_65 ?_
    refine lv_iload_n hx hb dX12_means_68 rfl (lv_at hl 3 rfl) ?_
    obtain ⟨q_14, hc_15, hF⟩ := bnd_some hF
    refine cV_i (As := [.ref (aT 37), .int (gI gT 33), .int v2]) (rest := []) C X (c_X12_rowOf__0a37 l D hT aT yT n gT (gI gT 33) v2 q_14 hc_15 _) (cwV 3 hts (good_V q9_24 q9_26 q0_100 q1_9 q9_27) rfl rfl rfl (by decide +kernel) ⟨Nat.le_of_ble_eq_true rfl, Nat.le_of_ble_eq_true rfl⟩) (va_recv X.1 X.2.1 (ci := 12) (q0 := 0) rfl rfl) X.1 X.2.1 X.2.2.1 (free_all X) hl.1 rfl rfl (Nat.le_of_ble_eq_true rfl) dX12_means_69 ⟨Nat.le_of_ble_eq_true rfl, Nat.le_of_ble_eq_true rfl⟩ (fun t H1 locs1 ht hB hk hS => ?_)
    have X : Hx D (tX12 yT) A s H1 locs1 (wX12 hT aT yT gT) := Hx_after_all X ht hB hS
    clear hk hS ht hB
    generalize H1 = H at X ⊢
    generalize locs1 = locs at X ⊢
    refine lv_goto (tgt := 88) hx hb dX12_means_72 (by decide) ?_
    exact (k_X12_means_88 l D hT aT yT n rec IH) C X (lv_sub hl [1, 2, 3, 0] rfl) hF
set_option maxHeartbeats 4000000 in
set_option maxRecDepth 100000 in
theorem k_X12_means_2 (l : Launch) (D : Dx) (hT : Nat) (aT : Nat → Nat) (yT : Nat → ClassId) (n : Nat) (rec : (Gs → Int32 → Option (Int32 × Gs))) (IH : SH_X12_means l D hT aT yT rec) : S_X12_means_2 l D hT aT yT (h_X12_means_2 n rec) := by
  intro p e s m args below meth c H locs A ls gT v1 q C X hl hF
  obtain ⟨hx, hb, hr, hml, hown, hts, hlk⟩ := id C
  unfold h_X12_means_2 at hF
  refine lv_iload_n hx hb dX12_means_2 rfl (lv_at hl 1 rfl) ?_
  refine lv_aload_n hx hb dX12_means_3 rfl (lv_at hl 0 rfl) ?_
  refine va_get (D := D.1) (ci := 12) (v := .int (gI gT 27)) (C := RX12) (T := TX12) (N := 114) hx hb hts wi_X12 hown X.1 X.2.1 0 rfl rfl 27 (by decide) (hts _ q6_221) (fun _ h9 => h9) (fl_get (by decide)) dX12_means_4 ?_
  refine lv_icmp_ge (tgt := 185) hx hb dX12_means_7 (by decide) (fun c => ?_) (fun c => ?_)
  · replace hF := iT c hF
    refine lv_iconst (v := (1 : Int32)) hx hb dX12_means_185 (by decide) ?_
    have hq := Option.some.inj hF
    subst hq
    exact rt_z (v := (1 : Int32)) C X (by decide) dX12_means_186
  · replace hF := iF c hF
    refine lv_aload_n hx hb dX12_means_10 rfl (lv_at hl 0 rfl) ?_
    refine va_get (D := D.1) (ci := 12) (v := .ref (aT 29)) (C := RX12) (T := TX12) (N := 114) hx hb hts wi_X12 hown X.1 X.2.1 0 rfl rfl 29 (by decide) (hts _ q6_223) (fun _ h9 => h9) (fl_get (by decide)) dX12_means_11 ?_
    refine lv_iload_n hx hb dX12_means_14 rfl (lv_at hl 1 rfl) ?_
    obtain ⟨h_1, hF⟩ := grd_some hF
    refine va_iald (D := D.1) (f := gIA gT 29) hx hb X.1 X.2.1 15 14 rfl rfl (inB_ok h_1) dX12_means_15 ?_
    refine lv_istore_n (lv' := [(2, .int (gIA gT 29 v1.toNatClampNeg)), (0, .ref hT), (1, .int v1)]) hx hb dX12_means_16 rfl hl (by decide) rfl (fun ls hl => ?_)
    refine lv_iconst (v := (0 : Int32)) hx hb dX12_means_17 (by decide) ?_
    refine lv_istore_n (lv' := [(3, .int (0 : Int32)), (2, .int (gIA gT 29 v1.toNatClampNeg)), (0, .ref hT), (1, .int v1)]) hx hb dX12_means_18 rfl hl (by decide) rfl (fun ls hl => ?_)
    refine lv_aload_n hx hb dX12_means_19 rfl (lv_at hl 2 rfl) ?_
    refine va_get (D := D.1) (ci := 12) (v := .ref (aT 28)) (C := RX12) (T := TX12) (N := 114) hx hb hts wi_X12 hown X.1 X.2.1 0 rfl rfl 28 (by decide) (hts _ q6_222) (fun _ h9 => h9) (fl_get (by decide)) dX12_means_20 ?_
    refine lv_iload_n hx hb dX12_means_23 rfl (lv_at hl 3 rfl) ?_
    obtain ⟨h_2, hF⟩ := grd_some hF
    refine va_iald (D := D.1) (f := gIA gT 28) hx hb X.1 X.2.1 14 13 rfl rfl (inB_ok h_2) dX12_means_24 ?_
    refine lv_if_ne (tgt := 37) hx hb dX12_means_25 (by decide) (fun c => ?_) (fun c => ?_)
    · replace hF := iF c hF
      refine lv_aload_n hx hb dX12_means_37 rfl (lv_at hl 2 rfl) ?_
      refine va_get (D := D.1) (ci := 12) (v := .ref (aT 28)) (C := RX12) (T := TX12) (N := 114) hx hb hts wi_X12 hown X.1 X.2.1 0 rfl rfl 28 (by decide) (hts _ q6_222) (fun _ h9 => h9) (fl_get (by decide)) dX12_means_38 ?_
      refine lv_iload_n hx hb dX12_means_41 rfl (lv_at hl 3 rfl) ?_
      obtain ⟨h_3, hF⟩ := grd_some hF
      refine va_iald (D := D.1) (f := gIA gT 28) hx hb X.1 X.2.1 14 13 rfl rfl (inB_ok h_3) dX12_means_42 ?_
      refine lv_iconst (v := (1 : Int32)) hx hb dX12_means_43 (by decide) ?_
      refine lv_icmp_ne (tgt := 51) hx hb dX12_means_44 (by decide) (fun c => ?_) (fun c => ?_)
      · replace hF := iF c hF
        refine lv_iconst (v := (0 : Int32)) hx hb dX12_means_51 (by decide) ?_
        exact (k_X12_means_52 l D hT aT yT n rec IH) C X (lv_sub hl [2, 3, 1] rfl) hF
      · replace hF := iT c hF
        refine lv_iconst (v := (1 : Int32)) hx hb dX12_means_47 (by decide) ?_
        refine lv_goto (tgt := 52) hx hb dX12_means_48 (by decide) ?_
        exact (k_X12_means_52 l D hT aT yT n rec IH) C X (lv_sub hl [2, 3, 1] rfl) hF
    · replace hF := iT c hF
      refine lv_aload_n hx hb dX12_means_28 rfl (lv_at hl 2 rfl) ?_
      refine lv_iload_n hx hb dX12_means_29 rfl (lv_at hl 1 rfl) ?_
      obtain ⟨q_16, hc_17, hF⟩ := bnd_some hF
      refine cV_i (As := [.int (gIA gT 29 v1.toNatClampNeg)]) (rest := []) C X (c_X12_told l D hT aT yT n gT (gIA gT 29 v1.toNatClampNeg) q_16 hc_17 _) (cwV 1 hts (good_V q9_16 q9_18 q0_98 q1_9 q9_19) rfl rfl rfl (by decide +kernel) ⟨Nat.le_of_ble_eq_true rfl, Nat.le_of_ble_eq_true rfl⟩) (va_recv X.1 X.2.1 (ci := 12) (q0 := 0) rfl rfl) X.1 X.2.1 X.2.2.1 (free_all X) hl.1 rfl rfl (Nat.le_of_ble_eq_true rfl) dX12_means_30 ⟨Nat.le_of_ble_eq_true rfl, Nat.le_of_ble_eq_true rfl⟩ (fun t H1 locs1 ht hB hk hS => ?_)
      have X : Hx D (tX12 yT) A s H1 locs1 (wX12 hT aT yT gT) := Hx_after_all X ht hB hS
      clear hk hS ht hB
      generalize H1 = H at X ⊢
      generalize locs1 = locs at X ⊢
      refine lv_istore_n (lv' := [(3, .int q_16), (2, .int (gIA gT 29 v1.toNatClampNeg)), (0, .ref hT), (1, .int v1)]) hx hb dX12_means_33 rfl hl (by decide) rfl (fun ls hl => ?_)
      refine lv_goto (tgt := 163) hx hb dX12_means_34 (by decide) ?_
      exact (k_X12_means_163 l D hT aT yT n rec IH) C X (lv_sub hl [2, 3, 1, 0] rfl) hF
theorem kL_X12_means (l : Launch) (D : Dx) (hT : Nat) (aT : Nat → Nat) (yT : Nat → ClassId) (n : Nat) : ∀ k, SH_X12_means l D hT aT yT (L_X12_means n k)
  | 0 => fun _ _ _ h => by cases h
  | k + 1 => k_X12_means_2 l D hT aT yT n _ (kL_X12_means l D hT aT yT n k)
set_option maxHeartbeats 4000000 in
set_option maxRecDepth 100000 in
theorem c_X12_means (l : Launch) (D : Dx) (hT : Nat) (aT : Nat → Nat) (yT : Nat → ClassId) (n : Nat) (gT : Gs) (q : Int32 × Gs) (hF : f_X12_means n gT = some q) (sz : Nat) : Met l yX12_means (ws_ yX12_means cX12_means 7 (some .boolean)) R_X12_means (PC D (tX12 yT) [.ref hT] (wX12 hT aT yT gT) sz) (QI D (va_A (wX12 hT aT yT gT) sz) (wX12 hT aT yT q.2) q.1) 0 0 (va_A (wX12 hT aT yT gT) sz) := by
  refine Met.ofW (cc := cX12_means) (maxL := 7) (ret := (some .boolean)) (by decide) rfl ?_
  intro p e s m args below meth c s₁ B hml hv
  obtain ⟨rfl, hsz, hP, hK, hD, hN⟩ := hv
  subst hsz
  have C : Cx p s m _ meth c cX12_means (some .boolean) 7 RX12 lw_all := Cx_of B hml
  have X := Hx_start hP hK hD hN
  obtain ⟨hx, hb, hr, -, hown, hts, hlk⟩ := id C
  generalize va_A (wX12 hT aT yT gT) s.heap.size = A at X ⊢
  have hl := lv_entry ([.ref hT]) (n := 7) (Nat.le_of_ble_eq_true rfl)
  rw [lg_entry_eq]
  generalize (lg_sl ([.ref hT]) ++ List.replicate (7 - (lg_sl ([.ref hT])).length) Slot.unset).toArray = ls at hl ⊢
  have hl : lv_has ls 7 [(0, .ref hT)] := hl
  unfold f_X12_means at hF
  refine lv_iconst (v := (0 : Int32)) hx hb dX12_means_0 (by decide) ?_
  refine lv_istore_n (lv' := [(1, .int (0 : Int32)), (0, .ref hT)]) hx hb dX12_means_1 rfl hl (by decide) rfl (fun ls hl => ?_)
  exact (kL_X12_means l D hT aT yT n n) C X (lv_sub hl [1, 0] rfl) hF
