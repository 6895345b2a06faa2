/-- the start of the hall's constructor: the array of states can be made -/
def PCA (D : Dx) (tys : List (ClassId × FieldType)) (av : List Value) (w : va_W) (sz : Nat) : Array Value → State → Prop := fun v U => PC D tys av w sz v U ∧ va_AO "TurningHall$State" U
theorem q1_200 : Cond.methodLink RX4 3 objectInit ∈ lw_all := lw_in (tc_1 (List.mem_of_getElem? (i := 200) rfl)) rfl
theorem q1_201 : Cond.classLink RX4 9 RX0 ∈ lw_all := lw_in (tc_1 (List.mem_of_getElem? (i := 201) rfl)) rfl
theorem q1_202 : Cond.instantiable RX0 19 ∈ lw_all := lw_in (tc_1 (List.mem_of_getElem? (i := 202) rfl)) rfl
theorem q1_205 : Cond.code yX0_init cX0_init 1 none ∈ lw_all := lw_in (tc_1 (List.mem_of_getElem? (i := 205) rfl)) rfl
theorem q1_204 : Cond.instanceMethod yX0_init ∈ lw_all := lw_in (tc_1 (List.mem_of_getElem? (i := 204) rfl)) rfl
theorem q1_203 : Cond.methodLinkNest RX4 11 yX0_init "TurningHall" ∈ lw_tbl := tc_1 (List.mem_of_getElem? (i := 203) rfl)
theorem q2_146 : Cond.arrayClass .boolean ∈ lw_all := lw_in (tc_2 (List.mem_of_getElem? (i := 146) rfl)) rfl
theorem q2_99 : Cond.fieldLink RX4 42 "TurningHall$Plan" "parts" "[Z" ∈ lw_all := lw_in (tc_2 (List.mem_of_getElem? (i := 99) rfl)) rfl
theorem q2_102 : Cond.fieldLink RX4 46 "TurningHall$Plan" "first" "[I" ∈ lw_all := lw_in (tc_2 (List.mem_of_getElem? (i := 102) rfl)) rfl
theorem q2_105 : Cond.fieldLink RX4 49 "TurningHall$Plan" "turning" "[I" ∈ lw_all := lw_in (tc_2 (List.mem_of_getElem? (i := 105) rfl)) rfl
theorem q2_108 : Cond.fieldLink RX4 52 "TurningHall$Plan" "order" "[I" ∈ lw_all := lw_in (tc_2 (List.mem_of_getElem? (i := 108) rfl)) rfl
theorem q2_111 : Cond.fieldLink RX4 55 "TurningHall$Plan" "teeth" "[D" ∈ lw_all := lw_in (tc_2 (List.mem_of_getElem? (i := 111) rfl)) rfl
theorem q2_114 : Cond.fieldLink RX4 59 "TurningHall$Plan" "teethCount" "[I" ∈ lw_all := lw_in (tc_2 (List.mem_of_getElem? (i := 114) rfl)) rfl
theorem q2_215 : Cond.methodLink RX5 3 objectInit ∈ lw_all := lw_in (tc_2 (List.mem_of_getElem? (i := 215) rfl)) rfl
theorem q2_216 : Cond.classLink RX5 9 RX8 ∈ lw_all := lw_in (tc_2 (List.mem_of_getElem? (i := 216) rfl)) rfl
theorem q2_217 : Cond.instantiable RX8 2 ∈ lw_all := lw_in (tc_2 (List.mem_of_getElem? (i := 217) rfl)) rfl
theorem q2_220 : Cond.code yX8_init cX8_init 1 none ∈ lw_all := lw_in (tc_2 (List.mem_of_getElem? (i := 220) rfl)) rfl
theorem q2_219 : Cond.instanceMethod yX8_init ∈ lw_all := lw_in (tc_2 (List.mem_of_getElem? (i := 219) rfl)) rfl
theorem q2_218 : Cond.methodLinkNest RX5 11 yX8_init "TurningHall" ∈ lw_tbl := tc_2 (List.mem_of_getElem? (i := 218) rfl)
theorem q2_229 : Cond.classLink RX5 72 RX7 ∈ lw_all := lw_in (tc_2 (List.mem_of_getElem? (i := 229) rfl)) rfl
theorem q2_230 : Cond.instantiable RX7 12 ∈ lw_all := lw_in (tc_2 (List.mem_of_getElem? (i := 230) rfl)) rfl
theorem q2_233 : Cond.code yX7_init cX7_init 3 none ∈ lw_all := lw_in (tc_2 (List.mem_of_getElem? (i := 233) rfl)) rfl
theorem q2_232 : Cond.instanceMethod yX7_init ∈ lw_all := lw_in (tc_2 (List.mem_of_getElem? (i := 232) rfl)) rfl
theorem q2_231 : Cond.methodLink RX5 74 yX7_init ∈ lw_all := lw_in (tc_2 (List.mem_of_getElem? (i := 231) rfl)) rfl
theorem q3_38 : Cond.classLink RX5 81 RX2 ∈ lw_all := lw_in (tc_3 (List.mem_of_getElem? (i := 38) rfl)) rfl
theorem q3_39 : Cond.instantiable RX2 2 ∈ lw_all := lw_in (tc_3 (List.mem_of_getElem? (i := 39) rfl)) rfl
theorem q3_42 : Cond.code yX2_init cX2_init 2 none ∈ lw_all := lw_in (tc_3 (List.mem_of_getElem? (i := 42) rfl)) rfl
theorem q3_41 : Cond.instanceMethod yX2_init ∈ lw_all := lw_in (tc_3 (List.mem_of_getElem? (i := 41) rfl)) rfl
theorem q3_40 : Cond.methodLink RX5 83 yX2_init ∈ lw_all := lw_in (tc_3 (List.mem_of_getElem? (i := 40) rfl)) rfl
theorem q1_30 : Cond.methodLink RX11 3 objectInit ∈ lw_all := lw_in (tc_1 (List.mem_of_getElem? (i := 30) rfl)) rfl
theorem q1_33 : Cond.classLink RX11 17 RX6 ∈ lw_all := lw_in (tc_1 (List.mem_of_getElem? (i := 33) rfl)) rfl
theorem q1_34 : Cond.instantiable RX6 1 ∈ lw_all := lw_in (tc_1 (List.mem_of_getElem? (i := 34) rfl)) rfl
theorem q1_37 : Cond.code yX6_init cX6_init 4 none ∈ lw_all := lw_in (tc_1 (List.mem_of_getElem? (i := 37) rfl)) rfl
theorem q1_36 : Cond.instanceMethod yX6_init ∈ lw_all := lw_in (tc_1 (List.mem_of_getElem? (i := 36) rfl)) rfl
theorem q1_35 : Cond.methodLink RX11 19 yX6_init ∈ lw_all := lw_in (tc_1 (List.mem_of_getElem? (i := 35) rfl)) rfl
theorem q1_47 : Cond.classLink RX11 24 RX9 ∈ lw_all := lw_in (tc_1 (List.mem_of_getElem? (i := 47) rfl)) rfl
theorem q1_48 : Cond.instantiable RX9 17 ∈ lw_all := lw_in (tc_1 (List.mem_of_getElem? (i := 48) rfl)) rfl
theorem q1_51 : Cond.code yX9_init cX9_init 1 none ∈ lw_all := lw_in (tc_1 (List.mem_of_getElem? (i := 51) rfl)) rfl
theorem q1_50 : Cond.instanceMethod yX9_init ∈ lw_all := lw_in (tc_1 (List.mem_of_getElem? (i := 50) rfl)) rfl
theorem q1_49 : Cond.methodLinkNest RX11 26 yX9_init "TurningHall" ∈ lw_tbl := tc_1 (List.mem_of_getElem? (i := 49) rfl)
theorem q1_131 : Cond.classLink RX11 35 RX1 ∈ lw_all := lw_in (tc_1 (List.mem_of_getElem? (i := 131) rfl)) rfl
theorem q1_132 : Cond.instantiable RX1 7 ∈ lw_all := lw_in (tc_1 (List.mem_of_getElem? (i := 132) rfl)) rfl
theorem q1_135 : Cond.code yX1_init cX1_init 3 none ∈ lw_all := lw_in (tc_1 (List.mem_of_getElem? (i := 135) rfl)) rfl
theorem q1_134 : Cond.instanceMethod yX1_init ∈ lw_all := lw_in (tc_1 (List.mem_of_getElem? (i := 134) rfl)) rfl
theorem q1_133 : Cond.methodLink RX11 37 yX1_init ∈ lw_all := lw_in (tc_1 (List.mem_of_getElem? (i := 133) rfl)) rfl
theorem q1_162 : Cond.classLink RX11 44 RX3 ∈ lw_all := lw_in (tc_1 (List.mem_of_getElem? (i := 162) rfl)) rfl
theorem q1_163 : Cond.instantiable RX3 3 ∈ lw_all := lw_in (tc_1 (List.mem_of_getElem? (i := 163) rfl)) rfl
theorem q1_166 : Cond.code yX3_init cX3_init 2 none ∈ lw_all := lw_in (tc_1 (List.mem_of_getElem? (i := 166) rfl)) rfl
theorem q1_165 : Cond.instanceMethod yX3_init ∈ lw_all := lw_in (tc_1 (List.mem_of_getElem? (i := 165) rfl)) rfl
theorem q1_164 : Cond.methodLink RX11 46 yX3_init ∈ lw_all := lw_in (tc_1 (List.mem_of_getElem? (i := 164) rfl)) rfl
theorem q1_180 : Cond.classLink RX11 53 RX10 ∈ lw_all := lw_in (tc_1 (List.mem_of_getElem? (i := 180) rfl)) rfl
theorem q1_181 : Cond.instantiable RX10 2 ∈ lw_all := lw_in (tc_1 (List.mem_of_getElem? (i := 181) rfl)) rfl
theorem q1_184 : Cond.code yX10_init cX10_init 1 none ∈ lw_all := lw_in (tc_1 (List.mem_of_getElem? (i := 184) rfl)) rfl
theorem q1_183 : Cond.instanceMethod yX10_init ∈ lw_all := lw_in (tc_1 (List.mem_of_getElem? (i := 183) rfl)) rfl
theorem q1_182 : Cond.methodLinkNest RX11 55 yX10_init "TurningHall" ∈ lw_tbl := tc_1 (List.mem_of_getElem? (i := 182) rfl)
theorem q1_195 : Cond.classLink RX11 60 RX4 ∈ lw_all := lw_in (tc_1 (List.mem_of_getElem? (i := 195) rfl)) rfl
theorem q1_196 : Cond.instantiable RX4 14 ∈ lw_all := lw_in (tc_1 (List.mem_of_getElem? (i := 196) rfl)) rfl
theorem q1_199 : Cond.code yX4_init cX4_init 1 none ∈ lw_all := lw_in (tc_1 (List.mem_of_getElem? (i := 199) rfl)) rfl
theorem q1_198 : Cond.instanceMethod yX4_init ∈ lw_all := lw_in (tc_1 (List.mem_of_getElem? (i := 198) rfl)) rfl
theorem q1_197 : Cond.methodLinkNest RX11 62 yX4_init "TurningHall" ∈ lw_tbl := tc_1 (List.mem_of_getElem? (i := 197) rfl)
theorem dX4_init_0 : decode cX4_init 0 = .ok (.aload_n 0, 1) := by decide +kernel
theorem dX4_init_1 : decode cX4_init 1 = .ok (.invokespecial 3, 3) := by decide +kernel
theorem dX4_init_4 : decode cX4_init 4 = .ok (.aload_n 0, 1) := by decide +kernel
theorem dX4_init_5 : decode cX4_init 5 = .ok (.new 9, 3) := by decide +kernel
theorem dX4_init_8 : decode cX4_init 8 = .ok (.dup, 1) := by decide +kernel
theorem dX4_init_9 : decode cX4_init 9 = .ok (.invokespecial 11, 3) := by decide +kernel
theorem dX4_init_12 : decode cX4_init 12 = .ok (.putfield 12, 3) := by decide +kernel
theorem dX4_init_15 : decode cX4_init 15 = .ok (.aload_n 0, 1) := by decide +kernel
theorem dX4_init_16 : decode cX4_init 16 = .ok (.sipush 600, 3) := by decide +kernel
theorem dX4_init_19 : decode cX4_init 19 = .ok (.newarray .byte, 2) := by decide +kernel
theorem dX4_init_21 : decode cX4_init 21 = .ok (.putfield 18, 3) := by decide +kernel
theorem dX4_init_24 : decode cX4_init 24 = .ok (.aload_n 0, 1) := by decide +kernel
theorem dX4_init_25 : decode cX4_init 25 = .ok (.bipush 60, 2) := by decide +kernel
theorem dX4_init_27 : decode cX4_init 27 = .ok (.newarray .int, 2) := by decide +kernel
theorem dX4_init_29 : decode cX4_init 29 = .ok (.putfield 22, 3) := by decide +kernel
theorem dX4_init_32 : decode cX4_init 32 = .ok (.aload_n 0, 1) := by decide +kernel
theorem dX4_init_33 : decode cX4_init 33 = .ok (.bipush 60, 2) := by decide +kernel
theorem dX4_init_35 : decode cX4_init 35 = .ok (.newarray .int, 2) := by decide +kernel
theorem dX4_init_37 : decode cX4_init 37 = .ok (.putfield 26, 3) := by decide +kernel
theorem dX4_init_40 : decode cX4_init 40 = .ok (.aload_n 0, 1) := by decide +kernel
theorem dX4_init_41 : decode cX4_init 41 = .ok (.iconst 0, 1) := by decide +kernel
theorem dX4_init_42 : decode cX4_init 42 = .ok (.putfield 29, 3) := by decide +kernel
theorem dX4_init_45 : decode cX4_init 45 = .ok (.aload_n 0, 1) := by decide +kernel
theorem dX4_init_46 : decode cX4_init 46 = .ok (.iconst 0, 1) := by decide +kernel
theorem dX4_init_47 : decode cX4_init 47 = .ok (.putfield 33, 3) := by decide +kernel
theorem dX4_init_50 : decode cX4_init 50 = .ok (.aload_n 0, 1) := by decide +kernel
theorem dX4_init_51 : decode cX4_init 51 = .ok (.iconst 0, 1) := by decide +kernel
theorem dX4_init_52 : decode cX4_init 52 = .ok (.putfield 36, 3) := by decide +kernel
theorem dX4_init_55 : decode cX4_init 55 = .ok (.aload_n 0, 1) := by decide +kernel
theorem dX4_init_56 : decode cX4_init 56 = .ok (.bipush 40, 2) := by decide +kernel
theorem dX4_init_58 : decode cX4_init 58 = .ok (.newarray .int, 2) := by decide +kernel
theorem dX4_init_60 : decode cX4_init 60 = .ok (.putfield 39, 3) := by decide +kernel
theorem dX4_init_63 : decode cX4_init 63 = .ok (.aload_n 0, 1) := by decide +kernel
theorem dX4_init_64 : decode cX4_init 64 = .ok (.bipush 40, 2) := by decide +kernel
theorem dX4_init_66 : decode cX4_init 66 = .ok (.newarray .boolean, 2) := by decide +kernel
theorem dX4_init_68 : decode cX4_init 68 = .ok (.putfield 42, 3) := by decide +kernel
theorem dX4_init_71 : decode cX4_init 71 = .ok (.aload_n 0, 1) := by decide +kernel
theorem dX4_init_72 : decode cX4_init 72 = .ok (.bipush 40, 2) := by decide +kernel
theorem dX4_init_74 : decode cX4_init 74 = .ok (.newarray .int, 2) := by decide +kernel
theorem dX4_init_76 : decode cX4_init 76 = .ok (.putfield 46, 3) := by decide +kernel
theorem dX4_init_79 : decode cX4_init 79 = .ok (.aload_n 0, 1) := by decide +kernel
theorem dX4_init_80 : decode cX4_init 80 = .ok (.bipush 52, 2) := by decide +kernel
theorem dX4_init_82 : decode cX4_init 82 = .ok (.newarray .int, 2) := by decide +kernel
theorem dX4_init_84 : decode cX4_init 84 = .ok (.putfield 49, 3) := by decide +kernel
theorem dX4_init_87 : decode cX4_init 87 = .ok (.aload_n 0, 1) := by decide +kernel
theorem dX4_init_88 : decode cX4_init 88 = .ok (.bipush 52, 2) := by decide +kernel
theorem dX4_init_90 : decode cX4_init 90 = .ok (.newarray .int, 2) := by decide +kernel
theorem dX4_init_92 : decode cX4_init 92 = .ok (.putfield 52, 3) := by decide +kernel
theorem dX4_init_95 : decode cX4_init 95 = .ok (.aload_n 0, 1) := by decide +kernel
theorem dX4_init_96 : decode cX4_init 96 = .ok (.sipush 192, 3) := by decide +kernel
theorem dX4_init_99 : decode cX4_init 99 = .ok (.newarray .double, 2) := by decide +kernel
theorem dX4_init_101 : decode cX4_init 101 = .ok (.putfield 55, 3) := by decide +kernel
theorem dX4_init_104 : decode cX4_init 104 = .ok (.aload_n 0, 1) := by decide +kernel
theorem dX4_init_105 : decode cX4_init 105 = .ok (.bipush 8, 2) := by decide +kernel
theorem dX4_init_107 : decode cX4_init 107 = .ok (.newarray .int, 2) := by decide +kernel
theorem dX4_init_109 : decode cX4_init 109 = .ok (.putfield 59, 3) := by decide +kernel
theorem dX4_init_112 : decode cX4_init 112 = .ok (.return_, 1) := by decide +kernel
def g0X4 : Gs := g00
theorem dfX4 : ∀ j, j < 14 → defaultValue (tyX4 j) = vp_V ((List.range 14).map (dfl kdX4)) j := by decide +kernel
set_option maxHeartbeats 4000000 in
set_option maxRecDepth 100000 in
theorem n_X4_init (l : Launch) (D : Dx) (h : Nat) (sz : Nat) : Met l yX4_init (ws_ yX4_init cX4_init 1 none) { frames := 2, cells := 26, slots := 8527, locals := 60 } (PC D [] [.ref h] [(h, .inr (4, (List.range 14).map (dfl kdX4)))] sz) (QN D (fun u : AY × AY => True) (va_A [(h, .inr (4, (List.range 14).map (dfl kdX4)))] sz) (fun u => wX4 h u.1.1 u.1.2 g0X4 ++ (wX0 (u.1.1 0) u.2.1 u.2.2 g0X0)) (fun u => tX4 u.1.2 ++ (tX0 u.2.2))) 26 8527 (va_A [(h, .inr (4, (List.range 14).map (dfl kdX4)))] sz) := by
  refine Met.ofW (cc := cX4_init) (maxL := 1) (ret := none) (by decide) rfl ?_
  intro p e s m args below meth c s₁ B hml hv
  obtain ⟨rfl, hsz, hP, hK, hD, hN⟩ := hv
  subst hsz
  have C : Cx p s m _ meth c cX4_init none 1 RX4 lw_all := Cx_of B hml
  have X := Hx_start hP hK hD hN
  have hin : meth.name = "<init>" := (name_of_methodNamed B.named B.method).1
  obtain ⟨hx, hb, hr, -, hown, hts, hlk⟩ := id C
  generalize va_A [(h, .inr (4, (List.range 14).map (dfl kdX4)))] s.heap.size = A at X ⊢
  have hl := lv_entry ([.ref h]) (n := 1) (Nat.le_of_ble_eq_true rfl)
  rw [lg_entry_eq]
  generalize (lg_sl ([.ref h]) ++ List.replicate (1 - (lg_sl ([.ref h])).length) Slot.unset).toArray = ls at hl ⊢
  have hl : lv_has ls 1 [(0, .ref h)] := hl
  refine lv_aload_n hx hb dX4_init_0 rfl (lv_at hl 0 rfl) ?_
  refine W.objInit hx hb hown (hts _ q1_200) (hts _ q1_31) (hts _ q1_32) rfl (by rw [hml]; exact hl.1) rfl dX4_init_1 (Nat.le_of_ble_eq_true rfl) (Nat.le_of_ble_eq_true rfl) ?_
  refine W.eq (g2 := F0 m 4 ls []) rfl ?_
  refine lv_aload_n hx hb dX4_init_4 rfl (lv_at hl 0 rfl) ?_
  refine va_new (ci := 0) (fs := (List.range 19).map (dfl kdX0)) (C := RX0) (T := TX0) (N := 19) hx hb hts wi_X0 tyX0 tyX0_ok hown (hts _ q1_201) (hts _ q1_202) (hts _ q1_8) X.1 X.2.1 X.2.2.1 X.2.2.2.1 X.2.2.2.2.1 rfl dfX0 (Nat.le_of_ble_eq_true rfl) (Nat.le_of_ble_eq_true rfl) dX4_init_5 (fun w5 H hP hD hS => ?_)
  have X : Hx D ([]) A s H [] ([(h, .inr (4, (List.range 14).map (dfl kdX4)))] ++ ([(w5, .inr (0, (List.range 19).map (dfl kdX0)))])) := ⟨X.1, hP, hD, hS, X.2.2.2.2⟩
  refine W.widen (k := 1) (n := 19) (Nat.le_of_ble_eq_true rfl) (Nat.le_of_ble_eq_true rfl) ?_
  refine lv_dup hx hb dX4_init_8 rfl ?_
  have hPc := X.2.1.sub (ws' := [(w5, .inr (0, (List.range 19).map (dfl kdX0)))]) [1] rfl
  have hDc := X.2.2.1.sub (ws' := [(w5, .inr (0, (List.range 19).map (dfl kdX0)))]) [1] (by decide) rfl
  have hFc := free_of (wC := [(w5, .inr (0, (List.range 19).map (dfl kdX0)))]) (isC := [1]) X rfl
  refine va_callv (va_runIN (As := []) (rest := [.ref w5, .ref h]) ⟨hx, hb, hml, hown, hts⟩ (n_X0_init l D w5 _) ⟨va_cnB 0 hts (good_ws q1_205) rfl rfl rfl (X.2.2.2.2.2.1 _ q1_203 rfl) (hts _ q1_8) (by decide +kernel) ⟨Nat.le_of_ble_eq_true rfl, Nat.le_of_ble_eq_true rfl⟩, rfl, hts _ q1_204⟩ ⟨PC_blind, PC_at (eK X) hPc hDc X.2.2.2.2.2 X.2.2.2.1 hFc⟩ rfl rfl hl.1 rfl (lv_room (Nat.le_of_ble_eq_true rfl)) dX4_init_9 ⟨Nat.le_of_ble_eq_true rfl, Nat.le_of_ble_eq_true rfl⟩) X.2.2.2.1 (fun q _ h => hFc q h) hFc (fun u1 t H1 locs1 ht hvm hw1 hB hz1 hk1 hS => ?_)
  obtain ⟨hP1, hK1, hD1⟩ := hB
  rw [ht] at hP1
  have hK1 := va_K.moved hvm.symm hK1
  obtain ⟨hP, hD⟩ := va_join (wr := [(h, .inr (4, (List.range 14).map (dfl kdX4)))]) X.2.1 X.2.2.1 [1] [0] rfl rfl (by decide) (by decide) hk1 hFc hP1 hD1
  have X : Hx D (tX0 u1.2) A s H1 locs1 ([(h, .inr (4, (List.range 14).map (dfl kdX4)))] ++ (wX0 w5 u1.1 u1.2 g0X0)) := ⟨X.1.app hK1, hP, hD, hS, X.2.2.2.2⟩
  generalize H1 = H at X ⊢
  generalize locs1 = locs at X ⊢
  refine W.widen (k := 16) (n := 7383) (Nat.le_of_ble_eq_true rfl) (Nat.le_of_ble_eq_true rfl) ?_
  refine va_putF (D := D.1) (ci := 4) (v := .ref w5) (ty := tyX4 0) (C := RX4) (T := TX4) (N := 14) hx hb hts wi_X4 tyX4 tyX4_ok nmX4 hown X.1 X.2.1 X.2.2.1 X.2.2.2.1 0 rfl rfl 0 (by decide) (hts _ q2_67) (fun _ h9 => h9) rfl hin rfl (by decide +kernel) rfl rfl (by rw [List.length_map, List.length_range]; decide) dX4_init_12 (fun H locs hP hD hS => ?_)
  have X : Hx D (tX0 u1.2) A s H locs ([(h, .inr (4, (List.range 14).map (va_up (dfl kdX4) 0 (.ref w5))))] ++ (wX0 w5 u1.1 u1.2 g0X0)) := Hx_set X obj_set hP hD hS
  refine lv_aload_n hx hb dX4_init_15 rfl (lv_at hl 0 rfl) ?_
  refine lv_sipush (v := (600 : Int32)) hx hb dX4_init_16 (by decide) ?_
  refine va_newa (atype := .byte) (a0 := (600, .inl (fun _ => 0))) (N' := 600) hx hb (hts (.arrayClass .byte) q1_45) rfl X.1 X.2.1 X.2.2.1 X.2.2.2.1 X.2.2.2.2.1 (fun _ => rfl) (by decide) (by decide) (by decide) (Nat.le_of_ble_eq_true rfl) (Nat.le_of_ble_eq_true rfl) dX4_init_19 (fun q1 y1 H hK hP hD hS => ?_)
  have X : Hx D (tX0 u1.2 ++ ([(y1, .byte)])) A s H locs ([(h, .inr (4, (List.range 14).map (va_up (dfl kdX4) 0 (.ref w5))))] ++ (wX0 w5 u1.1 u1.2 g0X0 ++ ([(q1, .inl (y1, 600, .inl (fun _ => 0)))]))) := ⟨hK, hP, hD, hS, X.2.2.2.2⟩
  refine W.widen (k := 17) (n := 7983) (Nat.le_of_ble_eq_true rfl) (Nat.le_of_ble_eq_true rfl) ?_
  refine va_putF (D := D.1) (ci := 4) (v := .ref q1) (ty := tyX4 1) (C := RX4) (T := TX4) (N := 14) hx hb hts wi_X4 tyX4 tyX4_ok nmX4 hown X.1 X.2.1 X.2.2.1 X.2.2.2.1 0 rfl rfl 1 (by decide) (hts _ q2_72) (fun _ h9 => h9) rfl hin rfl (by decide +kernel) rfl rfl (by rw [List.length_map, List.length_range]; decide) dX4_init_21 (fun H locs hP hD hS => ?_)
  have X : Hx D (tX0 u1.2 ++ ([(y1, .byte)])) A s H locs ([(h, .inr (4, (List.range 14).map (va_up (va_up (dfl kdX4) 0 (.ref w5)) 1 (.ref q1))))] ++ (wX0 w5 u1.1 u1.2 g0X0 ++ ([(q1, .inl (y1, 600, .inl (fun _ => 0)))]))) := Hx_set X obj_set hP hD hS
  refine lv_aload_n hx hb dX4_init_24 rfl (lv_at hl 0 rfl) ?_
  refine lv_bipush (v := (60 : Int32)) hx hb dX4_init_25 (by decide) ?_
  refine va_newa (atype := .int) (a0 := (60, .inl (fun _ => 0))) (N' := 60) hx hb (hts (.arrayClass .int) q1_129) rfl X.1 X.2.1 X.2.2.1 X.2.2.2.1 X.2.2.2.2.1 (fun _ => rfl) (by decide) (by decide) (by decide) (Nat.le_of_ble_eq_true rfl) (Nat.le_of_ble_eq_true rfl) dX4_init_27 (fun q2 y2 H hK hP hD hS => ?_)
  have X : Hx D (tX0 u1.2 ++ ([(y1, .byte)] ++ ([(y2, .int)]))) A s H locs ([(h, .inr (4, (List.range 14).map (va_up (va_up (dfl kdX4) 0 (.ref w5)) 1 (.ref q1))))] ++ (wX0 w5 u1.1 u1.2 g0X0 ++ ([(q1, .inl (y1, 600, .inl (fun _ => 0)))] ++ ([(q2, .inl (y2, 60, .inl (fun _ => 0)))])))) := ⟨hK, hP, hD, hS, X.2.2.2.2⟩
  refine W.widen (k := 18) (n := 8043) (Nat.le_of_ble_eq_true rfl) (Nat.le_of_ble_eq_true rfl) ?_
  refine va_putF (D := D.1) (ci := 4) (v := .ref q2) (ty := tyX4 2) (C := RX4) (T := TX4) (N := 14) hx hb hts wi_X4 tyX4 tyX4_ok nmX4 hown X.1 X.2.1 X.2.2.1 X.2.2.2.1 0 rfl rfl 2 (by decide) (hts _ q2_74) (fun _ h9 => h9) rfl hin rfl (by decide +kernel) rfl rfl (by rw [List.length_map, List.length_range]; decide) dX4_init_29 (fun H locs hP hD hS => ?_)
  have X : Hx D (tX0 u1.2 ++ ([(y1, .byte)] ++ ([(y2, .int)]))) A s H locs ([(h, .inr (4, (List.range 14).map (va_up (va_up (va_up (dfl kdX4) 0 (.ref w5)) 1 (.ref q1)) 2 (.ref q2))))] ++ (wX0 w5 u1.1 u1.2 g0X0 ++ ([(q1, .inl (y1, 600, .inl (fun _ => 0)))] ++ ([(q2, .inl (y2, 60, .inl (fun _ => 0)))])))) := Hx_set X obj_set hP hD hS
  refine lv_aload_n hx hb dX4_init_32 rfl (lv_at hl 0 rfl) ?_
  refine lv_bipush (v := (60 : Int32)) hx hb dX4_init_33 (by decide) ?_
  refine va_newa (atype := .int) (a0 := (60, .inl (fun _ => 0))) (N' := 60) hx hb (hts (.arrayClass .int) q1_129) rfl X.1 X.2.1 X.2.2.1 X.2.2.2.1 X.2.2.2.2.1 (fun _ => rfl) (by decide) (by decide) (by decide) (Nat.le_of_ble_eq_true rfl) (Nat.le_of_ble_eq_true rfl) dX4_init_35 (fun q3 y3 H hK hP hD hS => ?_)
  have X : Hx D (tX0 u1.2 ++ ([(y1, .byte)] ++ ([(y2, .int)] ++ ([(y3, .int)])))) A s H locs ([(h, .inr (4, (List.range 14).map (va_up (va_up (va_up (dfl kdX4) 0 (.ref w5)) 1 (.ref q1)) 2 (.ref q2))))] ++ (wX0 w5 u1.1 u1.2 g0X0 ++ ([(q1, .inl (y1, 600, .inl (fun _ => 0)))] ++ ([(q2, .inl (y2, 60, .inl (fun _ => 0)))] ++ ([(q3, .inl (y3, 60, .inl (fun _ => 0)))]))))) := ⟨hK, hP, hD, hS, X.2.2.2.2⟩
  refine W.widen (k := 19) (n := 8103) (Nat.le_of_ble_eq_true rfl) (Nat.le_of_ble_eq_true rfl) ?_
  refine va_putF (D := D.1) (ci := 4) (v := .ref q3) (ty := tyX4 3) (C := RX4) (T := TX4) (N := 14) hx hb hts wi_X4 tyX4 tyX4_ok nmX4 hown X.1 X.2.1 X.2.2.1 X.2.2.2.1 0 rfl rfl 3 (by decide) (hts _ q2_77) (fun _ h9 => h9) rfl hin rfl (by decide +kernel) rfl rfl (by rw [List.length_map, List.length_range]; decide) dX4_init_37 (fun H locs hP hD hS => ?_)
  have X : Hx D (tX0 u1.2 ++ ([(y1, .byte)] ++ ([(y2, .int)] ++ ([(y3, .int)])))) A s H locs ([(h, .inr (4, (List.range 14).map (va_up (va_up (va_up (va_up (dfl kdX4) 0 (.ref w5)) 1 (.ref q1)) 2 (.ref q2)) 3 (.ref q3))))] ++ (wX0 w5 u1.1 u1.2 g0X0 ++ ([(q1, .inl (y1, 600, .inl (fun _ => 0)))] ++ ([(q2, .inl (y2, 60, .inl (fun _ => 0)))] ++ ([(q3, .inl (y3, 60, .inl (fun _ => 0)))]))))) := Hx_set X obj_set hP hD hS
  refine lv_aload_n hx hb dX4_init_40 rfl (lv_at hl 0 rfl) ?_
  refine lv_iconst (v := (0 : Int32)) hx hb dX4_init_41 (by decide) ?_
  refine va_put (D := D.1) (ci := 4) (v := .int (0 : Int32)) (ty := tyX4 4) (C := RX4) (T := TX4) (N := 14) hx hb hts wi_X4 tyX4 tyX4_ok nmX4 hown X.1 X.2.1 X.2.2.1 X.2.2.2.1 0 rfl rfl 4 (by decide) (hts _ q2_79) (fun _ h9 => h9) rfl (by decide +kernel) rfl rfl (by rw [List.length_map, List.length_range]; decide) dX4_init_42 (fun H locs hP hD hS => ?_)
  have X : Hx D (tX0 u1.2 ++ ([(y1, .byte)] ++ ([(y2, .int)] ++ ([(y3, .int)])))) A s H locs ([(h, .inr (4, (List.range 14).map (va_up (va_up (va_up (va_up (va_up (dfl kdX4) 0 (.ref w5)) 1 (.ref q1)) 2 (.ref q2)) 3 (.ref q3)) 4 (.int (0 : Int32)))))] ++ (wX0 w5 u1.1 u1.2 g0X0 ++ ([(q1, .inl (y1, 600, .inl (fun _ => 0)))] ++ ([(q2, .inl (y2, 60, .inl (fun _ => 0)))] ++ ([(q3, .inl (y3, 60, .inl (fun _ => 0)))]))))) := Hx_set X obj_set hP hD hS
  refine lv_aload_n hx hb dX4_init_45 rfl (lv_at hl 0 rfl) ?_
  refine lv_iconst (v := (0 : Int32)) hx hb dX4_init_46 (by decide) ?_
  refine va_put (D := D.1) (ci := 4) (v := .int (0 : Int32)) (ty := tyX4 5) (C := RX4) (T := TX4) (N := 14) hx hb hts wi_X4 tyX4 tyX4_ok nmX4 hown X.1 X.2.1 X.2.2.1 X.2.2.2.1 0 rfl rfl 5 (by decide) (hts _ q2_84) (fun _ h9 => h9) rfl (by decide +kernel) rfl rfl (by rw [List.length_map, List.length_range]; decide) dX4_init_47 (fun H locs hP hD hS => ?_)
  have X : Hx D (tX0 u1.2 ++ ([(y1, .byte)] ++ ([(y2, .int)] ++ ([(y3, .int)])))) A s H locs ([(h, .inr (4, (List.range 14).map (va_up (va_up (va_up (va_up (va_up (va_up (dfl kdX4) 0 (.ref w5)) 1 (.ref q1)) 2 (.ref q2)) 3 (.ref q3)) 4 (.int (0 : Int32))) 5 (.int (0 : Int32)))))] ++ (wX0 w5 u1.1 u1.2 g0X0 ++ ([(q1, .inl (y1, 600, .inl (fun _ => 0)))] ++ ([(q2, .inl (y2, 60, .inl (fun _ => 0)))] ++ ([(q3, .inl (y3, 60, .inl (fun _ => 0)))]))))) := Hx_set X obj_set hP hD hS
  refine lv_aload_n hx hb dX4_init_50 rfl (lv_at hl 0 rfl) ?_
  refine lv_iconst (v := (0 : Int32)) hx hb dX4_init_51 (by decide) ?_
  refine va_put (D := D.1) (ci := 4) (v := .int (0 : Int32)) (ty := tyX4 6) (C := RX4) (T := TX4) (N := 14) hx hb hts wi_X4 tyX4 tyX4_ok nmX4 hown X.1 X.2.1 X.2.2.1 X.2.2.2.1 0 rfl rfl 6 (by decide) (hts _ q2_89) (fun _ h9 => h9) rfl (by decide +kernel) rfl rfl (by rw [List.length_map, List.length_range]; decide) dX4_init_52 (fun H locs hP hD hS => ?_)
  have X : Hx D (tX0 u1.2 ++ ([(y1, .byte)] ++ ([(y2, .int)] ++ ([(y3, .int)])))) A s H locs ([(h, .inr (4, (List.range 14).map (va_up (va_up (va_up (va_up (va_up (va_up (va_up (dfl kdX4) 0 (.ref w5)) 1 (.ref q1)) 2 (.ref q2)) 3 (.ref q3)) 4 (.int (0 : Int32))) 5 (.int (0 : Int32))) 6 (.int (0 : Int32)))))] ++ (wX0 w5 u1.1 u1.2 g0X0 ++ ([(q1, .inl (y1, 600, .inl (fun _ => 0)))] ++ ([(q2, .inl (y2, 60, .inl (fun _ => 0)))] ++ ([(q3, .inl (y3, 60, .inl (fun _ => 0)))]))))) := Hx_set X obj_set hP hD hS
  refine lv_aload_n hx hb dX4_init_55 rfl (lv_at hl 0 rfl) ?_
  refine lv_bipush (v := (40 : Int32)) hx hb dX4_init_56 (by decide) ?_
  refine va_newa (atype := .int) (a0 := (40, .inl (fun _ => 0))) (N' := 40) hx hb (hts (.arrayClass .int) q1_129) rfl X.1 X.2.1 X.2.2.1 X.2.2.2.1 X.2.2.2.2.1 (fun _ => rfl) (by decide) (by decide) (by decide) (Nat.le_of_ble_eq_true rfl) (Nat.le_of_ble_eq_true rfl) dX4_init_58 (fun q4 y4 H hK hP hD hS => ?_)
  have X : Hx D (tX0 u1.2 ++ ([(y1, .byte)] ++ ([(y2, .int)] ++ ([(y3, .int)] ++ ([(y4, .int)]))))) A s H locs ([(h, .inr (4, (List.range 14).map (va_up (va_up (va_up (va_up (va_up (va_up (va_up (dfl kdX4) 0 (.ref w5)) 1 (.ref q1)) 2 (.ref q2)) 3 (.ref q3)) 4 (.int (0 : Int32))) 5 (.int (0 : Int32))) 6 (.int (0 : Int32)))))] ++ (wX0 w5 u1.1 u1.2 g0X0 ++ ([(q1, .inl (y1, 600, .inl (fun _ => 0)))] ++ ([(q2, .inl (y2, 60, .inl (fun _ => 0)))] ++ ([(q3, .inl (y3, 60, .inl (fun _ => 0)))] ++ ([(q4, .inl (y4, 40, .inl (fun _ => 0)))])))))) := ⟨hK, hP, hD, hS, X.2.2.2.2⟩
  refine W.widen (k := 20) (n := 8143) (Nat.le_of_ble_eq_true rfl) (Nat.le_of_ble_eq_true rfl) ?_
  refine va_putF (D := D.1) (ci := 4) (v := .ref q4) (ty := tyX4 7) (C := RX4) (T := TX4) (N := 14) hx hb hts wi_X4 tyX4 tyX4_ok nmX4 hown X.1 X.2.1 X.2.2.1 X.2.2.2.1 0 rfl rfl 7 (by decide) (hts _ q2_94) (fun _ h9 => h9) rfl hin rfl (by decide +kernel) rfl rfl (by rw [List.length_map, List.length_range]; decide) dX4_init_60 (fun H locs hP hD hS => ?_)
  have X : Hx D (tX0 u1.2 ++ ([(y1, .byte)] ++ ([(y2, .int)] ++ ([(y3, .int)] ++ ([(y4, .int)]))))) A s H locs ([(h, .inr (4, (List.range 14).map (va_up (va_up (va_up (va_up (va_up (va_up (va_up (va_up (dfl kdX4) 0 (.ref w5)) 1 (.ref q1)) 2 (.ref q2)) 3 (.ref q3)) 4 (.int (0 : Int32))) 5 (.int (0 : Int32))) 6 (.int (0 : Int32))) 7 (.ref q4))))] ++ (wX0 w5 u1.1 u1.2 g0X0 ++ ([(q1, .inl (y1, 600, .inl (fun _ => 0)))] ++ ([(q2, .inl (y2, 60, .inl (fun _ => 0)))] ++ ([(q3, .inl (y3, 60, .inl (fun _ => 0)))] ++ ([(q4, .inl (y4, 40, .inl (fun _ => 0)))])))))) := Hx_set X obj_set hP hD hS
  refine lv_aload_n hx hb dX4_init_63 rfl (lv_at hl 0 rfl) ?_
  refine lv_bipush (v := (40 : Int32)) hx hb dX4_init_64 (by decide) ?_
  refine va_newa (atype := .boolean) (a0 := (40, .inl (fun _ => 0))) (N' := 40) hx hb (hts (.arrayClass .boolean) q2_146) rfl X.1 X.2.1 X.2.2.1 X.2.2.2.1 X.2.2.2.2.1 (fun _ => rfl) (by decide) (by decide) (by decide) (Nat.le_of_ble_eq_true rfl) (Nat.le_of_ble_eq_true rfl) dX4_init_66 (fun q5 y5 H hK hP hD hS => ?_)
  have X : Hx D (tX0 u1.2 ++ ([(y1, .byte)] ++ ([(y2, .int)] ++ ([(y3, .int)] ++ ([(y4, .int)] ++ ([(y5, .boolean)])))))) A s H locs ([(h, .inr (4, (List.range 14).map (va_up (va_up (va_up (va_up (va_up (va_up (va_up (va_up (dfl kdX4) 0 (.ref w5)) 1 (.ref q1)) 2 (.ref q2)) 3 (.ref q3)) 4 (.int (0 : Int32))) 5 (.int (0 : Int32))) 6 (.int (0 : Int32))) 7 (.ref q4))))] ++ (wX0 w5 u1.1 u1.2 g0X0 ++ ([(q1, .inl (y1, 600, .inl (fun _ => 0)))] ++ ([(q2, .inl (y2, 60, .inl (fun _ => 0)))] ++ ([(q3, .inl (y3, 60, .inl (fun _ => 0)))] ++ ([(q4, .inl (y4, 40, .inl (fun _ => 0)))] ++ ([(q5, .inl (y5, 40, .inl (fun _ => 0)))]))))))) := ⟨hK, hP, hD, hS, X.2.2.2.2⟩
  refine W.widen (k := 21) (n := 8183) (Nat.le_of_ble_eq_true rfl) (Nat.le_of_ble_eq_true rfl) ?_
  refine va_putF (D := D.1) (ci := 4) (v := .ref q5) (ty := tyX4 8) (C := RX4) (T := TX4) (N := 14) hx hb hts wi_X4 tyX4 tyX4_ok nmX4 hown X.1 X.2.1 X.2.2.1 X.2.2.2.1 0 rfl rfl 8 (by decide) (hts _ q2_99) (fun _ h9 => h9) rfl hin rfl (by decide +kernel) rfl rfl (by rw [List.length_map, List.length_range]; decide) dX4_init_68 (fun H locs hP hD hS => ?_)
  have X : Hx D (tX0 u1.2 ++ ([(y1, .byte)] ++ ([(y2, .int)] ++ ([(y3, .int)] ++ ([(y4, .int)] ++ ([(y5, .boolean)])))))) A s H locs ([(h, .inr (4, (List.range 14).map (va_up (va_up (va_up (va_up (va_up (va_up (va_up (va_up (va_up (dfl kdX4) 0 (.ref w5)) 1 (.ref q1)) 2 (.ref q2)) 3 (.ref q3)) 4 (.int (0 : Int32))) 5 (.int (0 : Int32))) 6 (.int (0 : Int32))) 7 (.ref q4)) 8 (.ref q5))))] ++ (wX0 w5 u1.1 u1.2 g0X0 ++ ([(q1, .inl (y1, 600, .inl (fun _ => 0)))] ++ ([(q2, .inl (y2, 60, .inl (fun _ => 0)))] ++ ([(q3, .inl (y3, 60, .inl (fun _ => 0)))] ++ ([(q4, .inl (y4, 40, .inl (fun _ => 0)))] ++ ([(q5, .inl (y5, 40, .inl (fun _ => 0)))]))))))) := Hx_set X obj_set hP hD hS
  refine lv_aload_n hx hb dX4_init_71 rfl (lv_at hl 0 rfl) ?_
  refine lv_bipush (v := (40 : Int32)) hx hb dX4_init_72 (by decide) ?_
  refine va_newa (atype := .int) (a0 := (40, .inl (fun _ => 0))) (N' := 40) hx hb (hts (.arrayClass .int) q1_129) rfl X.1 X.2.1 X.2.2.1 X.2.2.2.1 X.2.2.2.2.1 (fun _ => rfl) (by decide) (by decide) (by decide) (Nat.le_of_ble_eq_true rfl) (Nat.le_of_ble_eq_true rfl) dX4_init_74 (fun q6 y6 H hK hP hD hS => ?_)
  have X : Hx D (tX0 u1.2 ++ ([(y1, .byte)] ++ ([(y2, .int)] ++ ([(y3, .int)] ++ ([(y4, .int)] ++ ([(y5, .boolean)] ++ ([(y6, .int)]))))))) A s H locs ([(h, .inr (4, (List.range 14).map (va_up (va_up (va_up (va_up (va_up (va_up (va_up (va_up (va_up (dfl kdX4) 0 (.ref w5)) 1 (.ref q1)) 2 (.ref q2)) 3 (.ref q3)) 4 (.int (0 : Int32))) 5 (.int (0 : Int32))) 6 (.int (0 : Int32))) 7 (.ref q4)) 8 (.ref q5))))] ++ (wX0 w5 u1.1 u1.2 g0X0 ++ ([(q1, .inl (y1, 600, .inl (fun _ => 0)))] ++ ([(q2, .inl (y2, 60, .inl (fun _ => 0)))] ++ ([(q3, .inl (y3, 60, .inl (fun _ => 0)))] ++ ([(q4, .inl (y4, 40, .inl (fun _ => 0)))] ++ ([(q5, .inl (y5, 40, .inl (fun _ => 0)))] ++ ([(q6, .inl (y6, 40, .inl (fun _ => 0)))])))))))) := ⟨hK, hP, hD, hS, X.2.2.2.2⟩
  refine W.widen (k := 22) (n := 8223) (Nat.le_of_ble_eq_true rfl) (Nat.le_of_ble_eq_true rfl) ?_
  refine va_putF (D := D.1) (ci := 4) (v := .ref q6) (ty := tyX4 9) (C := RX4) (T := TX4) (N := 14) hx hb hts wi_X4 tyX4 tyX4_ok nmX4 hown X.1 X.2.1 X.2.2.1 X.2.2.2.1 0 rfl rfl 9 (by decide) (hts _ q2_102) (fun _ h9 => h9) rfl hin rfl (by decide +kernel) rfl rfl (by rw [List.length_map, List.length_range]; decide) dX4_init_76 (fun H locs hP hD hS => ?_)
  have X : Hx D (tX0 u1.2 ++ ([(y1, .byte)] ++ ([(y2, .int)] ++ ([(y3, .int)] ++ ([(y4, .int)] ++ ([(y5, .boolean)] ++ ([(y6, .int)]))))))) A s H locs ([(h, .inr (4, (List.range 14).map (va_up (va_up (va_up (va_up (va_up (va_up (va_up (va_up (va_up (va_up (dfl kdX4) 0 (.ref w5)) 1 (.ref q1)) 2 (.ref q2)) 3 (.ref q3)) 4 (.int (0 : Int32))) 5 (.int (0 : Int32))) 6 (.int (0 : Int32))) 7 (.ref q4)) 8 (.ref q5)) 9 (.ref q6))))] ++ (wX0 w5 u1.1 u1.2 g0X0 ++ ([(q1, .inl (y1, 600, .inl (fun _ => 0)))] ++ ([(q2, .inl (y2, 60, .inl (fun _ => 0)))] ++ ([(q3, .inl (y3, 60, .inl (fun _ => 0)))] ++ ([(q4, .inl (y4, 40, .inl (fun _ => 0)))] ++ ([(q5, .inl (y5, 40, .inl (fun _ => 0)))] ++ ([(q6, .inl (y6, 40, .inl (fun _ => 0)))])))))))) := Hx_set X obj_set hP hD hS
  refine lv_aload_n hx hb dX4_init_79 rfl (lv_at hl 0 rfl) ?_
  refine lv_bipush (v := (52 : Int32)) hx hb dX4_init_80 (by decide) ?_
  refine va_newa (atype := .int) (a0 := (52, .inl (fun _ => 0))) (N' := 52) hx hb (hts (.arrayClass .int) q1_129) rfl X.1 X.2.1 X.2.2.1 X.2.2.2.1 X.2.2.2.2.1 (fun _ => rfl) (by decide) (by decide) (by decide) (Nat.le_of_ble_eq_true rfl) (Nat.le_of_ble_eq_true rfl) dX4_init_82 (fun q7 y7 H hK hP hD hS => ?_)
  have X : Hx D (tX0 u1.2 ++ ([(y1, .byte)] ++ ([(y2, .int)] ++ ([(y3, .int)] ++ ([(y4, .int)] ++ ([(y5, .boolean)] ++ ([(y6, .int)] ++ ([(y7, .int)])))))))) A s H locs ([(h, .inr (4, (List.range 14).map (va_up (va_up (va_up (va_up (va_up (va_up (va_up (va_up (va_up (va_up (dfl kdX4) 0 (.ref w5)) 1 (.ref q1)) 2 (.ref q2)) 3 (.ref q3)) 4 (.int (0 : Int32))) 5 (.int (0 : Int32))) 6 (.int (0 : Int32))) 7 (.ref q4)) 8 (.ref q5)) 9 (.ref q6))))] ++ (wX0 w5 u1.1 u1.2 g0X0 ++ ([(q1, .inl (y1, 600, .inl (fun _ => 0)))] ++ ([(q2, .inl (y2, 60, .inl (fun _ => 0)))] ++ ([(q3, .inl (y3, 60, .inl (fun _ => 0)))] ++ ([(q4, .inl (y4, 40, .inl (fun _ => 0)))] ++ ([(q5, .inl (y5, 40, .inl (fun _ => 0)))] ++ ([(q6, .inl (y6, 40, .inl (fun _ => 0)))] ++ ([(q7, .inl (y7, 52, .inl (fun _ => 0)))]))))))))) := ⟨hK, hP, hD, hS, X.2.2.2.2⟩
  refine W.widen (k := 23) (n := 8275) (Nat.le_of_ble_eq_true rfl) (Nat.le_of_ble_eq_true rfl) ?_
  refine va_putF (D := D.1) (ci := 4) (v := .ref q7) (ty := tyX4 10) (C := RX4) (T := TX4) (N := 14) hx hb hts wi_X4 tyX4 tyX4_ok nmX4 hown X.1 X.2.1 X.2.2.1 X.2.2.2.1 0 rfl rfl 10 (by decide) (hts _ q2_105) (fun _ h9 => h9) rfl hin rfl (by decide +kernel) rfl rfl (by rw [List.length_map, List.length_range]; decide) dX4_init_84 (fun H locs hP hD hS => ?_)
  have X : Hx D (tX0 u1.2 ++ ([(y1, .byte)] ++ ([(y2, .int)] ++ ([(y3, .int)] ++ ([(y4, .int)] ++ ([(y5, .boolean)] ++ ([(y6, .int)] ++ ([(y7, .int)])))))))) A s H locs ([(h, .inr (4, (List.range 14).map (va_up (va_up (va_up (va_up (va_up (va_up (va_up (va_up (va_up (va_up (va_up (dfl kdX4) 0 (.ref w5)) 1 (.ref q1)) 2 (.ref q2)) 3 (.ref q3)) 4 (.int (0 : Int32))) 5 (.int (0 : Int32))) 6 (.int (0 : Int32))) 7 (.ref q4)) 8 (.ref q5)) 9 (.ref q6)) 10 (.ref q7))))] ++ (wX0 w5 u1.1 u1.2 g0X0 ++ ([(q1, .inl (y1, 600, .inl (fun _ => 0)))] ++ ([(q2, .inl (y2, 60, .inl (fun _ => 0)))] ++ ([(q3, .inl (y3, 60, .inl (fun _ => 0)))] ++ ([(q4, .inl (y4, 40, .inl (fun _ => 0)))] ++ ([(q5, .inl (y5, 40, .inl (fun _ => 0)))] ++ ([(q6, .inl (y6, 40, .inl (fun _ => 0)))] ++ ([(q7, .inl (y7, 52, .inl (fun _ => 0)))]))))))))) := Hx_set X obj_set hP hD hS
  refine lv_aload_n hx hb dX4_init_87 rfl (lv_at hl 0 rfl) ?_
  refine lv_bipush (v := (52 : Int32)) hx hb dX4_init_88 (by decide) ?_
  refine va_newa (atype := .int) (a0 := (52, .inl (fun _ => 0))) (N' := 52) hx hb (hts (.arrayClass .int) q1_129) rfl X.1 X.2.1 X.2.2.1 X.2.2.2.1 X.2.2.2.2.1 (fun _ => rfl) (by decide) (by decide) (by decide) (Nat.le_of_ble_eq_true rfl) (Nat.le_of_ble_eq_true rfl) dX4_init_90 (fun q8 y8 H hK hP hD hS => ?_)
  have X : Hx D (tX0 u1.2 ++ ([(y1, .byte)] ++ ([(y2, .int)] ++ ([(y3, .int)] ++ ([(y4, .int)] ++ ([(y5, .boolean)] ++ ([(y6, .int)] ++ ([(y7, .int)] ++ ([(y8, .int)]))))))))) A s H locs ([(h, .inr (4, (List.range 14).map (va_up (va_up (va_up (va_up (va_up (va_up (va_up (va_up (va_up (va_up (va_up (dfl kdX4) 0 (.ref w5)) 1 (.ref q1)) 2 (.ref q2)) 3 (.ref q3)) 4 (.int (0 : Int32))) 5 (.int (0 : Int32))) 6 (.int (0 : Int32))) 7 (.ref q4)) 8 (.ref q5)) 9 (.ref q6)) 10 (.ref q7))))] ++ (wX0 w5 u1.1 u1.2 g0X0 ++ ([(q1, .inl (y1, 600, .inl (fun _ => 0)))] ++ ([(q2, .inl (y2, 60, .inl (fun _ => 0)))] ++ ([(q3, .inl (y3, 60, .inl (fun _ => 0)))] ++ ([(q4, .inl (y4, 40, .inl (fun _ => 0)))] ++ ([(q5, .inl (y5, 40, .inl (fun _ => 0)))] ++ ([(q6, .inl (y6, 40, .inl (fun _ => 0)))] ++ ([(q7, .inl (y7, 52, .inl (fun _ => 0)))] ++ ([(q8, .inl (y8, 52, .inl (fun _ => 0)))])))))))))) := ⟨hK, hP, hD, hS, X.2.2.2.2⟩
  refine W.widen (k := 24) (n := 8327) (Nat.le_of_ble_eq_true rfl) (Nat.le_of_ble_eq_true rfl) ?_
  refine va_putF (D := D.1) (ci := 4) (v := .ref q8) (ty := tyX4 11) (C := RX4) (T := TX4) (N := 14) hx hb hts wi_X4 tyX4 tyX4_ok nmX4 hown X.1 X.2.1 X.2.2.1 X.2.2.2.1 0 rfl rfl 11 (by decide) (hts _ q2_108) (fun _ h9 => h9) rfl hin rfl (by decide +kernel) rfl rfl (by rw [List.length_map, List.length_range]; decide) dX4_init_92 (fun H locs hP hD hS => ?_)
  have X : Hx D (tX0 u1.2 ++ ([(y1, .byte)] ++ ([(y2, .int)] ++ ([(y3, .int)] ++ ([(y4, .int)] ++ ([(y5, .boolean)] ++ ([(y6, .int)] ++ ([(y7, .int)] ++ ([(y8, .int)]))))))))) A s H locs ([(h, .inr (4, (List.range 14).map (va_up (va_up (va_up (va_up (va_up (va_up (va_up (va_up (va_up (va_up (va_up (va_up (dfl kdX4) 0 (.ref w5)) 1 (.ref q1)) 2 (.ref q2)) 3 (.ref q3)) 4 (.int (0 : Int32))) 5 (.int (0 : Int32))) 6 (.int (0 : Int32))) 7 (.ref q4)) 8 (.ref q5)) 9 (.ref q6)) 10 (.ref q7)) 11 (.ref q8))))] ++ (wX0 w5 u1.1 u1.2 g0X0 ++ ([(q1, .inl (y1, 600, .inl (fun _ => 0)))] ++ ([(q2, .inl (y2, 60, .inl (fun _ => 0)))] ++ ([(q3, .inl (y3, 60, .inl (fun _ => 0)))] ++ ([(q4, .inl (y4, 40, .inl (fun _ => 0)))] ++ ([(q5, .inl (y5, 40, .inl (fun _ => 0)))] ++ ([(q6, .inl (y6, 40, .inl (fun _ => 0)))] ++ ([(q7, .inl (y7, 52, .inl (fun _ => 0)))] ++ ([(q8, .inl (y8, 52, .inl (fun _ => 0)))])))))))))) := Hx_set X obj_set hP hD hS
  refine lv_aload_n hx hb dX4_init_95 rfl (lv_at hl 0 rfl) ?_
  refine lv_sipush (v := (192 : Int32)) hx hb dX4_init_96 (by decide) ?_
  refine va_newa (atype := .double) (a0 := (192, .inr (.inr (.inr (.inl (fun _ => 0)))))) (N' := 192) hx hb (hts (.arrayClass .double) q1_46) rfl X.1 X.2.1 X.2.2.1 X.2.2.2.1 X.2.2.2.2.1 (fun _ => rfl) (by decide) (by decide) (by decide) (Nat.le_of_ble_eq_true rfl) (Nat.le_of_ble_eq_true rfl) dX4_init_99 (fun q9 y9 H hK hP hD hS => ?_)
  have X : Hx D (tX0 u1.2 ++ ([(y1, .byte)] ++ ([(y2, .int)] ++ ([(y3, .int)] ++ ([(y4, .int)] ++ ([(y5, .boolean)] ++ ([(y6, .int)] ++ ([(y7, .int)] ++ ([(y8, .int)] ++ ([(y9, .double)])))))))))) A s H locs ([(h, .inr (4, (List.range 14).map (va_up (va_up (va_up (va_up (va_up (va_up (va_up (va_up (va_up (va_up (va_up (va_up (dfl kdX4) 0 (.ref w5)) 1 (.ref q1)) 2 (.ref q2)) 3 (.ref q3)) 4 (.int (0 : Int32))) 5 (.int (0 : Int32))) 6 (.int (0 : Int32))) 7 (.ref q4)) 8 (.ref q5)) 9 (.ref q6)) 10 (.ref q7)) 11 (.ref q8))))] ++ (wX0 w5 u1.1 u1.2 g0X0 ++ ([(q1, .inl (y1, 600, .inl (fun _ => 0)))] ++ ([(q2, .inl (y2, 60, .inl (fun _ => 0)))] ++ ([(q3, .inl (y3, 60, .inl (fun _ => 0)))] ++ ([(q4, .inl (y4, 40, .inl (fun _ => 0)))] ++ ([(q5, .inl (y5, 40, .inl (fun _ => 0)))] ++ ([(q6, .inl (y6, 40, .inl (fun _ => 0)))] ++ ([(q7, .inl (y7, 52, .inl (fun _ => 0)))] ++ ([(q8, .inl (y8, 52, .inl (fun _ => 0)))] ++ ([(q9, .inl (y9, 192, .inr (.inr (.inr (.inl (fun _ => 0))))))]))))))))))) := ⟨hK, hP, hD, hS, X.2.2.2.2⟩
  refine W.widen (k := 25) (n := 8519) (Nat.le_of_ble_eq_true rfl) (Nat.le_of_ble_eq_true rfl) ?_
  refine va_putF (D := D.1) (ci := 4) (v := .ref q9) (ty := tyX4 12) (C := RX4) (T := TX4) (N := 14) hx hb hts wi_X4 tyX4 tyX4_ok nmX4 hown X.1 X.2.1 X.2.2.1 X.2.2.2.1 0 rfl rfl 12 (by decide) (hts _ q2_111) (fun _ h9 => h9) rfl hin rfl (by decide +kernel) rfl rfl (by rw [List.length_map, List.length_range]; decide) dX4_init_101 (fun H locs hP hD hS => ?_)
  have X : Hx D (tX0 u1.2 ++ ([(y1, .byte)] ++ ([(y2, .int)] ++ ([(y3, .int)] ++ ([(y4, .int)] ++ ([(y5, .boolean)] ++ ([(y6, .int)] ++ ([(y7, .int)] ++ ([(y8, .int)] ++ ([(y9, .double)])))))))))) A s H locs ([(h, .inr (4, (List.range 14).map (va_up (va_up (va_up (va_up (va_up (va_up (va_up (va_up (va_up (va_up (va_up (va_up (va_up (dfl kdX4) 0 (.ref w5)) 1 (.ref q1)) 2 (.ref q2)) 3 (.ref q3)) 4 (.int (0 : Int32))) 5 (.int (0 : Int32))) 6 (.int (0 : Int32))) 7 (.ref q4)) 8 (.ref q5)) 9 (.ref q6)) 10 (.ref q7)) 11 (.ref q8)) 12 (.ref q9))))] ++ (wX0 w5 u1.1 u1.2 g0X0 ++ ([(q1, .inl (y1, 600, .inl (fun _ => 0)))] ++ ([(q2, .inl (y2, 60, .inl (fun _ => 0)))] ++ ([(q3, .inl (y3, 60, .inl (fun _ => 0)))] ++ ([(q4, .inl (y4, 40, .inl (fun _ => 0)))] ++ ([(q5, .inl (y5, 40, .inl (fun _ => 0)))] ++ ([(q6, .inl (y6, 40, .inl (fun _ => 0)))] ++ ([(q7, .inl (y7, 52, .inl (fun _ => 0)))] ++ ([(q8, .inl (y8, 52, .inl (fun _ => 0)))] ++ ([(q9, .inl (y9, 192, .inr (.inr (.inr (.inl (fun _ => 0))))))]))))))))))) := Hx_set X obj_set hP hD hS
  refine lv_aload_n hx hb dX4_init_104 rfl (lv_at hl 0 rfl) ?_
  refine lv_bipush (v := (8 : Int32)) hx hb dX4_init_105 (by decide) ?_
  refine va_newa (atype := .int) (a0 := (8, .inl (fun _ => 0))) (N' := 8) hx hb (hts (.arrayClass .int) q1_129) rfl X.1 X.2.1 X.2.2.1 X.2.2.2.1 X.2.2.2.2.1 (fun _ => rfl) (by decide) (by decide) (by decide) (Nat.le_of_ble_eq_true rfl) (Nat.le_of_ble_eq_true rfl) dX4_init_107 (fun q10 y10 H hK hP hD hS => ?_)
  have X : Hx D (tX0 u1.2 ++ ([(y1, .byte)] ++ ([(y2, .int)] ++ ([(y3, .int)] ++ ([(y4, .int)] ++ ([(y5, .boolean)] ++ ([(y6, .int)] ++ ([(y7, .int)] ++ ([(y8, .int)] ++ ([(y9, .double)] ++ ([(y10, .int)]))))))))))) A s H locs ([(h, .inr (4, (List.range 14).map (va_up (va_up (va_up (va_up (va_up (va_up (va_up (va_up (va_up (va_up (va_up (va_up (va_up (dfl kdX4) 0 (.ref w5)) 1 (.ref q1)) 2 (.ref q2)) 3 (.ref q3)) 4 (.int (0 : Int32))) 5 (.int (0 : Int32))) 6 (.int (0 : Int32))) 7 (.ref q4)) 8 (.ref q5)) 9 (.ref q6)) 10 (.ref q7)) 11 (.ref q8)) 12 (.ref q9))))] ++ (wX0 w5 u1.1 u1.2 g0X0 ++ ([(q1, .inl (y1, 600, .inl (fun _ => 0)))] ++ ([(q2, .inl (y2, 60, .inl (fun _ => 0)))] ++ ([(q3, .inl (y3, 60, .inl (fun _ => 0)))] ++ ([(q4, .inl (y4, 40, .inl (fun _ => 0)))] ++ ([(q5, .inl (y5, 40, .inl (fun _ => 0)))] ++ ([(q6, .inl (y6, 40, .inl (fun _ => 0)))] ++ ([(q7, .inl (y7, 52, .inl (fun _ => 0)))] ++ ([(q8, .inl (y8, 52, .inl (fun _ => 0)))] ++ ([(q9, .inl (y9, 192, .inr (.inr (.inr (.inl (fun _ => 0))))))] ++ ([(q10, .inl (y10, 8, .inl (fun _ => 0)))])))))))))))) := ⟨hK, hP, hD, hS, X.2.2.2.2⟩
  refine W.widen (k := 26) (n := 8527) (Nat.le_of_ble_eq_true rfl) (Nat.le_of_ble_eq_true rfl) ?_
  refine va_putF (D := D.1) (ci := 4) (v := .ref q10) (ty := tyX4 13) (C := RX4) (T := TX4) (N := 14) hx hb hts wi_X4 tyX4 tyX4_ok nmX4 hown X.1 X.2.1 X.2.2.1 X.2.2.2.1 0 rfl rfl 13 (by decide) (hts _ q2_114) (fun _ h9 => h9) rfl hin rfl (by decide +kernel) rfl rfl (by rw [List.length_map, List.length_range]; decide) dX4_init_109 (fun H locs hP hD hS => ?_)
  have X : Hx D (tX0 u1.2 ++ ([(y1, .byte)] ++ ([(y2, .int)] ++ ([(y3, .int)] ++ ([(y4, .int)] ++ ([(y5, .boolean)] ++ ([(y6, .int)] ++ ([(y7, .int)] ++ ([(y8, .int)] ++ ([(y9, .double)] ++ ([(y10, .int)]))))))))))) A s H locs ([(h, .inr (4, (List.range 14).map (va_up (va_up (va_up (va_up (va_up (va_up (va_up (va_up (va_up (va_up (va_up (va_up (va_up (va_up (dfl kdX4) 0 (.ref w5)) 1 (.ref q1)) 2 (.ref q2)) 3 (.ref q3)) 4 (.int (0 : Int32))) 5 (.int (0 : Int32))) 6 (.int (0 : Int32))) 7 (.ref q4)) 8 (.ref q5)) 9 (.ref q6)) 10 (.ref q7)) 11 (.ref q8)) 12 (.ref q9)) 13 (.ref q10))))] ++ (wX0 w5 u1.1 u1.2 g0X0 ++ ([(q1, .inl (y1, 600, .inl (fun _ => 0)))] ++ ([(q2, .inl (y2, 60, .inl (fun _ => 0)))] ++ ([(q3, .inl (y3, 60, .inl (fun _ => 0)))] ++ ([(q4, .inl (y4, 40, .inl (fun _ => 0)))] ++ ([(q5, .inl (y5, 40, .inl (fun _ => 0)))] ++ ([(q6, .inl (y6, 40, .inl (fun _ => 0)))] ++ ([(q7, .inl (y7, 52, .inl (fun _ => 0)))] ++ ([(q8, .inl (y8, 52, .inl (fun _ => 0)))] ++ ([(q9, .inl (y9, 192, .inr (.inr (.inr (.inl (fun _ => 0))))))] ++ ([(q10, .inl (y10, 8, .inl (fun _ => 0)))])))))))))))) := Hx_set X obj_set hP hD hS
  have e1 : (List.range 14).map (va_up (va_up (va_up (va_up (va_up (va_up (va_up (va_up (va_up (va_up (va_up (va_up (va_up (va_up (dfl kdX4) 0 (.ref w5)) 1 (.ref q1)) 2 (.ref q2)) 3 (.ref q3)) 4 (.int (0 : Int32))) 5 (.int (0 : Int32))) 6 (.int (0 : Int32))) 7 (.ref q4)) 8 (.ref q5)) 9 (.ref q6)) 10 (.ref q7)) 11 (.ref q8)) 12 (.ref q9)) 13 (.ref q10)) = (List.range 14).map (fld kdX4 (fun k => ([w5, q1, q2, q3, 0, 0, 0, q4, q5, q6, q7, q8, q9, q10] : List Nat).getD k 0) g0X4) := by rfl
  have e2 : ([(q1, .inl (y1, 600, .inl (fun _ => 0))), (q2, .inl (y2, 60, .inl (fun _ => 0))), (q3, .inl (y3, 60, .inl (fun _ => 0))), (q4, .inl (y4, 40, .inl (fun _ => 0))), (q5, .inl (y5, 40, .inl (fun _ => 0))), (q6, .inl (y6, 40, .inl (fun _ => 0))), (q7, .inl (y7, 52, .inl (fun _ => 0))), (q8, .inl (y8, 52, .inl (fun _ => 0))), (q9, .inl (y9, 192, .inr (.inr (.inr (.inl (fun _ => 0)))))), (q10, .inl (y10, 8, .inl (fun _ => 0)))] : va_W) = ksX4.map (arF akX4 lnX4 (fun k => ([w5, q1, q2, q3, 0, 0, 0, q4, q5, q6, q7, q8, q9, q10] : List Nat).getD k 0) (fun k => ([y1, y1, y2, y3, y1, y1, y1, y4, y5, y6, y7, y8, y9, y10] : List ClassId).getD k y1) g0X4) := by rfl
  have hP9 := X.2.1.sub (ws' := ((h, .inr (4, (List.range 14).map (va_up (va_up (va_up (va_up (va_up (va_up (va_up (va_up (va_up (va_up (va_up (va_up (va_up (va_up (dfl kdX4) 0 (.ref w5)) 1 (.ref q1)) 2 (.ref q2)) 3 (.ref q3)) 4 (.int (0 : Int32))) 5 (.int (0 : Int32))) 6 (.int (0 : Int32))) 7 (.ref q4)) 8 (.ref q5)) 9 (.ref q6)) 10 (.ref q7)) 11 (.ref q8)) 12 (.ref q9)) 13 (.ref q10)))) :: [(q1, .inl (y1, 600, .inl (fun _ => 0))), (q2, .inl (y2, 60, .inl (fun _ => 0))), (q3, .inl (y3, 60, .inl (fun _ => 0))), (q4, .inl (y4, 40, .inl (fun _ => 0))), (q5, .inl (y5, 40, .inl (fun _ => 0))), (q6, .inl (y6, 40, .inl (fun _ => 0))), (q7, .inl (y7, 52, .inl (fun _ => 0))), (q8, .inl (y8, 52, .inl (fun _ => 0))), (q9, .inl (y9, 192, .inr (.inr (.inr (.inl (fun _ => 0)))))), (q10, .inl (y10, 8, .inl (fun _ => 0)))]) ++ (wX0 w5 u1.1 u1.2 g0X0)) [0, 17, 18, 19, 20, 21, 22, 23, 24, 25, 26, 1, 2, 3, 4, 5, 6, 7, 8, 9, 10, 11, 12, 13, 14, 15, 16] rfl
  have hD9 := X.2.2.1.sub (ws' := ((h, .inr (4, (List.range 14).map (va_up (va_up (va_up (va_up (va_up (va_up (va_up (va_up (va_up (va_up (va_up (va_up (va_up (va_up (dfl kdX4) 0 (.ref w5)) 1 (.ref q1)) 2 (.ref q2)) 3 (.ref q3)) 4 (.int (0 : Int32))) 5 (.int (0 : Int32))) 6 (.int (0 : Int32))) 7 (.ref q4)) 8 (.ref q5)) 9 (.ref q6)) 10 (.ref q7)) 11 (.ref q8)) 12 (.ref q9)) 13 (.ref q10)))) :: [(q1, .inl (y1, 600, .inl (fun _ => 0))), (q2, .inl (y2, 60, .inl (fun _ => 0))), (q3, .inl (y3, 60, .inl (fun _ => 0))), (q4, .inl (y4, 40, .inl (fun _ => 0))), (q5, .inl (y5, 40, .inl (fun _ => 0))), (q6, .inl (y6, 40, .inl (fun _ => 0))), (q7, .inl (y7, 52, .inl (fun _ => 0))), (q8, .inl (y8, 52, .inl (fun _ => 0))), (q9, .inl (y9, 192, .inr (.inr (.inr (.inl (fun _ => 0)))))), (q10, .inl (y10, 8, .inl (fun _ => 0)))]) ++ (wX0 w5 u1.1 u1.2 g0X0)) [0, 17, 18, 19, 20, 21, 22, 23, 24, 25, 26, 1, 2, 3, 4, 5, 6, 7, 8, 9, 10, 11, 12, 13, 14, 15, 16] (by decide) rfl
  rw [obj_eq (ci := 4) (h := h) e1 e2] at hP9 hD9
  have hK9 := X.1.sub [15, 16, 17, 18, 19, 20, 21, 22, 23, 24, 0, 1, 2, 3, 4, 5, 6, 7, 8, 9, 10, 11, 12, 13, 14] rfl
  exact W.vret hx hb hr (fun t ht hW => ⟨⟨(((fun k => ([w5, q1, q2, q3, 0, 0, 0, q4, q5, q6, q7, q8, q9, q10] : List Nat).getD k 0), (fun k => ([y1, y1, y2, y3, y1, y1, y1, y4, y5, y6, y7, y8, y9, y10] : List ClassId).getD k y1)), u1), rfl, trivial, by rw [ht]; exact hP9, va_K.moved hW.alike hK9, hD9⟩, X.2.2.2.1.F ht⟩) X.2.2.2.1.2.2 dX4_init_112 hlk

theorem dX5_init_0 : decode cX5_init 0 = .ok (.aload_n 0, 1) := by decide +kernel
theorem dX5_init_1 : decode cX5_init 1 = .ok (.invokespecial 3, 3) := by decide +kernel
theorem dX5_init_4 : decode cX5_init 4 = .ok (.aload_n 0, 1) := by decide +kernel
theorem dX5_init_5 : decode cX5_init 5 = .ok (.new 9, 3) := by decide +kernel
theorem dX5_init_8 : decode cX5_init 8 = .ok (.dup, 1) := by decide +kernel
theorem dX5_init_9 : decode cX5_init 9 = .ok (.invokespecial 11, 3) := by decide +kernel
theorem dX5_init_12 : decode cX5_init 12 = .ok (.putfield 12, 3) := by decide +kernel
theorem dX5_init_15 : decode cX5_init 15 = .ok (.aload_n 0, 1) := by decide +kernel
theorem dX5_init_16 : decode cX5_init 16 = .ok (.sipush 320, 3) := by decide +kernel
theorem dX5_init_19 : decode cX5_init 19 = .ok (.newarray .int, 2) := by decide +kernel
theorem dX5_init_21 : decode cX5_init 21 = .ok (.putfield 18, 3) := by decide +kernel
theorem dX5_init_24 : decode cX5_init 24 = .ok (.aload_n 0, 1) := by decide +kernel
theorem dX5_init_25 : decode cX5_init 25 = .ok (.sipush 320, 3) := by decide +kernel
theorem dX5_init_28 : decode cX5_init 28 = .ok (.newarray .int, 2) := by decide +kernel
theorem dX5_init_30 : decode cX5_init 30 = .ok (.putfield 22, 3) := by decide +kernel
theorem dX5_init_33 : decode cX5_init 33 = .ok (.aload_n 0, 1) := by decide +kernel
theorem dX5_init_34 : decode cX5_init 34 = .ok (.sipush 320, 3) := by decide +kernel
theorem dX5_init_37 : decode cX5_init 37 = .ok (.newarray .int, 2) := by decide +kernel
theorem dX5_init_39 : decode cX5_init 39 = .ok (.putfield 25, 3) := by decide +kernel
theorem dX5_init_42 : decode cX5_init 42 = .ok (.aload_n 0, 1) := by decide +kernel
theorem dX5_init_43 : decode cX5_init 43 = .ok (.sipush 320, 3) := by decide +kernel
theorem dX5_init_46 : decode cX5_init 46 = .ok (.newarray .int, 2) := by decide +kernel
theorem dX5_init_48 : decode cX5_init 48 = .ok (.putfield 28, 3) := by decide +kernel
theorem dX5_init_51 : decode cX5_init 51 = .ok (.aload_n 0, 1) := by decide +kernel
theorem dX5_init_52 : decode cX5_init 52 = .ok (.iconst 0, 1) := by decide +kernel
theorem dX5_init_53 : decode cX5_init 53 = .ok (.putfield 31, 3) := by decide +kernel
theorem dX5_init_56 : decode cX5_init 56 = .ok (.aload_n 0, 1) := by decide +kernel
theorem dX5_init_57 : decode cX5_init 57 = .ok (.iconst 0, 1) := by decide +kernel
theorem dX5_init_58 : decode cX5_init 58 = .ok (.putfield 35, 3) := by decide +kernel
theorem dX5_init_61 : decode cX5_init 61 = .ok (.aload_n 0, 1) := by decide +kernel
theorem dX5_init_62 : decode cX5_init 62 = .ok (.iconst 1, 1) := by decide +kernel
theorem dX5_init_63 : decode cX5_init 63 = .ok (.putfield 38, 3) := by decide +kernel
theorem dX5_init_66 : decode cX5_init 66 = .ok (.aload_n 0, 1) := by decide +kernel
theorem dX5_init_67 : decode cX5_init 67 = .ok (.iconst 0, 1) := by decide +kernel
theorem dX5_init_68 : decode cX5_init 68 = .ok (.putfield 42, 3) := by decide +kernel
theorem dX5_init_71 : decode cX5_init 71 = .ok (.aload_n 0, 1) := by decide +kernel
theorem dX5_init_72 : decode cX5_init 72 = .ok (.iconst 0, 1) := by decide +kernel
theorem dX5_init_73 : decode cX5_init 73 = .ok (.putfield 45, 3) := by decide +kernel
theorem dX5_init_76 : decode cX5_init 76 = .ok (.aload_n 0, 1) := by decide +kernel
theorem dX5_init_77 : decode cX5_init 77 = .ok (.iconst 0, 1) := by decide +kernel
theorem dX5_init_78 : decode cX5_init 78 = .ok (.putfield 48, 3) := by decide +kernel
theorem dX5_init_81 : decode cX5_init 81 = .ok (.aload_n 0, 1) := by decide +kernel
theorem dX5_init_82 : decode cX5_init 82 = .ok (.iconst (-1), 1) := by decide +kernel
theorem dX5_init_83 : decode cX5_init 83 = .ok (.putfield 51, 3) := by decide +kernel
theorem dX5_init_86 : decode cX5_init 86 = .ok (.aload_n 0, 1) := by decide +kernel
theorem dX5_init_87 : decode cX5_init 87 = .ok (.iconst (-1), 1) := by decide +kernel
theorem dX5_init_88 : decode cX5_init 88 = .ok (.putfield 54, 3) := by decide +kernel
theorem dX5_init_91 : decode cX5_init 91 = .ok (.aload_n 0, 1) := by decide +kernel
theorem dX5_init_92 : decode cX5_init 92 = .ok (.aload_n 1, 1) := by decide +kernel
theorem dX5_init_93 : decode cX5_init 93 = .ok (.putfield 57, 3) := by decide +kernel
theorem dX5_init_96 : decode cX5_init 96 = .ok (.aload_n 0, 1) := by decide +kernel
theorem dX5_init_97 : decode cX5_init 97 = .ok (.aload_n 3, 1) := by decide +kernel
theorem dX5_init_98 : decode cX5_init 98 = .ok (.putfield 61, 3) := by decide +kernel
theorem dX5_init_101 : decode cX5_init 101 = .ok (.aload_n 0, 1) := by decide +kernel
theorem dX5_init_102 : decode cX5_init 102 = .ok (.aload_n 3, 1) := by decide +kernel
theorem dX5_init_103 : decode cX5_init 103 = .ok (.getfield 65, 3) := by decide +kernel
theorem dX5_init_106 : decode cX5_init 106 = .ok (.putfield 71, 3) := by decide +kernel
theorem dX5_init_109 : decode cX5_init 109 = .ok (.aload_n 0, 1) := by decide +kernel
theorem dX5_init_110 : decode cX5_init 110 = .ok (.new 72, 3) := by decide +kernel
theorem dX5_init_113 : decode cX5_init 113 = .ok (.dup, 1) := by decide +kernel
theorem dX5_init_114 : decode cX5_init 114 = .ok (.aload_n 1, 1) := by decide +kernel
theorem dX5_init_115 : decode cX5_init 115 = .ok (.aload_n 2, 1) := by decide +kernel
theorem dX5_init_116 : decode cX5_init 116 = .ok (.invokespecial 74, 3) := by decide +kernel
theorem dX5_init_119 : decode cX5_init 119 = .ok (.putfield 77, 3) := by decide +kernel
theorem dX5_init_122 : decode cX5_init 122 = .ok (.aload_n 0, 1) := by decide +kernel
theorem dX5_init_123 : decode cX5_init 123 = .ok (.new 81, 3) := by decide +kernel
theorem dX5_init_126 : decode cX5_init 126 = .ok (.dup, 1) := by decide +kernel
theorem dX5_init_127 : decode cX5_init 127 = .ok (.aload_n 1, 1) := by decide +kernel
theorem dX5_init_128 : decode cX5_init 128 = .ok (.invokespecial 83, 3) := by decide +kernel
theorem dX5_init_131 : decode cX5_init 131 = .ok (.putfield 86, 3) := by decide +kernel
theorem dX5_init_134 : decode cX5_init 134 = .ok (.return_, 1) := by decide +kernel
def g0X5 (x14 : Nat) (x15 : Nat) : Gs := (sR (sR (sI (sI (sI g00 10 (1 : Int32)) 16 (-1 : Int32)) 17 (-1 : Int32)) 14 (some x14)) 15 (some x15))
theorem dfX5 : ∀ j, j < 18 → defaultValue (tyX5 j) = vp_V ((List.range 18).map (dfl kdX5)) j := by decide +kernel
set_option maxHeartbeats 4000000 in
set_option maxRecDepth 100000 in
theorem n_X5_init (l : Launch) (D : Dx) (h : Nat) (r0 : Nat) (r1 : Nat) (r2 : Nat) (aP : Nat → Nat) (gP : Gs) (sz : Nat) : Met l yX5_init (ws_ yX5_init cX5_init 4 none) { frames := 2, cells := 8, slots := 1808, locals := 62 } (PC D [] [.ref h, .ref r0, .ref r1, .ref r2] [(h, .inr (5, (List.range 18).map (dfl kdX5))), (r2, .inr (4, (List.range 14).map (fld kdX4 aP gP)))] sz) (QN D (fun u : AY × AY × AY × AY => u.1.1 0 = r0 ∧ u.2.2.1.1 0 = r0 ∧ u.2.2.1.1 1 = r1 ∧ u.2.2.2.1 0 = r0) (va_A [(h, .inr (5, (List.range 18).map (dfl kdX5))), (r2, .inr (4, (List.range 14).map (fld kdX4 aP gP)))] sz) (fun u => wX5 h u.1.1 u.1.2 (g0X5 r2 (aP 0)) ++ (wX8 (u.1.1 3) u.2.1.1 u.2.1.2 g0X8 ++ (wX7 (u.1.1 1) u.2.2.1.1 u.2.2.1.2 g0X7 ++ (wX2 (u.1.1 2) u.2.2.2.1 u.2.2.2.2 g0X2 ++ ([(r2, .inr (4, (List.range 14).map (fld kdX4 aP gP)))]))))) (fun u => tX5 u.1.2 ++ (tX8 u.2.1.2 ++ (tX7 u.2.2.1.2 ++ (tX2 u.2.2.2.2))))) 8 1808 (va_A [(h, .inr (5, (List.range 18).map (dfl kdX5))), (r2, .inr (4, (List.range 14).map (fld kdX4 aP gP)))] sz) := by
  refine Met.ofW (cc := cX5_init) (maxL := 4) (ret := none) (by decide) rfl ?_
  intro p e s m args below meth c s₁ B hml hv
  obtain ⟨rfl, hsz, hP, hK, hD, hN⟩ := hv
  subst hsz
  have C : Cx p s m _ meth c cX5_init none 4 RX5 lw_all := Cx_of B hml
  have X := Hx_start hP hK hD hN
  have hin : meth.name = "<init>" := (name_of_methodNamed B.named B.method).1
  obtain ⟨hx, hb, hr, -, hown, hts, hlk⟩ := id C
  generalize va_A [(h, .inr (5, (List.range 18).map (dfl kdX5))), (r2, .inr (4, (List.range 14).map (fld kdX4 aP gP)))] s.heap.size = A at X ⊢
  have hl := lv_entry ([.ref h, .ref r0, .ref r1, .ref r2]) (n := 4) (Nat.le_of_ble_eq_true rfl)
  rw [lg_entry_eq]
  generalize (lg_sl ([.ref h, .ref r0, .ref r1, .ref r2]) ++ List.replicate (4 - (lg_sl ([.ref h, .ref r0, .ref r1, .ref r2])).length) Slot.unset).toArray = ls at hl ⊢
  have hl : lv_has ls 4 [(0, .ref h), (1, .ref r0), (2, .ref r1), (3, .ref r2)] := hl
  refine lv_aload_n hx hb dX5_init_0 rfl (lv_at hl 0 rfl) ?_
  refine W.objInit hx hb hown (hts _ q2_215) (hts _ q1_31) (hts _ q1_32) rfl (by rw [hml]; exact hl.1) rfl dX5_init_1 (Nat.le_of_ble_eq_true rfl) (Nat.le_of_ble_eq_true rfl) ?_
  refine W.eq (g2 := F0 m 4 ls []) rfl ?_
  refine lv_aload_n hx hb dX5_init_4 rfl (lv_at hl 0 rfl) ?_
  refine va_new (ci := 8) (fs := (List.range 2).map (dfl kdX8)) (C := RX8) (T := TX8) (N := 2) hx hb hts wi_X8 tyX8 tyX8_ok hown (hts _ q2_216) (hts _ q2_217) (hts _ q1_11) X.1 X.2.1 X.2.2.1 X.2.2.2.1 X.2.2.2.2.1 rfl dfX8 (Nat.le_of_ble_eq_true rfl) (Nat.le_of_ble_eq_true rfl) dX5_init_5 (fun w5 H hP hD hS => ?_)
  have X : Hx D ([]) A s H [] ([(h, .inr (5, (List.range 18).map (dfl kdX5)))] ++ ([(r2, .inr (4, (List.range 14).map (fld kdX4 aP gP)))] ++ ([(w5, .inr (8, (List.range 2).map (dfl kdX8)))]))) := ⟨X.1, hP, hD, hS, X.2.2.2.2⟩
  refine W.widen (k := 1) (n := 2) (Nat.le_of_ble_eq_true rfl) (Nat.le_of_ble_eq_true rfl) ?_
  refine lv_dup hx hb dX5_init_8 rfl ?_
  have hPc := X.2.1.sub (ws' := [(w5, .inr (8, (List.range 2).map (dfl kdX8)))]) [2] rfl
  have hDc := X.2.2.1.sub (ws' := [(w5, .inr (8, (List.range 2).map (dfl kdX8)))]) [2] (by decide) rfl
  have hFc := free_of (wC := [(w5, .inr (8, (List.range 2).map (dfl kdX8)))]) (isC := [2]) X rfl
  refine va_callv (va_runIN (As := []) (rest := [.ref w5, .ref h]) ⟨hx, hb, hml, hown, hts⟩ (n_X8_init l D w5 _) ⟨va_cnB 0 hts (good_ws q2_220) rfl rfl rfl (X.2.2.2.2.2.1 _ q2_218 rfl) (hts _ q1_11) (by decide +kernel) ⟨Nat.le_of_ble_eq_true rfl, Nat.le_of_ble_eq_true rfl⟩, rfl, hts _ q2_219⟩ ⟨PC_blind, PC_at (eK X) hPc hDc X.2.2.2.2.2 X.2.2.2.1 hFc⟩ rfl rfl hl.1 rfl (lv_room (Nat.le_of_ble_eq_true rfl)) dX5_init_9 ⟨Nat.le_of_ble_eq_true rfl, Nat.le_of_ble_eq_true rfl⟩) X.2.2.2.1 (fun q _ h => hFc q h) hFc (fun u1 t H1 locs1 ht hvm hw1 hB hz1 hk1 hS => ?_)
  obtain ⟨hP1, hK1, hD1⟩ := hB
  rw [ht] at hP1
  have hK1 := va_K.moved hvm.symm hK1
  obtain ⟨hP, hD⟩ := va_join (wr := [(h, .inr (5, (List.range 18).map (dfl kdX5)))] ++ ([(r2, .inr (4, (List.range 14).map (fld kdX4 aP gP)))])) X.2.1 X.2.2.1 [2] [0, 1] rfl rfl (by decide) (by decide) hk1 hFc hP1 hD1
  have X : Hx D (tX8 u1.2) A s H1 locs1 ([(h, .inr (5, (List.range 18).map (dfl kdX5)))] ++ ([(r2, .inr (4, (List.range 14).map (fld kdX4 aP gP)))] ++ (wX8 w5 u1.1 u1.2 g0X8))) := ⟨X.1.app hK1, hP, hD, hS, X.2.2.2.2⟩
  generalize H1 = H at X ⊢
  generalize locs1 = locs at X ⊢
  refine W.widen (k := 2) (n := 514) (Nat.le_of_ble_eq_true rfl) (Nat.le_of_ble_eq_true rfl) ?_
  refine va_putF (D := D.1) (ci := 5) (v := .ref w5) (ty := tyX5 3) (C := RX5) (T := TX5) (N := 18) hx hb hts wi_X5 tyX5 tyX5_ok nmX5 hown X.1 X.2.1 X.2.2.1 X.2.2.2.1 0 rfl rfl 3 (by decide) (hts _ q3_54) (fun _ h9 => h9) rfl hin rfl (by decide +kernel) rfl rfl (by rw [List.length_map, List.length_range]; decide) dX5_init_12 (fun H locs hP hD hS => ?_)
  have X : Hx D (tX8 u1.2) A s H locs ([(h, .inr (5, (List.range 18).map (va_up (dfl kdX5) 3 (.ref w5))))] ++ ([(r2, .inr (4, (List.range 14).map (fld kdX4 aP gP)))] ++ (wX8 w5 u1.1 u1.2 g0X8))) := Hx_set X obj_set hP hD hS
  refine lv_aload_n hx hb dX5_init_15 rfl (lv_at hl 0 rfl) ?_
  refine lv_sipush (v := (320 : Int32)) hx hb dX5_init_16 (by decide) ?_
  refine va_newa (atype := .int) (a0 := (320, .inl (fun _ => 0))) (N' := 320) hx hb (hts (.arrayClass .int) q1_129) rfl X.1 X.2.1 X.2.2.1 X.2.2.2.1 X.2.2.2.2.1 (fun _ => rfl) (by decide) (by decide) (by decide) (Nat.le_of_ble_eq_true rfl) (Nat.le_of_ble_eq_true rfl) dX5_init_19 (fun q1 y1 H hK hP hD hS => ?_)
  have X : Hx D (tX8 u1.2 ++ ([(y1, .int)])) A s H locs ([(h, .inr (5, (List.range 18).map (va_up (dfl kdX5) 3 (.ref w5))))] ++ ([(r2, .inr (4, (List.range 14).map (fld kdX4 aP gP)))] ++ (wX8 w5 u1.1 u1.2 g0X8 ++ ([(q1, .inl (y1, 320, .inl (fun _ => 0)))])))) := ⟨hK, hP, hD, hS, X.2.2.2.2⟩
  refine W.widen (k := 3) (n := 834) (Nat.le_of_ble_eq_true rfl) (Nat.le_of_ble_eq_true rfl) ?_
  refine va_putF (D := D.1) (ci := 5) (v := .ref q1) (ty := tyX5 4) (C := RX5) (T := TX5) (N := 18) hx hb hts wi_X5 tyX5 tyX5_ok nmX5 hown X.1 X.2.1 X.2.2.1 X.2.2.2.1 0 rfl rfl 4 (by decide) (hts _ q3_55) (fun _ h9 => h9) rfl hin rfl (by decide +kernel) rfl rfl (by rw [List.length_map, List.length_range]; decide) dX5_init_21 (fun H locs hP hD hS => ?_)
  have X : Hx D (tX8 u1.2 ++ ([(y1, .int)])) A s H locs ([(h, .inr (5, (List.range 18).map (va_up (va_up (dfl kdX5) 3 (.ref w5)) 4 (.ref q1))))] ++ ([(r2, .inr (4, (List.range 14).map (fld kdX4 aP gP)))] ++ (wX8 w5 u1.1 u1.2 g0X8 ++ ([(q1, .inl (y1, 320, .inl (fun _ => 0)))])))) := Hx_set X obj_set hP hD hS
  refine lv_aload_n hx hb dX5_init_24 rfl (lv_at hl 0 rfl) ?_
  refine lv_sipush (v := (320 : Int32)) hx hb dX5_init_25 (by decide) ?_
  refine va_newa (atype := .int) (a0 := (320, .inl (fun _ => 0))) (N' := 320) hx hb (hts (.arrayClass .int) q1_129) rfl X.1 X.2.1 X.2.2.1 X.2.2.2.1 X.2.2.2.2.1 (fun _ => rfl) (by decide) (by decide) (by decide) (Nat.le_of_ble_eq_true rfl) (Nat.le_of_ble_eq_true rfl) dX5_init_28 (fun q2 y2 H hK hP hD hS => ?_)
  have X : Hx D (tX8 u1.2 ++ ([(y1, .int)] ++ ([(y2, .int)]))) A s H locs ([(h, .inr (5, (List.range 18).map (va_up (va_up (dfl kdX5) 3 (.ref w5)) 4 (.ref q1))))] ++ ([(r2, .inr (4, (List.range 14).map (fld kdX4 aP gP)))] ++ (wX8 w5 u1.1 u1.2 g0X8 ++ ([(q1, .inl (y1, 320, .inl (fun _ => 0)))] ++ ([(q2, .inl (y2, 320, .inl (fun _ => 0)))]))))) := ⟨hK, hP, hD, hS, X.2.2.2.2⟩
  refine W.widen (k := 4) (n := 1154) (Nat.le_of_ble_eq_true rfl) (Nat.le_of_ble_eq_true rfl) ?_
  refine va_putF (D := D.1) (ci := 5) (v := .ref q2) (ty := tyX5 5) (C := RX5) (T := TX5) (N := 18) hx hb hts wi_X5 tyX5 tyX5_ok nmX5 hown X.1 X.2.1 X.2.2.1 X.2.2.2.1 0 rfl rfl 5 (by decide) (hts _ q3_56) (fun _ h9 => h9) rfl hin rfl (by decide +kernel) rfl rfl (by rw [List.length_map, List.length_range]; decide) dX5_init_30 (fun H locs hP hD hS => ?_)
  have X : Hx D (tX8 u1.2 ++ ([(y1, .int)] ++ ([(y2, .int)]))) A s H locs ([(h, .inr (5, (List.range 18).map (va_up (va_up (va_up (dfl kdX5) 3 (.ref w5)) 4 (.ref q1)) 5 (.ref q2))))] ++ ([(r2, .inr (4, (List.range 14).map (fld kdX4 aP gP)))] ++ (wX8 w5 u1.1 u1.2 g0X8 ++ ([(q1, .inl (y1, 320, .inl (fun _ => 0)))] ++ ([(q2, .inl (y2, 320, .inl (fun _ => 0)))]))))) := Hx_set X obj_set hP hD hS
  refine lv_aload_n hx hb dX5_init_33 rfl (lv_at hl 0 rfl) ?_
  refine lv_sipush (v := (320 : Int32)) hx hb dX5_init_34 (by decide) ?_
  refine va_newa (atype := .int) (a0 := (320, .inl (fun _ => 0))) (N' := 320) hx hb (hts (.arrayClass .int) q1_129) rfl X.1 X.2.1 X.2.2.1 X.2.2.2.1 X.2.2.2.2.1 (fun _ => rfl) (by decide) (by decide) (by decide) (Nat.le_of_ble_eq_true rfl) (Nat.le_of_ble_eq_true rfl) dX5_init_37 (fun q3 y3 H hK hP hD hS => ?_)
  have X : Hx D (tX8 u1.2 ++ ([(y1, .int)] ++ ([(y2, .int)] ++ ([(y3, .int)])))) A s H locs ([(h, .inr (5, (List.range 18).map (va_up (va_up (va_up (dfl kdX5) 3 (.ref w5)) 4 (.ref q1)) 5 (.ref q2))))] ++ ([(r2, .inr (4, (List.range 14).map (fld kdX4 aP gP)))] ++ (wX8 w5 u1.1 u1.2 g0X8 ++ ([(q1, .inl (y1, 320, .inl (fun _ => 0)))] ++ ([(q2, .inl (y2, 320, .inl (fun _ => 0)))] ++ ([(q3, .inl (y3, 320, .inl (fun _ => 0)))])))))) := ⟨hK, hP, hD, hS, X.2.2.2.2⟩
  refine W.widen (k := 5) (n := 1474) (Nat.le_of_ble_eq_true rfl) (Nat.le_of_ble_eq_true rfl) ?_
  refine va_putF (D := D.1) (ci := 5) (v := .ref q3) (ty := tyX5 6) (C := RX5) (T := TX5) (N := 18) hx hb hts wi_X5 tyX5 tyX5_ok nmX5 hown X.1 X.2.1 X.2.2.1 X.2.2.2.1 0 rfl rfl 6 (by decide) (hts _ q3_57) (fun _ h9 => h9) rfl hin rfl (by decide +kernel) rfl rfl (by rw [List.length_map, List.length_range]; decide) dX5_init_39 (fun H locs hP hD hS => ?_)
  have X : Hx D (tX8 u1.2 ++ ([(y1, .int)] ++ ([(y2, .int)] ++ ([(y3, .int)])))) A s H locs ([(h, .inr (5, (List.range 18).map (va_up (va_up (va_up (va_up (dfl kdX5) 3 (.ref w5)) 4 (.ref q1)) 5 (.ref q2)) 6 (.ref q3))))] ++ ([(r2, .inr (4, (List.range 14).map (fld kdX4 aP gP)))] ++ (wX8 w5 u1.1 u1.2 g0X8 ++ ([(q1, .inl (y1, 320, .inl (fun _ => 0)))] ++ ([(q2, .inl (y2, 320, .inl (fun _ => 0)))] ++ ([(q3, .inl (y3, 320, .inl (fun _ => 0)))])))))) := Hx_set X obj_set hP hD hS
  refine lv_aload_n hx hb dX5_init_42 rfl (lv_at hl 0 rfl) ?_
  refine lv_sipush (v := (320 : Int32)) hx hb dX5_init_43 (by decide) ?_
  refine va_newa (atype := .int) (a0 := (320, .inl (fun _ => 0))) (N' := 320) hx hb (hts (.arrayClass .int) q1_129) rfl X.1 X.2.1 X.2.2.1 X.2.2.2.1 X.2.2.2.2.1 (fun _ => rfl) (by decide) (by decide) (by decide) (Nat.le_of_ble_eq_true rfl) (Nat.le_of_ble_eq_true rfl) dX5_init_46 (fun q4 y4 H hK hP hD hS => ?_)
  have X : Hx D (tX8 u1.2 ++ ([(y1, .int)] ++ ([(y2, .int)] ++ ([(y3, .int)] ++ ([(y4, .int)]))))) A s H locs ([(h, .inr (5, (List.range 18).map (va_up (va_up (va_up (va_up (dfl kdX5) 3 (.ref w5)) 4 (.ref q1)) 5 (.ref q2)) 6 (.ref q3))))] ++ ([(r2, .inr (4, (List.range 14).map (fld kdX4 aP gP)))] ++ (wX8 w5 u1.1 u1.2 g0X8 ++ ([(q1, .inl (y1, 320, .inl (fun _ => 0)))] ++ ([(q2, .inl (y2, 320, .inl (fun _ => 0)))] ++ ([(q3, .inl (y3, 320, .inl (fun _ => 0)))] ++ ([(q4, .inl (y4, 320, .inl (fun _ => 0)))]))))))) := ⟨hK, hP, hD, hS, X.2.2.2.2⟩
  refine W.widen (k := 6) (n := 1794) (Nat.le_of_ble_eq_true rfl) (Nat.le_of_ble_eq_true rfl) ?_
  refine va_putF (D := D.1) (ci := 5) (v := .ref q4) (ty := tyX5 7) (C := RX5) (T := TX5) (N := 18) hx hb hts wi_X5 tyX5 tyX5_ok nmX5 hown X.1 X.2.1 X.2.2.1 X.2.2.2.1 0 rfl rfl 7 (by decide) (hts _ q3_58) (fun _ h9 => h9) rfl hin rfl (by decide +kernel) rfl rfl (by rw [List.length_map, List.length_range]; decide) dX5_init_48 (fun H locs hP hD hS => ?_)
  have X : Hx D (tX8 u1.2 ++ ([(y1, .int)] ++ ([(y2, .int)] ++ ([(y3, .int)] ++ ([(y4, .int)]))))) A s H locs ([(h, .inr (5, (List.range 18).map (va_up (va_up (va_up (va_up (va_up (dfl kdX5) 3 (.ref w5)) 4 (.ref q1)) 5 (.ref q2)) 6 (.ref q3)) 7 (.ref q4))))] ++ ([(r2, .inr (4, (List.range 14).map (fld kdX4 aP gP)))] ++ (wX8 w5 u1.1 u1.2 g0X8 ++ ([(q1, .inl (y1, 320, .inl (fun _ => 0)))] ++ ([(q2, .inl (y2, 320, .inl (fun _ => 0)))] ++ ([(q3, .inl (y3, 320, .inl (fun _ => 0)))] ++ ([(q4, .inl (y4, 320, .inl (fun _ => 0)))]))))))) := Hx_set X obj_set hP hD hS
  refine lv_aload_n hx hb dX5_init_51 rfl (lv_at hl 0 rfl) ?_
  refine lv_iconst (v := (0 : Int32)) hx hb dX5_init_52 (by decide) ?_
  refine va_put (D := D.1) (ci := 5) (v := .int (0 : Int32)) (ty := tyX5 8) (C := RX5) (T := TX5) (N := 18) hx hb hts wi_X5 tyX5 tyX5_ok nmX5 hown X.1 X.2.1 X.2.2.1 X.2.2.2.1 0 rfl rfl 8 (by decide) (hts _ q3_59) (fun _ h9 => h9) rfl (by decide +kernel) rfl rfl (by rw [List.length_map, List.length_range]; decide) dX5_init_53 (fun H locs hP hD hS => ?_)
  have X : Hx D (tX8 u1.2 ++ ([(y1, .int)] ++ ([(y2, .int)] ++ ([(y3, .int)] ++ ([(y4, .int)]))))) A s H locs ([(h, .inr (5, (List.range 18).map (va_up (va_up (va_up (va_up (va_up (va_up (dfl kdX5) 3 (.ref w5)) 4 (.ref q1)) 5 (.ref q2)) 6 (.ref q3)) 7 (.ref q4)) 8 (.int (0 : Int32)))))] ++ ([(r2, .inr (4, (List.range 14).map (fld kdX4 aP gP)))] ++ (wX8 w5 u1.1 u1.2 g0X8 ++ ([(q1, .inl (y1, 320, .inl (fun _ => 0)))] ++ ([(q2, .inl (y2, 320, .inl (fun _ => 0)))] ++ ([(q3, .inl (y3, 320, .inl (fun _ => 0)))] ++ ([(q4, .inl (y4, 320, .inl (fun _ => 0)))]))))))) := Hx_set X obj_set hP hD hS
  refine lv_aload_n hx hb dX5_init_56 rfl (lv_at hl 0 rfl) ?_
  refine lv_iconst (v := (0 : Int32)) hx hb dX5_init_57 (by decide) ?_
  refine va_put (D := D.1) (ci := 5) (v := .int (0 : Int32)) (ty := tyX5 9) (C := RX5) (T := TX5) (N := 18) hx hb hts wi_X5 tyX5 tyX5_ok nmX5 hown X.1 X.2.1 X.2.2.1 X.2.2.2.1 0 rfl rfl 9 (by decide) (hts _ q3_60) (fun _ h9 => h9) rfl (by decide +kernel) rfl rfl (by rw [List.length_map, List.length_range]; decide) dX5_init_58 (fun H locs hP hD hS => ?_)
  have X : Hx D (tX8 u1.2 ++ ([(y1, .int)] ++ ([(y2, .int)] ++ ([(y3, .int)] ++ ([(y4, .int)]))))) A s H locs ([(h, .inr (5, (List.range 18).map (va_up (va_up (va_up (va_up (va_up (va_up (va_up (dfl kdX5) 3 (.ref w5)) 4 (.ref q1)) 5 (.ref q2)) 6 (.ref q3)) 7 (.ref q4)) 8 (.int (0 : Int32))) 9 (.int (0 : Int32)))))] ++ ([(r2, .inr (4, (List.range 14).map (fld kdX4 aP gP)))] ++ (wX8 w5 u1.1 u1.2 g0X8 ++ ([(q1, .inl (y1, 320, .inl (fun _ => 0)))] ++ ([(q2, .inl (y2, 320, .inl (fun _ => 0)))] ++ ([(q3, .inl (y3, 320, .inl (fun _ => 0)))] ++ ([(q4, .inl (y4, 320, .inl (fun _ => 0)))]))))))) := Hx_set X obj_set hP hD hS
  refine lv_aload_n hx hb dX5_init_61 rfl (lv_at hl 0 rfl) ?_
  refine lv_iconst (v := (1 : Int32)) hx hb dX5_init_62 (by decide) ?_
  refine va_put (D := D.1) (ci := 5) (v := .int (1 : Int32)) (ty := tyX5 10) (C := RX5) (T := TX5) (N := 18) hx hb hts wi_X5 tyX5 tyX5_ok nmX5 hown X.1 X.2.1 X.2.2.1 X.2.2.2.1 0 rfl rfl 10 (by decide) (hts _ q3_61) (fun _ h9 => h9) rfl (by decide +kernel) rfl rfl (by rw [List.length_map, List.length_range]; decide) dX5_init_63 (fun H locs hP hD hS => ?_)
  have X : Hx D (tX8 u1.2 ++ ([(y1, .int)] ++ ([(y2, .int)] ++ ([(y3, .int)] ++ ([(y4, .int)]))))) A s H locs ([(h, .inr (5, (List.range 18).map (va_up (va_up (va_up (va_up (va_up (va_up (va_up (va_up (dfl kdX5) 3 (.ref w5)) 4 (.ref q1)) 5 (.ref q2)) 6 (.ref q3)) 7 (.ref q4)) 8 (.int (0 : Int32))) 9 (.int (0 : Int32))) 10 (.int (1 : Int32)))))] ++ ([(r2, .inr (4, (List.range 14).map (fld kdX4 aP gP)))] ++ (wX8 w5 u1.1 u1.2 g0X8 ++ ([(q1, .inl (y1, 320, .inl (fun _ => 0)))] ++ ([(q2, .inl (y2, 320, .inl (fun _ => 0)))] ++ ([(q3, .inl (y3, 320, .inl (fun _ => 0)))] ++ ([(q4, .inl (y4, 320, .inl (fun _ => 0)))]))))))) := Hx_set X obj_set hP hD hS
  refine lv_aload_n hx hb dX5_init_66 rfl (lv_at hl 0 rfl) ?_
  refine lv_iconst (v := (0 : Int32)) hx hb dX5_init_67 (by decide) ?_
  refine va_put (D := D.1) (ci := 5) (v := .int (0 : Int32)) (ty := tyX5 11) (C := RX5) (T := TX5) (N := 18) hx hb hts wi_X5 tyX5 tyX5_ok nmX5 hown X.1 X.2.1 X.2.2.1 X.2.2.2.1 0 rfl rfl 11 (by decide) (hts _ q3_62) (fun _ h9 => h9) rfl (by decide +kernel) rfl rfl (by rw [List.length_map, List.length_range]; decide) dX5_init_68 (fun H locs hP hD hS => ?_)
  have X : Hx D (tX8 u1.2 ++ ([(y1, .int)] ++ ([(y2, .int)] ++ ([(y3, .int)] ++ ([(y4, .int)]))))) A s H locs ([(h, .inr (5, (List.range 18).map (va_up (va_up (va_up (va_up (va_up (va_up (va_up (va_up (va_up (dfl kdX5) 3 (.ref w5)) 4 (.ref q1)) 5 (.ref q2)) 6 (.ref q3)) 7 (.ref q4)) 8 (.int (0 : Int32))) 9 (.int (0 : Int32))) 10 (.int (1 : Int32))) 11 (.int (0 : Int32)))))] ++ ([(r2, .inr (4, (List.range 14).map (fld kdX4 aP gP)))] ++ (wX8 w5 u1.1 u1.2 g0X8 ++ ([(q1, .inl (y1, 320, .inl (fun _ => 0)))] ++ ([(q2, .inl (y2, 320, .inl (fun _ => 0)))] ++ ([(q3, .inl (y3, 320, .inl (fun _ => 0)))] ++ ([(q4, .inl (y4, 320, .inl (fun _ => 0)))]))))))) := Hx_set X obj_set hP hD hS
  refine lv_aload_n hx hb dX5_init_71 rfl (lv_at hl 0 rfl) ?_
  refine lv_iconst (v := (0 : Int32)) hx hb dX5_init_72 (by decide) ?_
  refine va_put (D := D.1) (ci := 5) (v := .int (0 : Int32)) (ty := tyX5 12) (C := RX5) (T := TX5) (N := 18) hx hb hts wi_X5 tyX5 tyX5_ok nmX5 hown X.1 X.2.1 X.2.2.1 X.2.2.2.1 0 rfl rfl 12 (by decide) (hts _ q3_63) (fun _ h9 => h9) rfl (by decide +kernel) rfl rfl (by rw [List.length_map, List.length_range]; decide) dX5_init_73 (fun H locs hP hD hS => ?_)
  have X : Hx D (tX8 u1.2 ++ ([(y1, .int)] ++ ([(y2, .int)] ++ ([(y3, .int)] ++ ([(y4, .int)]))))) A s H locs ([(h, .inr (5, (List.range 18).map (va_up (va_up (va_up (va_up (va_up (va_up (va_up (va_up (va_up (va_up (dfl kdX5) 3 (.ref w5)) 4 (.ref q1)) 5 (.ref q2)) 6 (.ref q3)) 7 (.ref q4)) 8 (.int (0 : Int32))) 9 (.int (0 : Int32))) 10 (.int (1 : Int32))) 11 (.int (0 : Int32))) 12 (.int (0 : Int32)))))] ++ ([(r2, .inr (4, (List.range 14).map (fld kdX4 aP gP)))] ++ (wX8 w5 u1.1 u1.2 g0X8 ++ ([(q1, .inl (y1, 320, .inl (fun _ => 0)))] ++ ([(q2, .inl (y2, 320, .inl (fun _ => 0)))] ++ ([(q3, .inl (y3, 320, .inl (fun _ => 0)))] ++ ([(q4, .inl (y4, 320, .inl (fun _ => 0)))]))))))) := Hx_set X obj_set hP hD hS
  refine lv_aload_n hx hb dX5_init_76 rfl (lv_at hl 0 rfl) ?_
  refine lv_iconst (v := (0 : Int32)) hx hb dX5_init_77 (by decide) ?_
  refine va_put (D := D.1) (ci := 5) (v := .int (0 : Int32)) (ty := tyX5 13) (C := RX5) (T := TX5) (N := 18) hx hb hts wi_X5 tyX5 tyX5_ok nmX5 hown X.1 X.2.1 X.2.2.1 X.2.2.2.1 0 rfl rfl 13 (by decide) (hts _ q3_64) (fun _ h9 => h9) rfl (by decide +kernel) rfl rfl (by rw [List.length_map, List.length_range]; decide) dX5_init_78 (fun H locs hP hD hS => ?_)
  have X : Hx D (tX8 u1.2 ++ ([(y1, .int)] ++ ([(y2, .int)] ++ ([(y3, .int)] ++ ([(y4, .int)]))))) A s H locs ([(h, .inr (5, (List.range 18).map (va_up (va_up (va_up (va_up (va_up (va_up (va_up (va_up (va_up (va_up (va_up (dfl kdX5) 3 (.ref w5)) 4 (.ref q1)) 5 (.ref q2)) 6 (.ref q3)) 7 (.ref q4)) 8 (.int (0 : Int32))) 9 (.int (0 : Int32))) 10 (.int (1 : Int32))) 11 (.int (0 : Int32))) 12 (.int (0 : Int32))) 13 (.int (0 : Int32)))))] ++ ([(r2, .inr (4, (List.range 14).map (fld kdX4 aP gP)))] ++ (wX8 w5 u1.1 u1.2 g0X8 ++ ([(q1, .inl (y1, 320, .inl (fun _ => 0)))] ++ ([(q2, .inl (y2, 320, .inl (fun _ => 0)))] ++ ([(q3, .inl (y3, 320, .inl (fun _ => 0)))] ++ ([(q4, .inl (y4, 320, .inl (fun _ => 0)))]))))))) := Hx_set X obj_set hP hD hS
  refine lv_aload_n hx hb dX5_init_81 rfl (lv_at hl 0 rfl) ?_
  refine lv_iconst (v := (-1 : Int32)) hx hb dX5_init_82 (by decide) ?_
  refine va_put (D := D.1) (ci := 5) (v := .int (-1 : Int32)) (ty := tyX5 16) (C := RX5) (T := TX5) (N := 18) hx hb hts wi_X5 tyX5 tyX5_ok nmX5 hown X.1 X.2.1 X.2.2.1 X.2.2.2.1 0 rfl rfl 16 (by decide) (hts _ q3_67) (fun _ h9 => h9) rfl (by decide +kernel) rfl rfl (by rw [List.length_map, List.length_range]; decide) dX5_init_83 (fun H locs hP hD hS => ?_)
  have X : Hx D (tX8 u1.2 ++ ([(y1, .int)] ++ ([(y2, .int)] ++ ([(y3, .int)] ++ ([(y4, .int)]))))) A s H locs ([(h, .inr (5, (List.range 18).map (va_up (va_up (va_up (va_up (va_up (va_up (va_up (va_up (va_up (va_up (va_up (va_up (dfl kdX5) 3 (.ref w5)) 4 (.ref q1)) 5 (.ref q2)) 6 (.ref q3)) 7 (.ref q4)) 8 (.int (0 : Int32))) 9 (.int (0 : Int32))) 10 (.int (1 : Int32))) 11 (.int (0 : Int32))) 12 (.int (0 : Int32))) 13 (.int (0 : Int32))) 16 (.int (-1 : Int32)))))] ++ ([(r2, .inr (4, (List.range 14).map (fld kdX4 aP gP)))] ++ (wX8 w5 u1.1 u1.2 g0X8 ++ ([(q1, .inl (y1, 320, .inl (fun _ => 0)))] ++ ([(q2, .inl (y2, 320, .inl (fun _ => 0)))] ++ ([(q3, .inl (y3, 320, .inl (fun _ => 0)))] ++ ([(q4, .inl (y4, 320, .inl (fun _ => 0)))]))))))) := Hx_set X obj_set hP hD hS
  refine lv_aload_n hx hb dX5_init_86 rfl (lv_at hl 0 rfl) ?_
  refine lv_iconst (v := (-1 : Int32)) hx hb dX5_init_87 (by decide) ?_
  refine va_put (D := D.1) (ci := 5) (v := .int (-1 : Int32)) (ty := tyX5 17) (C := RX5) (T := TX5) (N := 18) hx hb hts wi_X5 tyX5 tyX5_ok nmX5 hown X.1 X.2.1 X.2.2.1 X.2.2.2.1 0 rfl rfl 17 (by decide) (hts _ q3_68) (fun _ h9 => h9) rfl (by decide +kernel) rfl rfl (by rw [List.length_map, List.length_range]; decide) dX5_init_88 (fun H locs hP hD hS => ?_)
  have X : Hx D (tX8 u1.2 ++ ([(y1, .int)] ++ ([(y2, .int)] ++ ([(y3, .int)] ++ ([(y4, .int)]))))) A s H locs ([(h, .inr (5, (List.range 18).map (va_up (va_up (va_up (va_up (va_up (va_up (va_up (va_up (va_up (va_up (va_up (va_up (va_up (dfl kdX5) 3 (.ref w5)) 4 (.ref q1)) 5 (.ref q2)) 6 (.ref q3)) 7 (.ref q4)) 8 (.int (0 : Int32))) 9 (.int (0 : Int32))) 10 (.int (1 : Int32))) 11 (.int (0 : Int32))) 12 (.int (0 : Int32))) 13 (.int (0 : Int32))) 16 (.int (-1 : Int32))) 17 (.int (-1 : Int32)))))] ++ ([(r2, .inr (4, (List.range 14).map (fld kdX4 aP gP)))] ++ (wX8 w5 u1.1 u1.2 g0X8 ++ ([(q1, .inl (y1, 320, .inl (fun _ => 0)))] ++ ([(q2, .inl (y2, 320, .inl (fun _ => 0)))] ++ ([(q3, .inl (y3, 320, .inl (fun _ => 0)))] ++ ([(q4, .inl (y4, 320, .inl (fun _ => 0)))]))))))) := Hx_set X obj_set hP hD hS
  refine lv_aload_n hx hb dX5_init_91 rfl (lv_at hl 0 rfl) ?_
  refine lv_aload_n hx hb dX5_init_92 rfl (lv_at hl 1 rfl) ?_
  refine va_putF (D := D.1) (ci := 5) (v := .ref r0) (ty := tyX5 0) (C := RX5) (T := TX5) (N := 18) hx hb hts wi_X5 tyX5 tyX5_ok nmX5 hown X.1 X.2.1 X.2.2.1 X.2.2.2.1 0 rfl rfl 0 (by decide) (hts _ q3_51) (fun _ h9 => h9) rfl hin rfl (by decide +kernel) rfl rfl (by rw [List.length_map, List.length_range]; decide) dX5_init_93 (fun H locs hP hD hS => ?_)
  have X : Hx D (tX8 u1.2 ++ ([(y1, .int)] ++ ([(y2, .int)] ++ ([(y3, .int)] ++ ([(y4, .int)]))))) A s H locs ([(h, .inr (5, (List.range 18).map (va_up (va_up (va_up (va_up (va_up (va_up (va_up (va_up (va_up (va_up (va_up (va_up (va_up (va_up (dfl kdX5) 3 (.ref w5)) 4 (.ref q1)) 5 (.ref q2)) 6 (.ref q3)) 7 (.ref q4)) 8 (.int (0 : Int32))) 9 (.int (0 : Int32))) 10 (.int (1 : Int32))) 11 (.int (0 : Int32))) 12 (.int (0 : Int32))) 13 (.int (0 : Int32))) 16 (.int (-1 : Int32))) 17 (.int (-1 : Int32))) 0 (.ref r0))))] ++ ([(r2, .inr (4, (List.range 14).map (fld kdX4 aP gP)))] ++ (wX8 w5 u1.1 u1.2 g0X8 ++ ([(q1, .inl (y1, 320, .inl (fun _ => 0)))] ++ ([(q2, .inl (y2, 320, .inl (fun _ => 0)))] ++ ([(q3, .inl (y3, 320, .inl (fun _ => 0)))] ++ ([(q4, .inl (y4, 320, .inl (fun _ => 0)))]))))))) := Hx_set X obj_set hP hD hS
  refine lv_aload_n hx hb dX5_init_96 rfl (lv_at hl 0 rfl) ?_
  refine lv_aload_n hx hb dX5_init_97 rfl (lv_at hl 3 rfl) ?_
  refine va_put (D := D.1) (ci := 5) (v := .ref r2) (ty := tyX5 14) (C := RX5) (T := TX5) (N := 18) hx hb hts wi_X5 tyX5 tyX5_ok nmX5 hown X.1 X.2.1 X.2.2.1 X.2.2.2.1 0 rfl rfl 14 (by decide) (hts _ q3_65) (fun _ h9 => h9) rfl (by decide +kernel) rfl rfl (by rw [List.length_map, List.length_range]; decide) dX5_init_98 (fun H locs hP hD hS => ?_)
  have X : Hx D (tX8 u1.2 ++ ([(y1, .int)] ++ ([(y2, .int)] ++ ([(y3, .int)] ++ ([(y4, .int)]))))) A s H locs ([(h, .inr (5, (List.range 18).map (va_up (va_up (va_up (va_up (va_up (va_up (va_up (va_up (va_up (va_up (va_up (va_up (va_up (va_up (va_up (dfl kdX5) 3 (.ref w5)) 4 (.ref q1)) 5 (.ref q2)) 6 (.ref q3)) 7 (.ref q4)) 8 (.int (0 : Int32))) 9 (.int (0 : Int32))) 10 (.int (1 : Int32))) 11 (.int (0 : Int32))) 12 (.int (0 : Int32))) 13 (.int (0 : Int32))) 16 (.int (-1 : Int32))) 17 (.int (-1 : Int32))) 0 (.ref r0)) 14 (.ref r2))))] ++ ([(r2, .inr (4, (List.range 14).map (fld kdX4 aP gP)))] ++ (wX8 w5 u1.1 u1.2 g0X8 ++ ([(q1, .inl (y1, 320, .inl (fun _ => 0)))] ++ ([(q2, .inl (y2, 320, .inl (fun _ => 0)))] ++ ([(q3, .inl (y3, 320, .inl (fun _ => 0)))] ++ ([(q4, .inl (y4, 320, .inl (fun _ => 0)))]))))))) := Hx_set X obj_set hP hD hS
  refine lv_aload_n hx hb dX5_init_101 rfl (lv_at hl 0 rfl) ?_
  refine lv_aload_n hx hb dX5_init_102 rfl (lv_at hl 3 rfl) ?_
  refine va_getN (D := D.1) (ci := 4) (v := .ref (aP 0)) (C := RX4) (T := TX4) (N := 14) hx hb hts wi_X4 hown X.1 X.2.1 1 rfl rfl 0 (by decide) (X.2.2.2.2.2.1.use q2_68 rfl) (fun _ h9 => h9) (fl_get (by decide)) dX5_init_103 ?_
  refine va_put (D := D.1) (ci := 5) (v := .ref (aP 0)) (ty := tyX5 15) (C := RX5) (T := TX5) (N := 18) hx hb hts wi_X5 tyX5 tyX5_ok nmX5 hown X.1 X.2.1 X.2.2.1 X.2.2.2.1 0 rfl rfl 15 (by decide) (hts _ q3_66) (fun _ h9 => h9) rfl (by decide +kernel) rfl rfl (by rw [List.length_map, List.length_range]; decide) dX5_init_106 (fun H locs hP hD hS => ?_)
  have X : Hx D (tX8 u1.2 ++ ([(y1, .int)] ++ ([(y2, .int)] ++ ([(y3, .int)] ++ ([(y4, .int)]))))) A s H locs ([(h, .inr (5, (List.range 18).map (va_up (va_up (va_up (va_up (va_up (va_up (va_up (va_up (va_up (va_up (va_up (va_up (va_up (va_up (va_up (va_up (dfl kdX5) 3 (.ref w5)) 4 (.ref q1)) 5 (.ref q2)) 6 (.ref q3)) 7 (.ref q4)) 8 (.int (0 : Int32))) 9 (.int (0 : Int32))) 10 (.int (1 : Int32))) 11 (.int (0 : Int32))) 12 (.int (0 : Int32))) 13 (.int (0 : Int32))) 16 (.int (-1 : Int32))) 17 (.int (-1 : Int32))) 0 (.ref r0)) 14 (.ref r2)) 15 (.ref (aP 0)))))] ++ ([(r2, .inr (4, (List.range 14).map (fld kdX4 aP gP)))] ++ (wX8 w5 u1.1 u1.2 g0X8 ++ ([(q1, .inl (y1, 320, .inl (fun _ => 0)))] ++ ([(q2, .inl (y2, 320, .inl (fun _ => 0)))] ++ ([(q3, .inl (y3, 320, .inl (fun _ => 0)))] ++ ([(q4, .inl (y4, 320, .inl (fun _ => 0)))]))))))) := Hx_set X obj_set hP hD hS
  refine lv_aload_n hx hb dX5_init_109 rfl (lv_at hl 0 rfl) ?_
  refine va_new (ci := 7) (fs := (List.range 12).map (dfl kdX7)) (C := RX7) (T := TX7) (N := 12) hx hb hts wi_X7 tyX7 tyX7_ok hown (hts _ q2_229) (hts _ q2_230) (hts _ q1_12) X.1 X.2.1 X.2.2.1 X.2.2.2.1 X.2.2.2.2.1 rfl dfX7 (Nat.le_of_ble_eq_true rfl) (Nat.le_of_ble_eq_true rfl) dX5_init_110 (fun w110 H hP hD hS => ?_)
  have X : Hx D (tX8 u1.2 ++ ([(y1, .int)] ++ ([(y2, .int)] ++ ([(y3, .int)] ++ ([(y4, .int)]))))) A s H locs ([(h, .inr (5, (List.range 18).map (va_up (va_up (va_up (va_up (va_up (va_up (va_up (va_up (va_up (va_up (va_up (va_up (va_up (va_up (va_up (va_up (dfl kdX5) 3 (.ref w5)) 4 (.ref q1)) 5 (.ref q2)) 6 (.ref q3)) 7 (.ref q4)) 8 (.int (0 : Int32))) 9 (.int (0 : Int32))) 10 (.int (1 : Int32))) 11 (.int (0 : Int32))) 12 (.int (0 : Int32))) 13 (.int (0 : Int32))) 16 (.int (-1 : Int32))) 17 (.int (-1 : Int32))) 0 (.ref r0)) 14 (.ref r2)) 15 (.ref (aP 0)))))] ++ ([(r2, .inr (4, (List.range 14).map (fld kdX4 aP gP)))] ++ (wX8 w5 u1.1 u1.2 g0X8 ++ ([(q1, .inl (y1, 320, .inl (fun _ => 0)))] ++ ([(q2, .inl (y2, 320, .inl (fun _ => 0)))] ++ ([(q3, .inl (y3, 320, .inl (fun _ => 0)))] ++ ([(q4, .inl (y4, 320, .inl (fun _ => 0)))] ++ ([(w110, .inr (7, (List.range 12).map (dfl kdX7)))])))))))) := ⟨X.1, hP, hD, hS, X.2.2.2.2⟩
  refine W.widen (k := 7) (n := 1806) (Nat.le_of_ble_eq_true rfl) (Nat.le_of_ble_eq_true rfl) ?_
  refine lv_dup hx hb dX5_init_113 rfl ?_
  refine lv_aload_n hx hb dX5_init_114 rfl (lv_at hl 1 rfl) ?_
  refine lv_aload_n hx hb dX5_init_115 rfl (lv_at hl 2 rfl) ?_
  have hPc := X.2.1.sub (ws' := [(w110, .inr (7, (List.range 12).map (dfl kdX7)))]) [8] rfl
  have hDc := X.2.2.1.sub (ws' := [(w110, .inr (7, (List.range 12).map (dfl kdX7)))]) [8] (by decide) rfl
  have hFc := free_of (wC := [(w110, .inr (7, (List.range 12).map (dfl kdX7)))]) (isC := [8]) X rfl
  refine va_callv (va_runI (As := [.ref r0, .ref r1]) (rest := [.ref w110, .ref h]) ⟨hx, hb, hml, hown, hts⟩ (n_X7_init l D w110 r0 r1 _) (cwI 2 hts (good_ws q2_233) rfl rfl rfl (hts _ q1_12) (hts _ q2_231) (hts _ q2_232) rfl (by decide +kernel) ⟨Nat.le_of_ble_eq_true rfl, Nat.le_of_ble_eq_true rfl⟩) ⟨PC_blind, PC_at (eK X) hPc hDc X.2.2.2.2.2 X.2.2.2.1 hFc⟩ rfl rfl hl.1 rfl (lv_room (Nat.le_of_ble_eq_true rfl)) dX5_init_116 ⟨Nat.le_of_ble_eq_true rfl, Nat.le_of_ble_eq_true rfl⟩) X.2.2.2.1 (fun q _ h => hFc q h) hFc (fun u2 t H1 locs1 ht hvm hw2 hB hz1 hk1 hS => ?_)
  obtain ⟨hP1, hK1, hD1⟩ := hB
  rw [ht] at hP1
  have hK1 := va_K.moved hvm.symm hK1
  obtain ⟨hP, hD⟩ := va_join (wr := [(h, .inr (5, (List.range 18).map (va_up (va_up (va_up (va_up (va_up (va_up (va_up (va_up (va_up (va_up (va_up (va_up (va_up (va_up (va_up (va_up (dfl kdX5) 3 (.ref w5)) 4 (.ref q1)) 5 (.ref q2)) 6 (.ref q3)) 7 (.ref q4)) 8 (.int (0 : Int32))) 9 (.int (0 : Int32))) 10 (.int (1 : Int32))) 11 (.int (0 : Int32))) 12 (.int (0 : Int32))) 13 (.int (0 : Int32))) 16 (.int (-1 : Int32))) 17 (.int (-1 : Int32))) 0 (.ref r0)) 14 (.ref r2)) 15 (.ref (aP 0)))))] ++ ([(r2, .inr (4, (List.range 14).map (fld kdX4 aP gP)))] ++ (wX8 w5 u1.1 u1.2 g0X8 ++ ([(q1, .inl (y1, 320, .inl (fun _ => 0)))] ++ ([(q2, .inl (y2, 320, .inl (fun _ => 0)))] ++ ([(q3, .inl (y3, 320, .inl (fun _ => 0)))] ++ ([(q4, .inl (y4, 320, .inl (fun _ => 0)))]))))))) X.2.1 X.2.2.1 [8] [0, 1, 2, 3, 4, 5, 6, 7] rfl rfl (by decide) (by decide) hk1 hFc hP1 hD1
  have X : Hx D (tX8 u1.2 ++ ([(y1, .int)] ++ ([(y2, .int)] ++ ([(y3, .int)] ++ ([(y4, .int)] ++ (tX7 u2.2)))))) A s H1 locs1 ([(h, .inr (5, (List.range 18).map (va_up (va_up (va_up (va_up (va_up (va_up (va_up (va_up (va_up (va_up (va_up (va_up (va_up (va_up (va_up (va_up (dfl kdX5) 3 (.ref w5)) 4 (.ref q1)) 5 (.ref q2)) 6 (.ref q3)) 7 (.ref q4)) 8 (.int (0 : Int32))) 9 (.int (0 : Int32))) 10 (.int (1 : Int32))) 11 (.int (0 : Int32))) 12 (.int (0 : Int32))) 13 (.int (0 : Int32))) 16 (.int (-1 : Int32))) 17 (.int (-1 : Int32))) 0 (.ref r0)) 14 (.ref r2)) 15 (.ref (aP 0)))))] ++ ([(r2, .inr (4, (List.range 14).map (fld kdX4 aP gP)))] ++ (wX8 w5 u1.1 u1.2 g0X8 ++ ([(q1, .inl (y1, 320, .inl (fun _ => 0)))] ++ ([(q2, .inl (y2, 320, .inl (fun _ => 0)))] ++ ([(q3, .inl (y3, 320, .inl (fun _ => 0)))] ++ ([(q4, .inl (y4, 320, .inl (fun _ => 0)))] ++ (wX7 w110 u2.1 u2.2 g0X7)))))))) := ⟨X.1.app hK1, hP, hD, hS, X.2.2.2.2⟩
  generalize H1 = H at X ⊢
  generalize locs1 = locs at X ⊢
  refine W.widen (k := 7) (n := 1806) (Nat.le_of_ble_eq_true rfl) (Nat.le_of_ble_eq_true rfl) ?_
  refine va_putF (D := D.1) (ci := 5) (v := .ref w110) (ty := tyX5 1) (C := RX5) (T := TX5) (N := 18) hx hb hts wi_X5 tyX5 tyX5_ok nmX5 hown X.1 X.2.1 X.2.2.1 X.2.2.2.1 0 rfl rfl 1 (by decide) (hts _ q3_52) (fun _ h9 => h9) rfl hin rfl (by decide +kernel) rfl rfl (by rw [List.length_map, List.length_range]; decide) dX5_init_119 (fun H locs hP hD hS => ?_)
  have X : Hx D (tX8 u1.2 ++ ([(y1, .int)] ++ ([(y2, .int)] ++ ([(y3, .int)] ++ ([(y4, .int)] ++ (tX7 u2.2)))))) A s H locs ([(h, .inr (5, (List.range 18).map (va_up (va_up (va_up (va_up (va_up (va_up (va_up (va_up (va_up (va_up (va_up (va_up (va_up (va_up (va_up (va_up (va_up (dfl kdX5) 3 (.ref w5)) 4 (.ref q1)) 5 (.ref q2)) 6 (.ref q3)) 7 (.ref q4)) 8 (.int (0 : Int32))) 9 (.int (0 : Int32))) 10 (.int (1 : Int32))) 11 (.int (0 : Int32))) 12 (.int (0 : Int32))) 13 (.int (0 : Int32))) 16 (.int (-1 : Int32))) 17 (.int (-1 : Int32))) 0 (.ref r0)) 14 (.ref r2)) 15 (.ref (aP 0))) 1 (.ref w110))))] ++ ([(r2, .inr (4, (List.range 14).map (fld kdX4 aP gP)))] ++ (wX8 w5 u1.1 u1.2 g0X8 ++ ([(q1, .inl (y1, 320, .inl (fun _ => 0)))] ++ ([(q2, .inl (y2, 320, .inl (fun _ => 0)))] ++ ([(q3, .inl (y3, 320, .inl (fun _ => 0)))] ++ ([(q4, .inl (y4, 320, .inl (fun _ => 0)))] ++ (wX7 w110 u2.1 u2.2 g0X7)))))))) := Hx_set X obj_set hP hD hS
  refine lv_aload_n hx hb dX5_init_122 rfl (lv_at hl 0 rfl) ?_
  refine va_new (ci := 2) (fs := (List.range 2).map (dfl kdX2)) (C := RX2) (T := TX2) (N := 2) hx hb hts wi_X2 tyX2 tyX2_ok hown (hts _ q3_38) (hts _ q3_39) (hts _ q1_13) X.1 X.2.1 X.2.2.1 X.2.2.2.1 X.2.2.2.2.1 rfl dfX2 (Nat.le_of_ble_eq_true rfl) (Nat.le_of_ble_eq_true rfl) dX5_init_123 (fun w123 H hP hD hS => ?_)
  have X : Hx D (tX8 u1.2 ++ ([(y1, .int)] ++ ([(y2, .int)] ++ ([(y3, .int)] ++ ([(y4, .int)] ++ (tX7 u2.2)))))) A s H locs ([(h, .inr (5, (List.range 18).map (va_up (va_up (va_up (va_up (va_up (va_up (va_up (va_up (va_up (va_up (va_up (va_up (va_up (va_up (va_up (va_up (va_up (dfl kdX5) 3 (.ref w5)) 4 (.ref q1)) 5 (.ref q2)) 6 (.ref q3)) 7 (.ref q4)) 8 (.int (0 : Int32))) 9 (.int (0 : Int32))) 10 (.int (1 : Int32))) 11 (.int (0 : Int32))) 12 (.int (0 : Int32))) 13 (.int (0 : Int32))) 16 (.int (-1 : Int32))) 17 (.int (-1 : Int32))) 0 (.ref r0)) 14 (.ref r2)) 15 (.ref (aP 0))) 1 (.ref w110))))] ++ ([(r2, .inr (4, (List.range 14).map (fld kdX4 aP gP)))] ++ (wX8 w5 u1.1 u1.2 g0X8 ++ ([(q1, .inl (y1, 320, .inl (fun _ => 0)))] ++ ([(q2, .inl (y2, 320, .inl (fun _ => 0)))] ++ ([(q3, .inl (y3, 320, .inl (fun _ => 0)))] ++ ([(q4, .inl (y4, 320, .inl (fun _ => 0)))] ++ (wX7 w110 u2.1 u2.2 g0X7 ++ ([(w123, .inr (2, (List.range 2).map (dfl kdX2)))]))))))))) := ⟨X.1, hP, hD, hS, X.2.2.2.2⟩
  refine W.widen (k := 8) (n := 1808) (Nat.le_of_ble_eq_true rfl) (Nat.le_of_ble_eq_true rfl) ?_
  refine lv_dup hx hb dX5_init_126 rfl ?_
  refine lv_aload_n hx hb dX5_init_127 rfl (lv_at hl 1 rfl) ?_
  have hPc := X.2.1.sub (ws' := [(w123, .inr (2, (List.range 2).map (dfl kdX2)))]) [9] rfl
  have hDc := X.2.2.1.sub (ws' := [(w123, .inr (2, (List.range 2).map (dfl kdX2)))]) [9] (by decide) rfl
  have hFc := free_of (wC := [(w123, .inr (2, (List.range 2).map (dfl kdX2)))]) (isC := [9]) X rfl
  refine va_callv (va_runI (As := [.ref r0]) (rest := [.ref w123, .ref h]) ⟨hx, hb, hml, hown, hts⟩ (n_X2_init l D w123 r0 _) (cwI 1 hts (good_ws q3_42) rfl rfl rfl (hts _ q1_13) (hts _ q3_40) (hts _ q3_41) rfl (by decide +kernel) ⟨Nat.le_of_ble_eq_true rfl, Nat.le_of_ble_eq_true rfl⟩) ⟨PC_blind, PC_at (eK X) hPc hDc X.2.2.2.2.2 X.2.2.2.1 hFc⟩ rfl rfl hl.1 rfl (lv_room (Nat.le_of_ble_eq_true rfl)) dX5_init_128 ⟨Nat.le_of_ble_eq_true rfl, Nat.le_of_ble_eq_true rfl⟩) X.2.2.2.1 (fun q _ h => hFc q h) hFc (fun u3 t H1 locs1 ht hvm hw3 hB hz1 hk1 hS => ?_)
  obtain ⟨hP1, hK1, hD1⟩ := hB
  rw [ht] at hP1
  have hK1 := va_K.moved hvm.symm hK1
  obtain ⟨hP, hD⟩ := va_join (wr := [(h, .inr (5, (List.range 18).map (va_up (va_up (va_up (va_up (va_up (va_up (va_up (va_up (va_up (va_up (va_up (va_up (va_up (va_up (va_up (va_up (va_up (dfl kdX5) 3 (.ref w5)) 4 (.ref q1)) 5 (.ref q2)) 6 (.ref q3)) 7 (.ref q4)) 8 (.int (0 : Int32))) 9 (.int (0 : Int32))) 10 (.int (1 : Int32))) 11 (.int (0 : Int32))) 12 (.int (0 : Int32))) 13 (.int (0 : Int32))) 16 (.int (-1 : Int32))) 17 (.int (-1 : Int32))) 0 (.ref r0)) 14 (.ref r2)) 15 (.ref (aP 0))) 1 (.ref w110))))] ++ ([(r2, .inr (4, (List.range 14).map (fld kdX4 aP gP)))] ++ (wX8 w5 u1.1 u1.2 g0X8 ++ ([(q1, .inl (y1, 320, .inl (fun _ => 0)))] ++ ([(q2, .inl (y2, 320, .inl (fun _ => 0)))] ++ ([(q3, .inl (y3, 320, .inl (fun _ => 0)))] ++ ([(q4, .inl (y4, 320, .inl (fun _ => 0)))] ++ (wX7 w110 u2.1 u2.2 g0X7)))))))) X.2.1 X.2.2.1 [9] [0, 1, 2, 3, 4, 5, 6, 7, 8] rfl rfl (by decide) (by decide) hk1 hFc hP1 hD1
  have X : Hx D (tX8 u1.2 ++ ([(y1, .int)] ++ ([(y2, .int)] ++ ([(y3, .int)] ++ ([(y4, .int)] ++ (tX7 u2.2 ++ (tX2 u3.2))))))) A s H1 locs1 ([(h, .inr (5, (List.range 18).map (va_up (va_up (va_up (va_up (va_up (va_up (va_up (va_up (va_up (va_up (va_up (va_up (va_up (va_up (va_up (va_up (va_up (dfl kdX5) 3 (.ref w5)) 4 (.ref q1)) 5 (.ref q2)) 6 (.ref q3)) 7 (.ref q4)) 8 (.int (0 : Int32))) 9 (.int (0 : Int32))) 10 (.int (1 : Int32))) 11 (.int (0 : Int32))) 12 (.int (0 : Int32))) 13 (.int (0 : Int32))) 16 (.int (-1 : Int32))) 17 (.int (-1 : Int32))) 0 (.ref r0)) 14 (.ref r2)) 15 (.ref (aP 0))) 1 (.ref w110))))] ++ ([(r2, .inr (4, (List.range 14).map (fld kdX4 aP gP)))] ++ (wX8 w5 u1.1 u1.2 g0X8 ++ ([(q1, .inl (y1, 320, .inl (fun _ => 0)))] ++ ([(q2, .inl (y2, 320, .inl (fun _ => 0)))] ++ ([(q3, .inl (y3, 320, .inl (fun _ => 0)))] ++ ([(q4, .inl (y4, 320, .inl (fun _ => 0)))] ++ (wX7 w110 u2.1 u2.2 g0X7 ++ (wX2 w123 u3.1 u3.2 g0X2))))))))) := ⟨X.1.app hK1, hP, hD, hS, X.2.2.2.2⟩
  generalize H1 = H at X ⊢
  generalize locs1 = locs at X ⊢
  refine W.widen (k := 8) (n := 1808) (Nat.le_of_ble_eq_true rfl) (Nat.le_of_ble_eq_true rfl) ?_
  refine va_putF (D := D.1) (ci := 5) (v := .ref w123) (ty := tyX5 2) (C := RX5) (T := TX5) (N := 18) hx hb hts wi_X5 tyX5 tyX5_ok nmX5 hown X.1 X.2.1 X.2.2.1 X.2.2.2.1 0 rfl rfl 2 (by decide) (hts _ q3_53) (fun _ h9 => h9) rfl hin rfl (by decide +kernel) rfl rfl (by rw [List.length_map, List.length_range]; decide) dX5_init_131 (fun H locs hP hD hS => ?_)
  have X : Hx D (tX8 u1.2 ++ ([(y1, .int)] ++ ([(y2, .int)] ++ ([(y3, .int)] ++ ([(y4, .int)] ++ (tX7 u2.2 ++ (tX2 u3.2))))))) A s H locs ([(h, .inr (5, (List.range 18).map (va_up (va_up (va_up (va_up (va_up (va_up (va_up (va_up (va_up (va_up (va_up (va_up (va_up (va_up (va_up (va_up (va_up (va_up (dfl kdX5) 3 (.ref w5)) 4 (.ref q1)) 5 (.ref q2)) 6 (.ref q3)) 7 (.ref q4)) 8 (.int (0 : Int32))) 9 (.int (0 : Int32))) 10 (.int (1 : Int32))) 11 (.int (0 : Int32))) 12 (.int (0 : Int32))) 13 (.int (0 : Int32))) 16 (.int (-1 : Int32))) 17 (.int (-1 : Int32))) 0 (.ref r0)) 14 (.ref r2)) 15 (.ref (aP 0))) 1 (.ref w110)) 2 (.ref w123))))] ++ ([(r2, .inr (4, (List.range 14).map (fld kdX4 aP gP)))] ++ (wX8 w5 u1.1 u1.2 g0X8 ++ ([(q1, .inl (y1, 320, .inl (fun _ => 0)))] ++ ([(q2, .inl (y2, 320, .inl (fun _ => 0)))] ++ ([(q3, .inl (y3, 320, .inl (fun _ => 0)))] ++ ([(q4, .inl (y4, 320, .inl (fun _ => 0)))] ++ (wX7 w110 u2.1 u2.2 g0X7 ++ (wX2 w123 u3.1 u3.2 g0X2))))))))) := Hx_set X obj_set hP hD hS
  have e1 : (List.range 18).map (va_up (va_up (va_up (va_up (va_up (va_up (va_up (va_up (va_up (va_up (va_up (va_up (va_up (va_up (va_up (va_up (va_up (va_up (dfl kdX5) 3 (.ref w5)) 4 (.ref q1)) 5 (.ref q2)) 6 (.ref q3)) 7 (.ref q4)) 8 (.int (0 : Int32))) 9 (.int (0 : Int32))) 10 (.int (1 : Int32))) 11 (.int (0 : Int32))) 12 (.int (0 : Int32))) 13 (.int (0 : Int32))) 16 (.int (-1 : Int32))) 17 (.int (-1 : Int32))) 0 (.ref r0)) 14 (.ref r2)) 15 (.ref (aP 0))) 1 (.ref w110)) 2 (.ref w123)) = (List.range 18).map (fld kdX5 (fun k => ([r0, w110, w123, w5, q1, q2, q3, q4, 0, 0, 0, 0, 0, 0, r2, (aP 0), 0, 0] : List Nat).getD k 0) (g0X5 r2 (aP 0))) := by rfl
  have e2 : ([(q1, .inl (y1, 320, .inl (fun _ => 0))), (q2, .inl (y2, 320, .inl (fun _ => 0))), (q3, .inl (y3, 320, .inl (fun _ => 0))), (q4, .inl (y4, 320, .inl (fun _ => 0)))] : va_W) = ksX5.map (arF akX5 lnX5 (fun k => ([r0, w110, w123, w5, q1, q2, q3, q4, 0, 0, 0, 0, 0, 0, r2, (aP 0), 0, 0] : List Nat).getD k 0) (fun k => ([y1, y1, y1, y1, y1, y2, y3, y4, y1, y1, y1, y1, y1, y1, y1, y1, y1, y1] : List ClassId).getD k y1) (g0X5 r2 (aP 0))) := by rfl
  have hP9 := X.2.1.sub (ws' := ((h, .inr (5, (List.range 18).map (va_up (va_up (va_up (va_up (va_up (va_up (va_up (va_up (va_up (va_up (va_up (va_up (va_up (va_up (va_up (va_up (va_up (va_up (dfl kdX5) 3 (.ref w5)) 4 (.ref q1)) 5 (.ref q2)) 6 (.ref q3)) 7 (.ref q4)) 8 (.int (0 : Int32))) 9 (.int (0 : Int32))) 10 (.int (1 : Int32))) 11 (.int (0 : Int32))) 12 (.int (0 : Int32))) 13 (.int (0 : Int32))) 16 (.int (-1 : Int32))) 17 (.int (-1 : Int32))) 0 (.ref r0)) 14 (.ref r2)) 15 (.ref (aP 0))) 1 (.ref w110)) 2 (.ref w123)))) :: [(q1, .inl (y1, 320, .inl (fun _ => 0))), (q2, .inl (y2, 320, .inl (fun _ => 0))), (q3, .inl (y3, 320, .inl (fun _ => 0))), (q4, .inl (y4, 320, .inl (fun _ => 0)))]) ++ (wX8 w5 u1.1 u1.2 g0X8 ++ (wX7 w110 u2.1 u2.2 g0X7 ++ (wX2 w123 u3.1 u3.2 g0X2 ++ ([(r2, .inr (4, (List.range 14).map (fld kdX4 aP gP)))]))))) [0, 4, 5, 6, 7, 2, 3, 8, 9, 1] rfl
  have hD9 := X.2.2.1.sub (ws' := ((h, .inr (5, (List.range 18).map (va_up (va_up (va_up (va_up (va_up (va_up (va_up (va_up (va_up (va_up (va_up (va_up (va_up (va_up (va_up (va_up (va_up (va_up (dfl kdX5) 3 (.ref w5)) 4 (.ref q1)) 5 (.ref q2)) 6 (.ref q3)) 7 (.ref q4)) 8 (.int (0 : Int32))) 9 (.int (0 : Int32))) 10 (.int (1 : Int32))) 11 (.int (0 : Int32))) 12 (.int (0 : Int32))) 13 (.int (0 : Int32))) 16 (.int (-1 : Int32))) 17 (.int (-1 : Int32))) 0 (.ref r0)) 14 (.ref r2)) 15 (.ref (aP 0))) 1 (.ref w110)) 2 (.ref w123)))) :: [(q1, .inl (y1, 320, .inl (fun _ => 0))), (q2, .inl (y2, 320, .inl (fun _ => 0))), (q3, .inl (y3, 320, .inl (fun _ => 0))), (q4, .inl (y4, 320, .inl (fun _ => 0)))]) ++ (wX8 w5 u1.1 u1.2 g0X8 ++ (wX7 w110 u2.1 u2.2 g0X7 ++ (wX2 w123 u3.1 u3.2 g0X2 ++ ([(r2, .inr (4, (List.range 14).map (fld kdX4 aP gP)))]))))) [0, 4, 5, 6, 7, 2, 3, 8, 9, 1] (by decide) rfl
  rw [obj_eq (ci := 5) (h := h) e1 e2] at hP9 hD9
  have hK9 := X.1.sub [1, 2, 3, 4, 0] rfl
  exact W.vret hx hb hr (fun t ht hW => ⟨⟨(((fun k => ([r0, w110, w123, w5, q1, q2, q3, q4, 0, 0, 0, 0, 0, 0, r2, (aP 0), 0, 0] : List Nat).getD k 0), (fun k => ([y1, y1, y1, y1, y1, y2, y3, y4, y1, y1, y1, y1, y1, y1, y1, y1, y1, y1] : List ClassId).getD k y1)), u1, u2, u3), rfl, ⟨rfl, hw2.1, hw2.2, hw3⟩, by rw [ht]; exact hP9, va_K.moved hW.alike hK9, hD9⟩, X.2.2.2.1.F ht⟩) X.2.2.2.1.2.2 dX5_init_134 hlk

theorem dX11_init_0 : decode cX11_init 0 = .ok (.aload_n 0, 1) := by decide +kernel
theorem dX11_init_1 : decode cX11_init 1 = .ok (.invokespecial 3, 3) := by decide +kernel
theorem dX11_init_4 : decode cX11_init 4 = .ok (.aload_n 0, 1) := by decide +kernel
theorem dX11_init_5 : decode cX11_init 5 = .ok (.sipush 3000, 3) := by decide +kernel
theorem dX11_init_8 : decode cX11_init 8 = .ok (.newarray .byte, 2) := by decide +kernel
theorem dX11_init_10 : decode cX11_init 10 = .ok (.putfield 9, 3) := by decide +kernel
theorem dX11_init_13 : decode cX11_init 13 = .ok (.aload_n 0, 1) := by decide +kernel
theorem dX11_init_14 : decode cX11_init 14 = .ok (.iconst 0, 1) := by decide +kernel
theorem dX11_init_15 : decode cX11_init 15 = .ok (.putfield 13, 3) := by decide +kernel
theorem dX11_init_18 : decode cX11_init 18 = .ok (.aload_n 0, 1) := by decide +kernel
theorem dX11_init_19 : decode cX11_init 19 = .ok (.new 17, 3) := by decide +kernel
theorem dX11_init_22 : decode cX11_init 22 = .ok (.dup, 1) := by decide +kernel
theorem dX11_init_23 : decode cX11_init 23 = .ok (.invokespecial 19, 3) := by decide +kernel
theorem dX11_init_26 : decode cX11_init 26 = .ok (.putfield 20, 3) := by decide +kernel
theorem dX11_init_29 : decode cX11_init 29 = .ok (.aload_n 0, 1) := by decide +kernel
theorem dX11_init_30 : decode cX11_init 30 = .ok (.new 24, 3) := by decide +kernel
theorem dX11_init_33 : decode cX11_init 33 = .ok (.dup, 1) := by decide +kernel
theorem dX11_init_34 : decode cX11_init 34 = .ok (.invokespecial 26, 3) := by decide +kernel
theorem dX11_init_37 : decode cX11_init 37 = .ok (.putfield 27, 3) := by decide +kernel
theorem dX11_init_40 : decode cX11_init 40 = .ok (.aload_n 0, 1) := by decide +kernel
theorem dX11_init_41 : decode cX11_init 41 = .ok (.iconst 4, 1) := by decide +kernel
theorem dX11_init_42 : decode cX11_init 42 = .ok (.anewarray 24, 3) := by decide +kernel
theorem dX11_init_45 : decode cX11_init 45 = .ok (.putfield 31, 3) := by decide +kernel
theorem dX11_init_48 : decode cX11_init 48 = .ok (.aload_n 0, 1) := by decide +kernel
theorem dX11_init_49 : decode cX11_init 49 = .ok (.new 35, 3) := by decide +kernel
theorem dX11_init_52 : decode cX11_init 52 = .ok (.dup, 1) := by decide +kernel
theorem dX11_init_53 : decode cX11_init 53 = .ok (.aload_n 0, 1) := by decide +kernel
theorem dX11_init_54 : decode cX11_init 54 = .ok (.getfield 20, 3) := by decide +kernel
theorem dX11_init_57 : decode cX11_init 57 = .ok (.aload_n 0, 1) := by decide +kernel
theorem dX11_init_58 : decode cX11_init 58 = .ok (.getfield 27, 3) := by decide +kernel
theorem dX11_init_61 : decode cX11_init 61 = .ok (.invokespecial 37, 3) := by decide +kernel
theorem dX11_init_64 : decode cX11_init 64 = .ok (.putfield 40, 3) := by decide +kernel
theorem dX11_init_67 : decode cX11_init 67 = .ok (.aload_n 0, 1) := by decide +kernel
theorem dX11_init_68 : decode cX11_init 68 = .ok (.new 44, 3) := by decide +kernel
theorem dX11_init_71 : decode cX11_init 71 = .ok (.dup, 1) := by decide +kernel
theorem dX11_init_72 : decode cX11_init 72 = .ok (.aload_n 0, 1) := by decide +kernel
theorem dX11_init_73 : decode cX11_init 73 = .ok (.getfield 20, 3) := by decide +kernel
theorem dX11_init_76 : decode cX11_init 76 = .ok (.invokespecial 46, 3) := by decide +kernel
theorem dX11_init_79 : decode cX11_init 79 = .ok (.putfield 49, 3) := by decide +kernel
theorem dX11_init_82 : decode cX11_init 82 = .ok (.aload_n 0, 1) := by decide +kernel
theorem dX11_init_83 : decode cX11_init 83 = .ok (.new 53, 3) := by decide +kernel
theorem dX11_init_86 : decode cX11_init 86 = .ok (.dup, 1) := by decide +kernel
theorem dX11_init_87 : decode cX11_init 87 = .ok (.invokespecial 55, 3) := by decide +kernel
theorem dX11_init_90 : decode cX11_init 90 = .ok (.putfield 56, 3) := by decide +kernel
theorem dX11_init_93 : decode cX11_init 93 = .ok (.aload_n 0, 1) := by decide +kernel
theorem dX11_init_94 : decode cX11_init 94 = .ok (.new 60, 3) := by decide +kernel
theorem dX11_init_97 : decode cX11_init 97 = .ok (.dup, 1) := by decide +kernel
theorem dX11_init_98 : decode cX11_init 98 = .ok (.invokespecial 62, 3) := by decide +kernel
theorem dX11_init_101 : decode cX11_init 101 = .ok (.putfield 63, 3) := by decide +kernel
theorem dX11_init_104 : decode cX11_init 104 = .ok (.aload_n 0, 1) := by decide +kernel
theorem dX11_init_105 : decode cX11_init 105 = .ok (.aconst_null, 1) := by decide +kernel
theorem dX11_init_106 : decode cX11_init 106 = .ok (.putfield 67, 3) := by decide +kernel
theorem dX11_init_109 : decode cX11_init 109 = .ok (.aload_n 0, 1) := by decide +kernel
theorem dX11_init_110 : decode cX11_init 110 = .ok (.aconst_null, 1) := by decide +kernel
theorem dX11_init_111 : decode cX11_init 111 = .ok (.putfield 70, 3) := by decide +kernel
theorem dX11_init_114 : decode cX11_init 114 = .ok (.aload_n 0, 1) := by decide +kernel
theorem dX11_init_115 : decode cX11_init 115 = .ok (.aconst_null, 1) := by decide +kernel
theorem dX11_init_116 : decode cX11_init 116 = .ok (.putfield 74, 3) := by decide +kernel
theorem dX11_init_119 : decode cX11_init 119 = .ok (.aload_n 0, 1) := by decide +kernel
theorem dX11_init_120 : decode cX11_init 120 = .ok (.iconst 0, 1) := by decide +kernel
theorem dX11_init_121 : decode cX11_init 121 = .ok (.putfield 78, 3) := by decide +kernel
theorem dX11_init_124 : decode cX11_init 124 = .ok (.aload_n 0, 1) := by decide +kernel
theorem dX11_init_125 : decode cX11_init 125 = .ok (.lconst 0, 1) := by decide +kernel
theorem dX11_init_126 : decode cX11_init 126 = .ok (.putfield 81, 3) := by decide +kernel
theorem dX11_init_129 : decode cX11_init 129 = .ok (.aload_n 0, 1) := by decide +kernel
theorem dX11_init_130 : decode cX11_init 130 = .ok (.getfield 27, 3) := by decide +kernel
theorem dX11_init_133 : decode cX11_init 133 = .ok (.dconst 1, 1) := by decide +kernel
theorem dX11_init_134 : decode cX11_init 134 = .ok (.putfield 85, 3) := by decide +kernel
theorem dX11_init_137 : decode cX11_init 137 = .ok (.return_, 1) := by decide +kernel
def g0X11 (x8 : Nat) : Gs := (sR g00 8 (some x8))
theorem dfX11 : ∀ j, j < 14 → defaultValue (tyX11 j) = vp_V ((List.range 14).map (dfl kdX11)) j := by decide +kernel
set_option maxHeartbeats 4000000 in
set_option maxRecDepth 100000 in
theorem n_X11_init (l : Launch) (D : Dx) (h : Nat) (n : Nat) (gRe : Gs) (hRe : f_X6_init n g00 = some gRe) (sz : Nat) : Met l yX11_init (ws_ yX11_init cX11_init 1 none) { frames := 3, cells := 51, slots := 17765, locals := 80 } (PCA D [] [.ref h] [(h, .inr (11, (List.range 14).map (dfl kdX11)))] sz) (QN D (fun u : AY × (Nat × ClassId) × (Nat × ClassId) × AY × AY × AY × AY × AY × AY × AY => u.1.1 0 = u.2.1.1 ∧ u.1.1 4 = u.2.2.1.1 ∧ u.2.2.2.2.2.1.1 0 = (u.1.1 2) ∧ u.2.2.2.2.2.1.1 1 = (u.1.1 3) ∧ u.2.2.2.2.2.2.1.1 0 = (u.1.1 2)) (va_A [(h, .inr (11, (List.range 14).map (dfl kdX11)))] sz) (fun u => wX11 h u.1.1 u.1.2 (g0X11 (u.1.1 8)) ++ (wTP u.2.1.1 (fun _ => 0) (fun _ => u.2.1.2) g00 ++ (wKP u.2.2.1.1 (fun _ => 0) (fun _ => u.2.2.1.2) g00 ++ (wX6 (u.1.1 2) u.2.2.2.1.1 u.2.2.2.1.2 gRe ++ (wX9 (u.1.1 3) u.2.2.2.2.1.1 u.2.2.2.2.1.2 (sD g0X9 15 FP.dconst1) ++ (wX1 (u.1.1 5) u.2.2.2.2.2.1.1 u.2.2.2.2.2.1.2 g0X1 ++ (wX3 (u.1.1 6) u.2.2.2.2.2.2.1.1 u.2.2.2.2.2.2.1.2 g0X3 ++ (wX10 (u.1.1 7) u.2.2.2.2.2.2.2.1.1 u.2.2.2.2.2.2.2.1.2 g0X10 ++ (wX4 (u.1.1 8) u.2.2.2.2.2.2.2.2.1.1 u.2.2.2.2.2.2.2.2.1.2 g0X4 ++ (wX0 (u.2.2.2.2.2.2.2.2.1.1 0) u.2.2.2.2.2.2.2.2.2.1 u.2.2.2.2.2.2.2.2.2.2 g0X0)))))))))) (fun u => tX11 u.1.2 ++ (tTP (fun _ => u.2.1.2) ++ (tKP (fun _ => u.2.2.1.2) ++ (tX6 u.2.2.2.1.2 ++ (tX9 u.2.2.2.2.1.2 ++ (tX1 u.2.2.2.2.2.1.2 ++ (tX3 u.2.2.2.2.2.2.1.2 ++ (tX10 u.2.2.2.2.2.2.2.1.2 ++ (tX4 u.2.2.2.2.2.2.2.2.1.2 ++ (tX0 u.2.2.2.2.2.2.2.2.2.2))))))))))) 51 17765 (va_A [(h, .inr (11, (List.range 14).map (dfl kdX11)))] sz) := by
  refine Met.ofW (cc := cX11_init) (maxL := 1) (ret := none) (by decide) rfl ?_
  intro p e s m args below meth c s₁ B hml hv
  obtain ⟨hv, hAO⟩ := hv
  obtain ⟨rfl, hsz, hP, hK, hD, hN⟩ := hv
  subst hsz
  have C : Cx p s m _ meth c cX11_init none 1 RX11 lw_all := Cx_of B hml
  have X := Hx_start hP hK hD hN
  have hin : meth.name = "<init>" := (name_of_methodNamed B.named B.method).1
  obtain ⟨hx, hb, hr, -, hown, hts, hlk⟩ := id C
  generalize va_A [(h, .inr (11, (List.range 14).map (dfl kdX11)))] s.heap.size = A at X ⊢
  have hl := lv_entry ([.ref h]) (n := 1) (Nat.le_of_ble_eq_true rfl)
  rw [lg_entry_eq]
  generalize (lg_sl ([.ref h]) ++ List.replicate (1 - (lg_sl ([.ref h])).length) Slot.unset).toArray = ls at hl ⊢
  have hl : lv_has ls 1 [(0, .ref h)] := hl
  refine lv_aload_n hx hb dX11_init_0 rfl (lv_at hl 0 rfl) ?_
  refine W.objInit hx hb hown (hts _ q1_30) (hts _ q1_31) (hts _ q1_32) rfl (by rw [hml]; exact hl.1) rfl dX11_init_1 (Nat.le_of_ble_eq_true rfl) (Nat.le_of_ble_eq_true rfl) ?_
  refine W.eq (g2 := F0 m 4 ls []) rfl ?_
  refine lv_aload_n hx hb dX11_init_4 rfl (lv_at hl 0 rfl) ?_
  refine lv_sipush (v := (3000 : Int32)) hx hb dX11_init_5 (by decide) ?_
  refine va_newa (atype := .byte) (a0 := (3000, .inl (fun _ => 0))) (N' := 3000) hx hb (hts (.arrayClass .byte) q1_45) rfl X.1 X.2.1 X.2.2.1 X.2.2.2.1 X.2.2.2.2.1 (fun _ => rfl) (by decide) (by decide) (by decide) (Nat.le_of_ble_eq_true rfl) (Nat.le_of_ble_eq_true rfl) dX11_init_8 (fun q1 y1 H hK hP hD hS => ?_)
  have X : Hx D ([(y1, .byte)]) A s H [] ([(h, .inr (11, (List.range 14).map (dfl kdX11)))] ++ ([(q1, .inl (y1, 3000, .inl (fun _ => 0)))])) := ⟨hK, hP, hD, hS, X.2.2.2.2⟩
  refine W.widen (k := 1) (n := 3000) (Nat.le_of_ble_eq_true rfl) (Nat.le_of_ble_eq_true rfl) ?_
  refine va_putF (D := D.1) (ci := 11) (v := .ref q1) (ty := tyX11 0) (C := RX11) (T := TX11) (N := 14) hx hb hts wi_X11 tyX11 tyX11_ok nmX11 hown X.1 X.2.1 X.2.2.1 X.2.2.2.1 0 rfl rfl 0 (by decide) (hts _ q2_147) (fun _ h9 => h9) rfl hin rfl (by decide +kernel) rfl rfl (by rw [List.length_map, List.length_range]; decide) dX11_init_10 (fun H locs hP hD hS => ?_)
  have X : Hx D ([(y1, .byte)]) A s H locs ([(h, .inr (11, (List.range 14).map (va_up (dfl kdX11) 0 (.ref q1))))] ++ ([(q1, .inl (y1, 3000, .inl (fun _ => 0)))])) := Hx_set X obj_set hP hD hS
  refine lv_aload_n hx hb dX11_init_13 rfl (lv_at hl 0 rfl) ?_
  refine lv_iconst (v := (0 : Int32)) hx hb dX11_init_14 (by decide) ?_
  refine va_put (D := D.1) (ci := 11) (v := .int (0 : Int32)) (ty := tyX11 1) (C := RX11) (T := TX11) (N := 14) hx hb hts wi_X11 tyX11 tyX11_ok nmX11 hown X.1 X.2.1 X.2.2.1 X.2.2.2.1 0 rfl rfl 1 (by decide) (hts _ q2_148) (fun _ h9 => h9) rfl (by decide +kernel) rfl rfl (by rw [List.length_map, List.length_range]; decide) dX11_init_15 (fun H locs hP hD hS => ?_)
  have X : Hx D ([(y1, .byte)]) A s H locs ([(h, .inr (11, (List.range 14).map (va_up (va_up (dfl kdX11) 0 (.ref q1)) 1 (.int (0 : Int32)))))] ++ ([(q1, .inl (y1, 3000, .inl (fun _ => 0)))])) := Hx_set X obj_set hP hD hS
  refine lv_aload_n hx hb dX11_init_18 rfl (lv_at hl 0 rfl) ?_
  refine va_new (ci := 6) (fs := (List.range 1).map (dfl kdX6)) (C := RX6) (T := TX6) (N := 1) hx hb hts wi_X6 tyX6 tyX6_ok hown (hts _ q1_33) (hts _ q1_34) (hts _ q1_2) X.1 X.2.1 X.2.2.1 X.2.2.2.1 X.2.2.2.2.1 rfl dfX6 (Nat.le_of_ble_eq_true rfl) (Nat.le_of_ble_eq_true rfl) dX11_init_19 (fun w19 H hP hD hS => ?_)
  have X : Hx D ([(y1, .byte)]) A s H locs ([(h, .inr (11, (List.range 14).map (va_up (va_up (dfl kdX11) 0 (.ref q1)) 1 (.int (0 : Int32)))))] ++ ([(q1, .inl (y1, 3000, .inl (fun _ => 0)))] ++ ([(w19, .inr (6, (List.range 1).map (dfl kdX6)))]))) := ⟨X.1, hP, hD, hS, X.2.2.2.2⟩
  refine W.widen (k := 2) (n := 3001) (Nat.le_of_ble_eq_true rfl) (Nat.le_of_ble_eq_true rfl) ?_
  refine lv_dup hx hb dX11_init_22 rfl ?_
  have hPc := X.2.1.sub (ws' := [(w19, .inr (6, (List.range 1).map (dfl kdX6)))]) [2] rfl
  have hDc := X.2.2.1.sub (ws' := [(w19, .inr (6, (List.range 1).map (dfl kdX6)))]) [2] (by decide) rfl
  have hFc := free_of (wC := [(w19, .inr (6, (List.range 1).map (dfl kdX6)))]) (isC := [2]) X rfl
  refine va_callv (va_runI (As := []) (rest := [.ref w19, .ref h]) ⟨hx, hb, hml, hown, hts⟩ (n_X6_init l D n w19 gRe hRe _) (cwI 0 hts (good_ws q1_37) rfl rfl rfl (hts _ q1_2) (hts _ q1_35) (hts _ q1_36) rfl (by decide +kernel) ⟨Nat.le_of_ble_eq_true rfl, Nat.le_of_ble_eq_true rfl⟩) ⟨PC_blind, PC_at (eK X) hPc hDc X.2.2.2.2.2 X.2.2.2.1 hFc⟩ rfl rfl hl.1 rfl (lv_room (Nat.le_of_ble_eq_true rfl)) dX11_init_23 ⟨Nat.le_of_ble_eq_true rfl, Nat.le_of_ble_eq_true rfl⟩) X.2.2.2.1 (fun q _ h => hFc q h) hFc (fun u1 t H1 locs1 ht hvm hw1 hB hz1 hk1 hS => ?_)
  obtain ⟨hP1, hK1, hD1⟩ := hB
  rw [ht] at hP1
  have hK1 := va_K.moved hvm.symm hK1
  obtain ⟨hP, hD⟩ := va_join (wr := [(h, .inr (11, (List.range 14).map (va_up (va_up (dfl kdX11) 0 (.ref q1)) 1 (.int (0 : Int32)))))] ++ ([(q1, .inl (y1, 3000, .inl (fun _ => 0)))])) X.2.1 X.2.2.1 [2] [0, 1] rfl rfl (by decide) (by decide) hk1 hFc hP1 hD1
  have X : Hx D ([(y1, .byte)] ++ (tX6 u1.2)) A s H1 locs1 ([(h, .inr (11, (List.range 14).map (va_up (va_up (dfl kdX11) 0 (.ref q1)) 1 (.int (0 : Int32)))))] ++ ([(q1, .inl (y1, 3000, .inl (fun _ => 0)))] ++ (wX6 w19 u1.1 u1.2 gRe))) := ⟨X.1.app hK1, hP, hD, hS, X.2.2.2.2⟩
  generalize H1 = H at X ⊢
  generalize locs1 = locs at X ⊢
  refine W.widen (k := 3) (n := 5099) (Nat.le_of_ble_eq_true rfl) (Nat.le_of_ble_eq_true rfl) ?_
  refine va_putF (D := D.1) (ci := 11) (v := .ref w19) (ty := tyX11 2) (C := RX11) (T := TX11) (N := 14) hx hb hts wi_X11 tyX11 tyX11_ok nmX11 hown X.1 X.2.1 X.2.2.1 X.2.2.2.1 0 rfl rfl 2 (by decide) (hts _ q2_149) (fun _ h9 => h9) rfl hin rfl (by decide +kernel) rfl rfl (by rw [List.length_map, List.length_range]; decide) dX11_init_26 (fun H locs hP hD hS => ?_)
  have X : Hx D ([(y1, .byte)] ++ (tX6 u1.2)) A s H locs ([(h, .inr (11, (List.range 14).map (va_up (va_up (va_up (dfl kdX11) 0 (.ref q1)) 1 (.int (0 : Int32))) 2 (.ref w19))))] ++ ([(q1, .inl (y1, 3000, .inl (fun _ => 0)))] ++ (wX6 w19 u1.1 u1.2 gRe))) := Hx_set X obj_set hP hD hS
  refine lv_aload_n hx hb dX11_init_29 rfl (lv_at hl 0 rfl) ?_
  refine va_new (ci := 9) (fs := (List.range 17).map (dfl kdX9)) (C := RX9) (T := TX9) (N := 17) hx hb hts wi_X9 tyX9 tyX9_ok hown (hts _ q1_47) (hts _ q1_48) (hts _ q1_3) X.1 X.2.1 X.2.2.1 X.2.2.2.1 X.2.2.2.2.1 rfl dfX9 (Nat.le_of_ble_eq_true rfl) (Nat.le_of_ble_eq_true rfl) dX11_init_30 (fun w30 H hP hD hS => ?_)
  have X : Hx D ([(y1, .byte)] ++ (tX6 u1.2)) A s H locs ([(h, .inr (11, (List.range 14).map (va_up (va_up (va_up (dfl kdX11) 0 (.ref q1)) 1 (.int (0 : Int32))) 2 (.ref w19))))] ++ ([(q1, .inl (y1, 3000, .inl (fun _ => 0)))] ++ (wX6 w19 u1.1 u1.2 gRe ++ ([(w30, .inr (9, (List.range 17).map (dfl kdX9)))])))) := ⟨X.1, hP, hD, hS, X.2.2.2.2⟩
  refine W.widen (k := 4) (n := 5116) (Nat.le_of_ble_eq_true rfl) (Nat.le_of_ble_eq_true rfl) ?_
  refine lv_dup hx hb dX11_init_33 rfl ?_
  have hPc := X.2.1.sub (ws' := [(w30, .inr (9, (List.range 17).map (dfl kdX9)))]) [4] rfl
  have hDc := X.2.2.1.sub (ws' := [(w30, .inr (9, (List.range 17).map (dfl kdX9)))]) [4] (by decide) rfl
  have hFc := free_of (wC := [(w30, .inr (9, (List.range 17).map (dfl kdX9)))]) (isC := [4]) X rfl
  refine va_callv (va_runIN (As := []) (rest := [.ref w30, .ref h]) ⟨hx, hb, hml, hown, hts⟩ (n_X9_init l D w30 _) ⟨va_cnB 0 hts (good_ws q1_51) rfl rfl rfl (X.2.2.2.2.2.1 _ q1_49 rfl) (hts _ q1_3) (by decide +kernel) ⟨Nat.le_of_ble_eq_true rfl, Nat.le_of_ble_eq_true rfl⟩, rfl, hts _ q1_50⟩ ⟨PC_blind, PC_at (eK X) hPc hDc X.2.2.2.2.2 X.2.2.2.1 hFc⟩ rfl rfl hl.1 rfl (lv_room (Nat.le_of_ble_eq_true rfl)) dX11_init_34 ⟨Nat.le_of_ble_eq_true rfl, Nat.le_of_ble_eq_true rfl⟩) X.2.2.2.1 (fun q _ h => hFc q h) hFc (fun u2 t H1 locs1 ht hvm hw2 hB hz1 hk1 hS => ?_)
  obtain ⟨hP1, hK1, hD1⟩ := hB
  rw [ht] at hP1
  have hK1 := va_K.moved hvm.symm hK1
  obtain ⟨hP, hD⟩ := va_join (wr := [(h, .inr (11, (List.range 14).map (va_up (va_up (va_up (dfl kdX11) 0 (.ref q1)) 1 (.int (0 : Int32))) 2 (.ref w19))))] ++ ([(q1, .inl (y1, 3000, .inl (fun _ => 0)))] ++ (wX6 w19 u1.1 u1.2 gRe))) X.2.1 X.2.2.1 [4] [0, 1, 2, 3] rfl rfl (by decide) (by decide) hk1 hFc hP1 hD1
  have X : Hx D ([(y1, .byte)] ++ (tX6 u1.2 ++ (tX9 u2.2))) A s H1 locs1 ([(h, .inr (11, (List.range 14).map (va_up (va_up (va_up (dfl kdX11) 0 (.ref q1)) 1 (.int (0 : Int32))) 2 (.ref w19))))] ++ ([(q1, .inl (y1, 3000, .inl (fun _ => 0)))] ++ (wX6 w19 u1.1 u1.2 gRe ++ (wX9 w30 u2.1 u2.2 g0X9)))) := ⟨X.1.app hK1, hP, hD, hS, X.2.2.2.2⟩
  generalize H1 = H at X ⊢
  generalize locs1 = locs at X ⊢
  refine W.widen (k := 16) (n := 8132) (Nat.le_of_ble_eq_true rfl) (Nat.le_of_ble_eq_true rfl) ?_
  refine va_putF (D := D.1) (ci := 11) (v := .ref w30) (ty := tyX11 3) (C := RX11) (T := TX11) (N := 14) hx hb hts wi_X11 tyX11 tyX11_ok nmX11 hown X.1 X.2.1 X.2.2.1 X.2.2.2.1 0 rfl rfl 3 (by decide) (hts _ q2_150) (fun _ h9 => h9) rfl hin rfl (by decide +kernel) rfl rfl (by rw [List.length_map, List.length_range]; decide) dX11_init_37 (fun H locs hP hD hS => ?_)
  have X : Hx D ([(y1, .byte)] ++ (tX6 u1.2 ++ (tX9 u2.2))) A s H locs ([(h, .inr (11, (List.range 14).map (va_up (va_up (va_up (va_up (dfl kdX11) 0 (.ref q1)) 1 (.int (0 : Int32))) 2 (.ref w19)) 3 (.ref w30))))] ++ ([(q1, .inl (y1, 3000, .inl (fun _ => 0)))] ++ (wX6 w19 u1.1 u1.2 gRe ++ (wX9 w30 u2.1 u2.2 g0X9)))) := Hx_set X obj_set hP hD hS
  refine lv_aload_n hx hb dX11_init_40 rfl (lv_at hl 0 rfl) ?_
  refine lv_iconst (v := (4 : Int32)) hx hb dX11_init_41 (by decide) ?_
  refine va_newq (N' := 4) hx hb hown (hts _ q1_47) hAO X.1 X.2.1 X.2.2.1 X.2.2.2.1 X.2.2.2.2.1 (by decide) (by decide) (by decide) (Nat.le_of_ble_eq_true rfl) (Nat.le_of_ble_eq_true rfl) dX11_init_42 (fun qk yk H hK hP hD hS => ?_)
  have X : Hx D ([(y1, .byte)] ++ (tX6 u1.2 ++ (tX9 u2.2 ++ ([(yk, (.object "TurningHall$State"))])))) A s H locs ([(h, .inr (11, (List.range 14).map (va_up (va_up (va_up (va_up (dfl kdX11) 0 (.ref q1)) 1 (.int (0 : Int32))) 2 (.ref w19)) 3 (.ref w30))))] ++ ([(q1, .inl (y1, 3000, .inl (fun _ => 0)))] ++ (wX6 w19 u1.1 u1.2 gRe ++ (wX9 w30 u2.1 u2.2 g0X9 ++ ([(qk, .inl (yk, 4, .inr (.inr (.inr (.inr (fun _ => none))))))]))))) := ⟨hK, hP, hD, hS, X.2.2.2.2⟩
  refine W.widen (k := 17) (n := 8136) (Nat.le_of_ble_eq_true rfl) (Nat.le_of_ble_eq_true rfl) ?_
  refine va_putF (D := D.1) (ci := 11) (v := .ref qk) (ty := tyX11 4) (C := RX11) (T := TX11) (N := 14) hx hb hts wi_X11 tyX11 tyX11_ok nmX11 hown X.1 X.2.1 X.2.2.1 X.2.2.2.1 0 rfl rfl 4 (by decide) (hts _ q2_151) (fun _ h9 => h9) rfl hin rfl (by decide +kernel) rfl rfl (by rw [List.length_map, List.length_range]; decide) dX11_init_45 (fun H locs hP hD hS => ?_)
  have X : Hx D ([(y1, .byte)] ++ (tX6 u1.2 ++ (tX9 u2.2 ++ ([(yk, (.object "TurningHall$State"))])))) A s H locs ([(h, .inr (11, (List.range 14).map (va_up (va_up (va_up (va_up (va_up (dfl kdX11) 0 (.ref q1)) 1 (.int (0 : Int32))) 2 (.ref w19)) 3 (.ref w30)) 4 (.ref qk))))] ++ ([(q1, .inl (y1, 3000, .inl (fun _ => 0)))] ++ (wX6 w19 u1.1 u1.2 gRe ++ (wX9 w30 u2.1 u2.2 g0X9 ++ ([(qk, .inl (yk, 4, .inr (.inr (.inr (.inr (fun _ => none))))))]))))) := Hx_set X obj_set hP hD hS
  refine lv_aload_n hx hb dX11_init_48 rfl (lv_at hl 0 rfl) ?_
  refine va_new (ci := 1) (fs := (List.range 7).map (dfl kdX1)) (C := RX1) (T := TX1) (N := 7) hx hb hts wi_X1 tyX1 tyX1_ok hown (hts _ q1_131) (hts _ q1_132) (hts _ q1_4) X.1 X.2.1 X.2.2.1 X.2.2.2.1 X.2.2.2.2.1 rfl dfX1 (Nat.le_of_ble_eq_true rfl) (Nat.le_of_ble_eq_true rfl) dX11_init_49 (fun w49 H hP hD hS => ?_)
  have X : Hx D ([(y1, .byte)] ++ (tX6 u1.2 ++ (tX9 u2.2 ++ ([(yk, (.object "TurningHall$State"))])))) A s H locs ([(h, .inr (11, (List.range 14).map (va_up (va_up (va_up (va_up (va_up (dfl kdX11) 0 (.ref q1)) 1 (.int (0 : Int32))) 2 (.ref w19)) 3 (.ref w30)) 4 (.ref qk))))] ++ ([(q1, .inl (y1, 3000, .inl (fun _ => 0)))] ++ (wX6 w19 u1.1 u1.2 gRe ++ (wX9 w30 u2.1 u2.2 g0X9 ++ ([(qk, .inl (yk, 4, .inr (.inr (.inr (.inr (fun _ => none))))))] ++ ([(w49, .inr (1, (List.range 7).map (dfl kdX1)))])))))) := ⟨X.1, hP, hD, hS, X.2.2.2.2⟩
  refine W.widen (k := 18) (n := 8143) (Nat.le_of_ble_eq_true rfl) (Nat.le_of_ble_eq_true rfl) ?_
  refine lv_dup hx hb dX11_init_52 rfl ?_
  refine lv_aload_n hx hb dX11_init_53 rfl (lv_at hl 0 rfl) ?_
  refine va_get (D := D.1) (ci := 11) (v := .ref w19) (C := RX11) (T := TX11) (N := 14) hx hb hts wi_X11 hown X.1 X.2.1 0 rfl rfl 2 (by decide) (hts _ q2_149) (fun _ h9 => h9) (fl_get (by decide)) dX11_init_54 ?_
  refine lv_aload_n hx hb dX11_init_57 rfl (lv_at hl 0 rfl) ?_
  refine va_get (D := D.1) (ci := 11) (v := .ref w30) (C := RX11) (T := TX11) (N := 14) hx hb hts wi_X11 hown X.1 X.2.1 0 rfl rfl 3 (by decide) (hts _ q2_150) (fun _ h9 => h9) (fl_get (by decide)) dX11_init_58 ?_
  have hPc := X.2.1.sub (ws' := [(w49, .inr (1, (List.range 7).map (dfl kdX1)))]) [18] rfl
  have hDc := X.2.2.1.sub (ws' := [(w49, .inr (1, (List.range 7).map (dfl kdX1)))]) [18] (by decide) rfl
  have hFc := free_of (wC := [(w49, .inr (1, (List.range 7).map (dfl kdX1)))]) (isC := [18]) X rfl
  refine va_callv (va_runI (As := [.ref w19, .ref w30]) (rest := [.ref w49, .ref h]) ⟨hx, hb, hml, hown, hts⟩ (n_X1_init l D w49 w19 w30 _) (cwI 2 hts (good_ws q1_135) rfl rfl rfl (hts _ q1_4) (hts _ q1_133) (hts _ q1_134) rfl (by decide +kernel) ⟨Nat.le_of_ble_eq_true rfl, Nat.le_of_ble_eq_true rfl⟩) ⟨PC_blind, PC_at (eK X) hPc hDc X.2.2.2.2.2 X.2.2.2.1 hFc⟩ rfl rfl hl.1 rfl (lv_room (Nat.le_of_ble_eq_true rfl)) dX11_init_61 ⟨Nat.le_of_ble_eq_true rfl, Nat.le_of_ble_eq_true rfl⟩) X.2.2.2.1 (fun q _ h => hFc q h) hFc (fun u3 t H1 locs1 ht hvm hw3 hB hz1 hk1 hS => ?_)
  obtain ⟨hP1, hK1, hD1⟩ := hB
  rw [ht] at hP1
  have hK1 := va_K.moved hvm.symm hK1
  obtain ⟨hP, hD⟩ := va_join (wr := [(h, .inr (11, (List.range 14).map (va_up (va_up (va_up (va_up (va_up (dfl kdX11) 0 (.ref q1)) 1 (.int (0 : Int32))) 2 (.ref w19)) 3 (.ref w30)) 4 (.ref qk))))] ++ ([(q1, .inl (y1, 3000, .inl (fun _ => 0)))] ++ (wX6 w19 u1.1 u1.2 gRe ++ (wX9 w30 u2.1 u2.2 g0X9 ++ ([(qk, .inl (yk, 4, .inr (.inr (.inr (.inr (fun _ => none))))))]))))) X.2.1 X.2.2.1 [18] [0, 1, 2, 3, 4, 5, 6, 7, 8, 9, 10, 11, 12, 13, 14, 15, 16, 17] rfl rfl (by decide) (by decide) hk1 hFc hP1 hD1
  have X : Hx D ([(y1, .byte)] ++ (tX6 u1.2 ++ (tX9 u2.2 ++ ([(yk, (.object "TurningHall$State"))] ++ (tX1 u3.2))))) A s H1 locs1 ([(h, .inr (11, (List.range 14).map (va_up (va_up (va_up (va_up (va_up (dfl kdX11) 0 (.ref q1)) 1 (.int (0 : Int32))) 2 (.ref w19)) 3 (.ref w30)) 4 (.ref qk))))] ++ ([(q1, .inl (y1, 3000, .inl (fun _ => 0)))] ++ (wX6 w19 u1.1 u1.2 gRe ++ (wX9 w30 u2.1 u2.2 g0X9 ++ ([(qk, .inl (yk, 4, .inr (.inr (.inr (.inr (fun _ => none))))))] ++ (wX1 w49 u3.1 u3.2 g0X1)))))) := ⟨X.1.app hK1, hP, hD, hS, X.2.2.2.2⟩
  generalize H1 = H at X ⊢
  generalize locs1 = locs at X ⊢
  refine W.widen (k := 20) (n := 9167) (Nat.le_of_ble_eq_true rfl) (Nat.le_of_ble_eq_true rfl) ?_
  refine va_putF (D := D.1) (ci := 11) (v := .ref w49) (ty := tyX11 5) (C := RX11) (T := TX11) (N := 14) hx hb hts wi_X11 tyX11 tyX11_ok nmX11 hown X.1 X.2.1 X.2.2.1 X.2.2.2.1 0 rfl rfl 5 (by decide) (hts _ q2_152) (fun _ h9 => h9) rfl hin rfl (by decide +kernel) rfl rfl (by rw [List.length_map, List.length_range]; decide) dX11_init_64 (fun H locs hP hD hS => ?_)
  have X : Hx D ([(y1, .byte)] ++ (tX6 u1.2 ++ (tX9 u2.2 ++ ([(yk, (.object "TurningHall$State"))] ++ (tX1 u3.2))))) A s H locs ([(h, .inr (11, (List.range 14).map (va_up (va_up (va_up (va_up (va_up (va_up (dfl kdX11) 0 (.ref q1)) 1 (.int (0 : Int32))) 2 (.ref w19)) 3 (.ref w30)) 4 (.ref qk)) 5 (.ref w49))))] ++ ([(q1, .inl (y1, 3000, .inl (fun _ => 0)))] ++ (wX6 w19 u1.1 u1.2 gRe ++ (wX9 w30 u2.1 u2.2 g0X9 ++ ([(qk, .inl (yk, 4, .inr (.inr (.inr (.inr (fun _ => none))))))] ++ (wX1 w49 u3.1 u3.2 g0X1)))))) := Hx_set X obj_set hP hD hS
  refine lv_aload_n hx hb dX11_init_67 rfl (lv_at hl 0 rfl) ?_
  refine va_new (ci := 3) (fs := (List.range 3).map (dfl kdX3)) (C := RX3) (T := TX3) (N := 3) hx hb hts wi_X3 tyX3 tyX3_ok hown (hts _ q1_162) (hts _ q1_163) (hts _ q1_5) X.1 X.2.1 X.2.2.1 X.2.2.2.1 X.2.2.2.2.1 rfl dfX3 (Nat.le_of_ble_eq_true rfl) (Nat.le_of_ble_eq_true rfl) dX11_init_68 (fun w68 H hP hD hS => ?_)
  have X : Hx D ([(y1, .byte)] ++ (tX6 u1.2 ++ (tX9 u2.2 ++ ([(yk, (.object "TurningHall$State"))] ++ (tX1 u3.2))))) A s H locs ([(h, .inr (11, (List.range 14).map (va_up (va_up (va_up (va_up (va_up (va_up (dfl kdX11) 0 (.ref q1)) 1 (.int (0 : Int32))) 2 (.ref w19)) 3 (.ref w30)) 4 (.ref qk)) 5 (.ref w49))))] ++ ([(q1, .inl (y1, 3000, .inl (fun _ => 0)))] ++ (wX6 w19 u1.1 u1.2 gRe ++ (wX9 w30 u2.1 u2.2 g0X9 ++ ([(qk, .inl (yk, 4, .inr (.inr (.inr (.inr (fun _ => none))))))] ++ (wX1 w49 u3.1 u3.2 g0X1 ++ ([(w68, .inr (3, (List.range 3).map (dfl kdX3)))]))))))) := ⟨X.1, hP, hD, hS, X.2.2.2.2⟩
  refine W.widen (k := 21) (n := 9170) (Nat.le_of_ble_eq_true rfl) (Nat.le_of_ble_eq_true rfl) ?_
  refine lv_dup hx hb dX11_init_71 rfl ?_
  refine lv_aload_n hx hb dX11_init_72 rfl (lv_at hl 0 rfl) ?_
  refine va_get (D := D.1) (ci := 11) (v := .ref w19) (C := RX11) (T := TX11) (N := 14) hx hb hts wi_X11 hown X.1 X.2.1 0 rfl rfl 2 (by decide) (hts _ q2_149) (fun _ h9 => h9) (fl_get (by decide)) dX11_init_73 ?_
  have hPc := X.2.1.sub (ws' := [(w68, .inr (3, (List.range 3).map (dfl kdX3)))]) [21] rfl
  have hDc := X.2.2.1.sub (ws' := [(w68, .inr (3, (List.range 3).map (dfl kdX3)))]) [21] (by decide) rfl
  have hFc := free_of (wC := [(w68, .inr (3, (List.range 3).map (dfl kdX3)))]) (isC := [21]) X rfl
  refine va_callv (va_runI (As := [.ref w19]) (rest := [.ref w68, .ref h]) ⟨hx, hb, hml, hown, hts⟩ (n_X3_init l D w68 w19 _) (cwI 1 hts (good_ws q1_166) rfl rfl rfl (hts _ q1_5) (hts _ q1_164) (hts _ q1_165) rfl (by decide +kernel) ⟨Nat.le_of_ble_eq_true rfl, Nat.le_of_ble_eq_true rfl⟩) ⟨PC_blind, PC_at (eK X) hPc hDc X.2.2.2.2.2 X.2.2.2.1 hFc⟩ rfl rfl hl.1 rfl (lv_room (Nat.le_of_ble_eq_true rfl)) dX11_init_76 ⟨Nat.le_of_ble_eq_true rfl, Nat.le_of_ble_eq_true rfl⟩) X.2.2.2.1 (fun q _ h => hFc q h) hFc (fun u4 t H1 locs1 ht hvm hw4 hB hz1 hk1 hS => ?_)
  obtain ⟨hP1, hK1, hD1⟩ := hB
  rw [ht] at hP1
  have hK1 := va_K.moved hvm.symm hK1
  obtain ⟨hP, hD⟩ := va_join (wr := [(h, .inr (11, (List.range 14).map (va_up (va_up (va_up (va_up (va_up (va_up (dfl kdX11) 0 (.ref q1)) 1 (.int (0 : Int32))) 2 (.ref w19)) 3 (.ref w30)) 4 (.ref qk)) 5 (.ref w49))))] ++ ([(q1, .inl (y1, 3000, .inl (fun _ => 0)))] ++ (wX6 w19 u1.1 u1.2 gRe ++ (wX9 w30 u2.1 u2.2 g0X9 ++ ([(qk, .inl (yk, 4, .inr (.inr (.inr (.inr (fun _ => none))))))] ++ (wX1 w49 u3.1 u3.2 g0X1)))))) X.2.1 X.2.2.1 [21] [0, 1, 2, 3, 4, 5, 6, 7, 8, 9, 10, 11, 12, 13, 14, 15, 16, 17, 18, 19, 20] rfl rfl (by decide) (by decide) hk1 hFc hP1 hD1
  have X : Hx D ([(y1, .byte)] ++ (tX6 u1.2 ++ (tX9 u2.2 ++ ([(yk, (.object "TurningHall$State"))] ++ (tX1 u3.2 ++ (tX3 u4.2)))))) A s H1 locs1 ([(h, .inr (11, (List.range 14).map (va_up (va_up (va_up (va_up (va_up (va_up (dfl kdX11) 0 (.ref q1)) 1 (.int (0 : Int32))) 2 (.ref w19)) 3 (.ref w30)) 4 (.ref qk)) 5 (.ref w49))))] ++ ([(q1, .inl (y1, 3000, .inl (fun _ => 0)))] ++ (wX6 w19 u1.1 u1.2 gRe ++ (wX9 w30 u2.1 u2.2 g0X9 ++ ([(qk, .inl (yk, 4, .inr (.inr (.inr (.inr (fun _ => none))))))] ++ (wX1 w49 u3.1 u3.2 g0X1 ++ (wX3 w68 u4.1 u4.2 g0X3))))))) := ⟨X.1.app hK1, hP, hD, hS, X.2.2.2.2⟩
  generalize H1 = H at X ⊢
  generalize locs1 = locs at X ⊢
  refine W.widen (k := 22) (n := 9218) (Nat.le_of_ble_eq_true rfl) (Nat.le_of_ble_eq_true rfl) ?_
  refine va_putF (D := D.1) (ci := 11) (v := .ref w68) (ty := tyX11 6) (C := RX11) (T := TX11) (N := 14) hx hb hts wi_X11 tyX11 tyX11_ok nmX11 hown X.1 X.2.1 X.2.2.1 X.2.2.2.1 0 rfl rfl 6 (by decide) (hts _ q2_153) (fun _ h9 => h9) rfl hin rfl (by decide +kernel) rfl rfl (by rw [List.length_map, List.length_range]; decide) dX11_init_79 (fun H locs hP hD hS => ?_)
  have X : Hx D ([(y1, .byte)] ++ (tX6 u1.2 ++ (tX9 u2.2 ++ ([(yk, (.object "TurningHall$State"))] ++ (tX1 u3.2 ++ (tX3 u4.2)))))) A s H locs ([(h, .inr (11, (List.range 14).map (va_up (va_up (va_up (va_up (va_up (va_up (va_up (dfl kdX11) 0 (.ref q1)) 1 (.int (0 : Int32))) 2 (.ref w19)) 3 (.ref w30)) 4 (.ref qk)) 5 (.ref w49)) 6 (.ref w68))))] ++ ([(q1, .inl (y1, 3000, .inl (fun _ => 0)))] ++ (wX6 w19 u1.1 u1.2 gRe ++ (wX9 w30 u2.1 u2.2 g0X9 ++ ([(qk, .inl (yk, 4, .inr (.inr (.inr (.inr (fun _ => none))))))] ++ (wX1 w49 u3.1 u3.2 g0X1 ++ (wX3 w68 u4.1 u4.2 g0X3))))))) := Hx_set X obj_set hP hD hS
  refine lv_aload_n hx hb dX11_init_82 rfl (lv_at hl 0 rfl) ?_
  refine va_new (ci := 10) (fs := (List.range 2).map (dfl kdX10)) (C := RX10) (T := TX10) (N := 2) hx hb hts wi_X10 tyX10 tyX10_ok hown (hts _ q1_180) (hts _ q1_181) (hts _ q1_6) X.1 X.2.1 X.2.2.1 X.2.2.2.1 X.2.2.2.2.1 rfl dfX10 (Nat.le_of_ble_eq_true rfl) (Nat.le_of_ble_eq_true rfl) dX11_init_83 (fun w83 H hP hD hS => ?_)
  have X : Hx D ([(y1, .byte)] ++ (tX6 u1.2 ++ (tX9 u2.2 ++ ([(yk, (.object "TurningHall$State"))] ++ (tX1 u3.2 ++ (tX3 u4.2)))))) A s H locs ([(h, .inr (11, (List.range 14).map (va_up (va_up (va_up (va_up (va_up (va_up (va_up (dfl kdX11) 0 (.ref q1)) 1 (.int (0 : Int32))) 2 (.ref w19)) 3 (.ref w30)) 4 (.ref qk)) 5 (.ref w49)) 6 (.ref w68))))] ++ ([(q1, .inl (y1, 3000, .inl (fun _ => 0)))] ++ (wX6 w19 u1.1 u1.2 gRe ++ (wX9 w30 u2.1 u2.2 g0X9 ++ ([(qk, .inl (yk, 4, .inr (.inr (.inr (.inr (fun _ => none))))))] ++ (wX1 w49 u3.1 u3.2 g0X1 ++ (wX3 w68 u4.1 u4.2 g0X3 ++ ([(w83, .inr (10, (List.range 2).map (dfl kdX10)))])))))))) := ⟨X.1, hP, hD, hS, X.2.2.2.2⟩
  refine W.widen (k := 23) (n := 9220) (Nat.le_of_ble_eq_true rfl) (Nat.le_of_ble_eq_true rfl) ?_
  refine lv_dup hx hb dX11_init_86 rfl ?_
  have hPc := X.2.1.sub (ws' := [(w83, .inr (10, (List.range 2).map (dfl kdX10)))]) [23] rfl
  have hDc := X.2.2.1.sub (ws' := [(w83, .inr (10, (List.range 2).map (dfl kdX10)))]) [23] (by decide) rfl
  have hFc := free_of (wC := [(w83, .inr (10, (List.range 2).map (dfl kdX10)))]) (isC := [23]) X rfl
  refine va_callv (va_runIN (As := []) (rest := [.ref w83, .ref h]) ⟨hx, hb, hml, hown, hts⟩ (n_X10_init l D w83 _) ⟨va_cnB 0 hts (good_ws q1_184) rfl rfl rfl (X.2.2.2.2.2.1 _ q1_182 rfl) (hts _ q1_6) (by decide +kernel) ⟨Nat.le_of_ble_eq_true rfl, Nat.le_of_ble_eq_true rfl⟩, rfl, hts _ q1_183⟩ ⟨PC_blind, PC_at (eK X) hPc hDc X.2.2.2.2.2 X.2.2.2.1 hFc⟩ rfl rfl hl.1 rfl (lv_room (Nat.le_of_ble_eq_true rfl)) dX11_init_87 ⟨Nat.le_of_ble_eq_true rfl, Nat.le_of_ble_eq_true rfl⟩) X.2.2.2.1 (fun q _ h => hFc q h) hFc (fun u5 t H1 locs1 ht hvm hw5 hB hz1 hk1 hS => ?_)
  obtain ⟨hP1, hK1, hD1⟩ := hB
  rw [ht] at hP1
  have hK1 := va_K.moved hvm.symm hK1
  obtain ⟨hP, hD⟩ := va_join (wr := [(h, .inr (11, (List.range 14).map (va_up (va_up (va_up (va_up (va_up (va_up (va_up (dfl kdX11) 0 (.ref q1)) 1 (.int (0 : Int32))) 2 (.ref w19)) 3 (.ref w30)) 4 (.ref qk)) 5 (.ref w49)) 6 (.ref w68))))] ++ ([(q1, .inl (y1, 3000, .inl (fun _ => 0)))] ++ (wX6 w19 u1.1 u1.2 gRe ++ (wX9 w30 u2.1 u2.2 g0X9 ++ ([(qk, .inl (yk, 4, .inr (.inr (.inr (.inr (fun _ => none))))))] ++ (wX1 w49 u3.1 u3.2 g0X1 ++ (wX3 w68 u4.1 u4.2 g0X3))))))) X.2.1 X.2.2.1 [23] [0, 1, 2, 3, 4, 5, 6, 7, 8, 9, 10, 11, 12, 13, 14, 15, 16, 17, 18, 19, 20, 21, 22] rfl rfl (by decide) (by decide) hk1 hFc hP1 hD1
  have X : Hx D ([(y1, .byte)] ++ (tX6 u1.2 ++ (tX9 u2.2 ++ ([(yk, (.object "TurningHall$State"))] ++ (tX1 u3.2 ++ (tX3 u4.2 ++ (tX10 u5.2))))))) A s H1 locs1 ([(h, .inr (11, (List.range 14).map (va_up (va_up (va_up (va_up (va_up (va_up (va_up (dfl kdX11) 0 (.ref q1)) 1 (.int (0 : Int32))) 2 (.ref w19)) 3 (.ref w30)) 4 (.ref qk)) 5 (.ref w49)) 6 (.ref w68))))] ++ ([(q1, .inl (y1, 3000, .inl (fun _ => 0)))] ++ (wX6 w19 u1.1 u1.2 gRe ++ (wX9 w30 u2.1 u2.2 g0X9 ++ ([(qk, .inl (yk, 4, .inr (.inr (.inr (.inr (fun _ => none))))))] ++ (wX1 w49 u3.1 u3.2 g0X1 ++ (wX3 w68 u4.1 u4.2 g0X3 ++ (wX10 w83 u5.1 u5.2 g0X10)))))))) := ⟨X.1.app hK1, hP, hD, hS, X.2.2.2.2⟩
  generalize H1 = H at X ⊢
  generalize locs1 = locs at X ⊢
  refine W.widen (k := 24) (n := 9224) (Nat.le_of_ble_eq_true rfl) (Nat.le_of_ble_eq_true rfl) ?_
  refine va_putF (D := D.1) (ci := 11) (v := .ref w83) (ty := tyX11 7) (C := RX11) (T := TX11) (N := 14) hx hb hts wi_X11 tyX11 tyX11_ok nmX11 hown X.1 X.2.1 X.2.2.1 X.2.2.2.1 0 rfl rfl 7 (by decide) (hts _ q2_154) (fun _ h9 => h9) rfl hin rfl (by decide +kernel) rfl rfl (by rw [List.length_map, List.length_range]; decide) dX11_init_90 (fun H locs hP hD hS => ?_)
  have X : Hx D ([(y1, .byte)] ++ (tX6 u1.2 ++ (tX9 u2.2 ++ ([(yk, (.object "TurningHall$State"))] ++ (tX1 u3.2 ++ (tX3 u4.2 ++ (tX10 u5.2))))))) A s H locs ([(h, .inr (11, (List.range 14).map (va_up (va_up (va_up (va_up (va_up (va_up (va_up (va_up (dfl kdX11) 0 (.ref q1)) 1 (.int (0 : Int32))) 2 (.ref w19)) 3 (.ref w30)) 4 (.ref qk)) 5 (.ref w49)) 6 (.ref w68)) 7 (.ref w83))))] ++ ([(q1, .inl (y1, 3000, .inl (fun _ => 0)))] ++ (wX6 w19 u1.1 u1.2 gRe ++ (wX9 w30 u2.1 u2.2 g0X9 ++ ([(qk, .inl (yk, 4, .inr (.inr (.inr (.inr (fun _ => none))))))] ++ (wX1 w49 u3.1 u3.2 g0X1 ++ (wX3 w68 u4.1 u4.2 g0X3 ++ (wX10 w83 u5.1 u5.2 g0X10)))))))) := Hx_set X obj_set hP hD hS
  refine lv_aload_n hx hb dX11_init_93 rfl (lv_at hl 0 rfl) ?_
  refine va_new (ci := 4) (fs := (List.range 14).map (dfl kdX4)) (C := RX4) (T := TX4) (N := 14) hx hb hts wi_X4 tyX4 tyX4_ok hown (hts _ q1_195) (hts _ q1_196) (hts _ q1_7) X.1 X.2.1 X.2.2.1 X.2.2.2.1 X.2.2.2.2.1 rfl dfX4 (Nat.le_of_ble_eq_true rfl) (Nat.le_of_ble_eq_true rfl) dX11_init_94 (fun w94 H hP hD hS => ?_)
  have X : Hx D ([(y1, .byte)] ++ (tX6 u1.2 ++ (tX9 u2.2 ++ ([(yk, (.object "TurningHall$State"))] ++ (tX1 u3.2 ++ (tX3 u4.2 ++ (tX10 u5.2))))))) A s H locs ([(h, .inr (11, (List.range 14).map (va_up (va_up (va_up (va_up (va_up (va_up (va_up (va_up (dfl kdX11) 0 (.ref q1)) 1 (.int (0 : Int32))) 2 (.ref w19)) 3 (.ref w30)) 4 (.ref qk)) 5 (.ref w49)) 6 (.ref w68)) 7 (.ref w83))))] ++ ([(q1, .inl (y1, 3000, .inl (fun _ => 0)))] ++ (wX6 w19 u1.1 u1.2 gRe ++ (wX9 w30 u2.1 u2.2 g0X9 ++ ([(qk, .inl (yk, 4, .inr (.inr (.inr (.inr (fun _ => none))))))] ++ (wX1 w49 u3.1 u3.2 g0X1 ++ (wX3 w68 u4.1 u4.2 g0X3 ++ (wX10 w83 u5.1 u5.2 g0X10 ++ ([(w94, .inr (4, (List.range 14).map (dfl kdX4)))]))))))))) := ⟨X.1, hP, hD, hS, X.2.2.2.2⟩
  refine W.widen (k := 25) (n := 9238) (Nat.le_of_ble_eq_true rfl) (Nat.le_of_ble_eq_true rfl) ?_
  refine lv_dup hx hb dX11_init_97 rfl ?_
  have hPc := X.2.1.sub (ws' := [(w94, .inr (4, (List.range 14).map (dfl kdX4)))]) [25] rfl
  have hDc := X.2.2.1.sub (ws' := [(w94, .inr (4, (List.range 14).map (dfl kdX4)))]) [25] (by decide) rfl
  have hFc := free_of (wC := [(w94, .inr (4, (List.range 14).map (dfl kdX4)))]) (isC := [25]) X rfl
  refine va_callv (va_runIN (As := []) (rest := [.ref w94, .ref h]) ⟨hx, hb, hml, hown, hts⟩ (n_X4_init l D w94 _) ⟨va_cnB 0 hts (good_ws q1_199) rfl rfl rfl (X.2.2.2.2.2.1 _ q1_197 rfl) (hts _ q1_7) (by decide +kernel) ⟨Nat.le_of_ble_eq_true rfl, Nat.le_of_ble_eq_true rfl⟩, rfl, hts _ q1_198⟩ ⟨PC_blind, PC_at (eK X) hPc hDc X.2.2.2.2.2 X.2.2.2.1 hFc⟩ rfl rfl hl.1 rfl (lv_room (Nat.le_of_ble_eq_true rfl)) dX11_init_98 ⟨Nat.le_of_ble_eq_true rfl, Nat.le_of_ble_eq_true rfl⟩) X.2.2.2.1 (fun q _ h => hFc q h) hFc (fun u6 t H1 locs1 ht hvm hw6 hB hz1 hk1 hS => ?_)
  obtain ⟨hP1, hK1, hD1⟩ := hB
  rw [ht] at hP1
  have hK1 := va_K.moved hvm.symm hK1
  obtain ⟨hP, hD⟩ := va_join (wr := [(h, .inr (11, (List.range 14).map (va_up (va_up (va_up (va_up (va_up (va_up (va_up (va_up (dfl kdX11) 0 (.ref q1)) 1 (.int (0 : Int32))) 2 (.ref w19)) 3 (.ref w30)) 4 (.ref qk)) 5 (.ref w49)) 6 (.ref w68)) 7 (.ref w83))))] ++ ([(q1, .inl (y1, 3000, .inl (fun _ => 0)))] ++ (wX6 w19 u1.1 u1.2 gRe ++ (wX9 w30 u2.1 u2.2 g0X9 ++ ([(qk, .inl (yk, 4, .inr (.inr (.inr (.inr (fun _ => none))))))] ++ (wX1 w49 u3.1 u3.2 g0X1 ++ (wX3 w68 u4.1 u4.2 g0X3 ++ (wX10 w83 u5.1 u5.2 g0X10)))))))) X.2.1 X.2.2.1 [25] [0, 1, 2, 3, 4, 5, 6, 7, 8, 9, 10, 11, 12, 13, 14, 15, 16, 17, 18, 19, 20, 21, 22, 23, 24] rfl rfl (by decide) (by decide) hk1 hFc hP1 hD1
  have X : Hx D ([(y1, .byte)] ++ (tX6 u1.2 ++ (tX9 u2.2 ++ ([(yk, (.object "TurningHall$State"))] ++ (tX1 u3.2 ++ (tX3 u4.2 ++ (tX10 u5.2 ++ (tX4 u6.1.2 ++ (tX0 u6.2.2))))))))) A s H1 locs1 ([(h, .inr (11, (List.range 14).map (va_up (va_up (va_up (va_up (va_up (va_up (va_up (va_up (dfl kdX11) 0 (.ref q1)) 1 (.int (0 : Int32))) 2 (.ref w19)) 3 (.ref w30)) 4 (.ref qk)) 5 (.ref w49)) 6 (.ref w68)) 7 (.ref w83))))] ++ ([(q1, .inl (y1, 3000, .inl (fun _ => 0)))] ++ (wX6 w19 u1.1 u1.2 gRe ++ (wX9 w30 u2.1 u2.2 g0X9 ++ ([(qk, .inl (yk, 4, .inr (.inr (.inr (.inr (fun _ => none))))))] ++ (wX1 w49 u3.1 u3.2 g0X1 ++ (wX3 w68 u4.1 u4.2 g0X3 ++ (wX10 w83 u5.1 u5.2 g0X10 ++ (wX4 w94 u6.1.1 u6.1.2 g0X4 ++ (wX0 (u6.1.1 0) u6.2.1 u6.2.2 g0X0)))))))))) := ⟨X.1.app hK1, hP, hD, hS, X.2.2.2.2⟩
  generalize H1 = H at X ⊢
  generalize locs1 = locs at X ⊢
  refine W.widen (k := 51) (n := 17765) (Nat.le_of_ble_eq_true rfl) (Nat.le_of_ble_eq_true rfl) ?_
  refine va_put (D := D.1) (ci := 11) (v := .ref w94) (ty := tyX11 8) (C := RX11) (T := TX11) (N := 14) hx hb hts wi_X11 tyX11 tyX11_ok nmX11 hown X.1 X.2.1 X.2.2.1 X.2.2.2.1 0 rfl rfl 8 (by decide) (hts _ q2_155) (fun _ h9 => h9) rfl (by decide +kernel) rfl rfl (by rw [List.length_map, List.length_range]; decide) dX11_init_101 (fun H locs hP hD hS => ?_)
  have X : Hx D ([(y1, .byte)] ++ (tX6 u1.2 ++ (tX9 u2.2 ++ ([(yk, (.object "TurningHall$State"))] ++ (tX1 u3.2 ++ (tX3 u4.2 ++ (tX10 u5.2 ++ (tX4 u6.1.2 ++ (tX0 u6.2.2))))))))) A s H locs ([(h, .inr (11, (List.range 14).map (va_up (va_up (va_up (va_up (va_up (va_up (va_up (va_up (va_up (dfl kdX11) 0 (.ref q1)) 1 (.int (0 : Int32))) 2 (.ref w19)) 3 (.ref w30)) 4 (.ref qk)) 5 (.ref w49)) 6 (.ref w68)) 7 (.ref w83)) 8 (.ref w94))))] ++ ([(q1, .inl (y1, 3000, .inl (fun _ => 0)))] ++ (wX6 w19 u1.1 u1.2 gRe ++ (wX9 w30 u2.1 u2.2 g0X9 ++ ([(qk, .inl (yk, 4, .inr (.inr (.inr (.inr (fun _ => none))))))] ++ (wX1 w49 u3.1 u3.2 g0X1 ++ (wX3 w68 u4.1 u4.2 g0X3 ++ (wX10 w83 u5.1 u5.2 g0X10 ++ (wX4 w94 u6.1.1 u6.1.2 g0X4 ++ (wX0 (u6.1.1 0) u6.2.1 u6.2.2 g0X0)))))))))) := Hx_set X obj_set hP hD hS
  refine lv_aload_n hx hb dX11_init_104 rfl (lv_at hl 0 rfl) ?_
  refine lv_null hx hb dX11_init_105 ?_
  refine va_put (D := D.1) (ci := 11) (v := .null) (ty := tyX11 9) (C := RX11) (T := TX11) (N := 14) hx hb hts wi_X11 tyX11 tyX11_ok nmX11 hown X.1 X.2.1 X.2.2.1 X.2.2.2.1 0 rfl rfl 9 (by decide) (hts _ q2_156) (fun _ h9 => h9) rfl (by decide +kernel) rfl rfl (by rw [List.length_map, List.length_range]; decide) dX11_init_106 (fun H locs hP hD hS => ?_)
  have X : Hx D ([(y1, .byte)] ++ (tX6 u1.2 ++ (tX9 u2.2 ++ ([(yk, (.object "TurningHall$State"))] ++ (tX1 u3.2 ++ (tX3 u4.2 ++ (tX10 u5.2 ++ (tX4 u6.1.2 ++ (tX0 u6.2.2))))))))) A s H locs ([(h, .inr (11, (List.range 14).map (va_up (va_up (va_up (va_up (va_up (va_up (va_up (va_up (va_up (va_up (dfl kdX11) 0 (.ref q1)) 1 (.int (0 : Int32))) 2 (.ref w19)) 3 (.ref w30)) 4 (.ref qk)) 5 (.ref w49)) 6 (.ref w68)) 7 (.ref w83)) 8 (.ref w94)) 9 (.null))))] ++ ([(q1, .inl (y1, 3000, .inl (fun _ => 0)))] ++ (wX6 w19 u1.1 u1.2 gRe ++ (wX9 w30 u2.1 u2.2 g0X9 ++ ([(qk, .inl (yk, 4, .inr (.inr (.inr (.inr (fun _ => none))))))] ++ (wX1 w49 u3.1 u3.2 g0X1 ++ (wX3 w68 u4.1 u4.2 g0X3 ++ (wX10 w83 u5.1 u5.2 g0X10 ++ (wX4 w94 u6.1.1 u6.1.2 g0X4 ++ (wX0 (u6.1.1 0) u6.2.1 u6.2.2 g0X0)))))))))) := Hx_set X obj_set hP hD hS
  refine lv_aload_n hx hb dX11_init_109 rfl (lv_at hl 0 rfl) ?_
  refine lv_null hx hb dX11_init_110 ?_
  refine va_put (D := D.1) (ci := 11) (v := .null) (ty := tyX11 10) (C := RX11) (T := TX11) (N := 14) hx hb hts wi_X11 tyX11 tyX11_ok nmX11 hown X.1 X.2.1 X.2.2.1 X.2.2.2.1 0 rfl rfl 10 (by decide) (hts _ q2_157) (fun _ h9 => h9) rfl (by decide +kernel) rfl rfl (by rw [List.length_map, List.length_range]; decide) dX11_init_111 (fun H locs hP hD hS => ?_)
  have X : Hx D ([(y1, .byte)] ++ (tX6 u1.2 ++ (tX9 u2.2 ++ ([(yk, (.object "TurningHall$State"))] ++ (tX1 u3.2 ++ (tX3 u4.2 ++ (tX10 u5.2 ++ (tX4 u6.1.2 ++ (tX0 u6.2.2))))))))) A s H locs ([(h, .inr (11, (List.range 14).map (va_up (va_up (va_up (va_up (va_up (va_up (va_up (va_up (va_up (va_up (va_up (dfl kdX11) 0 (.ref q1)) 1 (.int (0 : Int32))) 2 (.ref w19)) 3 (.ref w30)) 4 (.ref qk)) 5 (.ref w49)) 6 (.ref w68)) 7 (.ref w83)) 8 (.ref w94)) 9 (.null)) 10 (.null))))] ++ ([(q1, .inl (y1, 3000, .inl (fun _ => 0)))] ++ (wX6 w19 u1.1 u1.2 gRe ++ (wX9 w30 u2.1 u2.2 g0X9 ++ ([(qk, .inl (yk, 4, .inr (.inr (.inr (.inr (fun _ => none))))))] ++ (wX1 w49 u3.1 u3.2 g0X1 ++ (wX3 w68 u4.1 u4.2 g0X3 ++ (wX10 w83 u5.1 u5.2 g0X10 ++ (wX4 w94 u6.1.1 u6.1.2 g0X4 ++ (wX0 (u6.1.1 0) u6.2.1 u6.2.2 g0X0)))))))))) := Hx_set X obj_set hP hD hS
  refine lv_aload_n hx hb dX11_init_114 rfl (lv_at hl 0 rfl) ?_
  refine lv_null hx hb dX11_init_115 ?_
  refine va_put (D := D.1) (ci := 11) (v := .null) (ty := tyX11 11) (C := RX11) (T := TX11) (N := 14) hx hb hts wi_X11 tyX11 tyX11_ok nmX11 hown X.1 X.2.1 X.2.2.1 X.2.2.2.1 0 rfl rfl 11 (by decide) (hts _ q2_158) (fun _ h9 => h9) rfl (by decide +kernel) rfl rfl (by rw [List.length_map, List.length_range]; decide) dX11_init_116 (fun H locs hP hD hS => ?_)
  have X : Hx D ([(y1, .byte)] ++ (tX6 u1.2 ++ (tX9 u2.2 ++ ([(yk, (.object "TurningHall$State"))] ++ (tX1 u3.2 ++ (tX3 u4.2 ++ (tX10 u5.2 ++ (tX4 u6.1.2 ++ (tX0 u6.2.2))))))))) A s H locs ([(h, .inr (11, (List.range 14).map (va_up (va_up (va_up (va_up (va_up (va_up (va_up (va_up (va_up (va_up (va_up (va_up (dfl kdX11) 0 (.ref q1)) 1 (.int (0 : Int32))) 2 (.ref w19)) 3 (.ref w30)) 4 (.ref qk)) 5 (.ref w49)) 6 (.ref w68)) 7 (.ref w83)) 8 (.ref w94)) 9 (.null)) 10 (.null)) 11 (.null))))] ++ ([(q1, .inl (y1, 3000, .inl (fun _ => 0)))] ++ (wX6 w19 u1.1 u1.2 gRe ++ (wX9 w30 u2.1 u2.2 g0X9 ++ ([(qk, .inl (yk, 4, .inr (.inr (.inr (.inr (fun _ => none))))))] ++ (wX1 w49 u3.1 u3.2 g0X1 ++ (wX3 w68 u4.1 u4.2 g0X3 ++ (wX10 w83 u5.1 u5.2 g0X10 ++ (wX4 w94 u6.1.1 u6.1.2 g0X4 ++ (wX0 (u6.1.1 0) u6.2.1 u6.2.2 g0X0)))))))))) := Hx_set X obj_set hP hD hS
  refine lv_aload_n hx hb dX11_init_119 rfl (lv_at hl 0 rfl) ?_
  refine lv_iconst (v := (0 : Int32)) hx hb dX11_init_120 (by decide) ?_
  refine va_put (D := D.1) (ci := 11) (v := .int (0 : Int32)) (ty := tyX11 12) (C := RX11) (T := TX11) (N := 14) hx hb hts wi_X11 tyX11 tyX11_ok nmX11 hown X.1 X.2.1 X.2.2.1 X.2.2.2.1 0 rfl rfl 12 (by decide) (hts _ q2_159) (fun _ h9 => h9) rfl (by decide +kernel) rfl rfl (by rw [List.length_map, List.length_range]; decide) dX11_init_121 (fun H locs hP hD hS => ?_)
  have X : Hx D ([(y1, .byte)] ++ (tX6 u1.2 ++ (tX9 u2.2 ++ ([(yk, (.object "TurningHall$State"))] ++ (tX1 u3.2 ++ (tX3 u4.2 ++ (tX10 u5.2 ++ (tX4 u6.1.2 ++ (tX0 u6.2.2))))))))) A s H locs ([(h, .inr (11, (List.range 14).map (va_up (va_up (va_up (va_up (va_up (va_up (va_up (va_up (va_up (va_up (va_up (va_up (va_up (dfl kdX11) 0 (.ref q1)) 1 (.int (0 : Int32))) 2 (.ref w19)) 3 (.ref w30)) 4 (.ref qk)) 5 (.ref w49)) 6 (.ref w68)) 7 (.ref w83)) 8 (.ref w94)) 9 (.null)) 10 (.null)) 11 (.null)) 12 (.int (0 : Int32)))))] ++ ([(q1, .inl (y1, 3000, .inl (fun _ => 0)))] ++ (wX6 w19 u1.1 u1.2 gRe ++ (wX9 w30 u2.1 u2.2 g0X9 ++ ([(qk, .inl (yk, 4, .inr (.inr (.inr (.inr (fun _ => none))))))] ++ (wX1 w49 u3.1 u3.2 g0X1 ++ (wX3 w68 u4.1 u4.2 g0X3 ++ (wX10 w83 u5.1 u5.2 g0X10 ++ (wX4 w94 u6.1.1 u6.1.2 g0X4 ++ (wX0 (u6.1.1 0) u6.2.1 u6.2.2 g0X0)))))))))) := Hx_set X obj_set hP hD hS
  refine lv_aload_n hx hb dX11_init_124 rfl (lv_at hl 0 rfl) ?_
  refine lv_lconst (v := (0 : Int64)) hx hb dX11_init_125 (by decide) ?_
  refine va_put (D := D.1) (ci := 11) (v := .long (0 : Int64)) (ty := tyX11 13) (C := RX11) (T := TX11) (N := 14) hx hb hts wi_X11 tyX11 tyX11_ok nmX11 hown X.1 X.2.1 X.2.2.1 X.2.2.2.1 0 rfl rfl 13 (by decide) (hts _ q2_160) (fun _ h9 => h9) rfl (by decide +kernel) rfl rfl (by rw [List.length_map, List.length_range]; decide) dX11_init_126 (fun H locs hP hD hS => ?_)
  have X : Hx D ([(y1, .byte)] ++ (tX6 u1.2 ++ (tX9 u2.2 ++ ([(yk, (.object "TurningHall$State"))] ++ (tX1 u3.2 ++ (tX3 u4.2 ++ (tX10 u5.2 ++ (tX4 u6.1.2 ++ (tX0 u6.2.2))))))))) A s H locs ([(h, .inr (11, (List.range 14).map (va_up (va_up (va_up (va_up (va_up (va_up (va_up (va_up (va_up (va_up (va_up (va_up (va_up (va_up (dfl kdX11) 0 (.ref q1)) 1 (.int (0 : Int32))) 2 (.ref w19)) 3 (.ref w30)) 4 (.ref qk)) 5 (.ref w49)) 6 (.ref w68)) 7 (.ref w83)) 8 (.ref w94)) 9 (.null)) 10 (.null)) 11 (.null)) 12 (.int (0 : Int32))) 13 (.long (0 : Int64)))))] ++ ([(q1, .inl (y1, 3000, .inl (fun _ => 0)))] ++ (wX6 w19 u1.1 u1.2 gRe ++ (wX9 w30 u2.1 u2.2 g0X9 ++ ([(qk, .inl (yk, 4, .inr (.inr (.inr (.inr (fun _ => none))))))] ++ (wX1 w49 u3.1 u3.2 g0X1 ++ (wX3 w68 u4.1 u4.2 g0X3 ++ (wX10 w83 u5.1 u5.2 g0X10 ++ (wX4 w94 u6.1.1 u6.1.2 g0X4 ++ (wX0 (u6.1.1 0) u6.2.1 u6.2.2 g0X0)))))))))) := Hx_set X obj_set hP hD hS
  refine lv_aload_n hx hb dX11_init_129 rfl (lv_at hl 0 rfl) ?_
  refine va_get (D := D.1) (ci := 11) (v := .ref w30) (C := RX11) (T := TX11) (N := 14) hx hb hts wi_X11 hown X.1 X.2.1 0 rfl rfl 3 (by decide) (hts _ q2_150) (fun _ h9 => h9) (fl_get (by decide)) dX11_init_130 ?_
  refine lv_dconst1 hx hb dX11_init_133 ?_
  refine va_putN (D := D.1) (ci := 9) (v := .double FP.dconst1) (ty := tyX9 15) (C := RX9) (T := TX9) (N := 17) hx hb hts wi_X9 tyX9 tyX9_ok nmX9 hown X.1 X.2.1 X.2.2.1 X.2.2.2.1 4 rfl rfl 15 (by decide) (X.2.2.2.2.2.1.use q1_89 rfl) (fun _ h9 => h9) rfl (by decide +kernel) rfl rfl (by rw [List.length_map, List.length_range]; decide) dX11_init_134 (fun H locs hP hD hS => ?_)
  have X : Hx D ([(y1, .byte)] ++ (tX6 u1.2 ++ (tX9 u2.2 ++ ([(yk, (.object "TurningHall$State"))] ++ (tX1 u3.2 ++ (tX3 u4.2 ++ (tX10 u5.2 ++ (tX4 u6.1.2 ++ (tX0 u6.2.2))))))))) A s H locs ([(h, .inr (11, (List.range 14).map (va_up (va_up (va_up (va_up (va_up (va_up (va_up (va_up (va_up (va_up (va_up (va_up (va_up (va_up (dfl kdX11) 0 (.ref q1)) 1 (.int (0 : Int32))) 2 (.ref w19)) 3 (.ref w30)) 4 (.ref qk)) 5 (.ref w49)) 6 (.ref w68)) 7 (.ref w83)) 8 (.ref w94)) 9 (.null)) 10 (.null)) 11 (.null)) 12 (.int (0 : Int32))) 13 (.long (0 : Int64)))))] ++ ([(q1, .inl (y1, 3000, .inl (fun _ => 0)))] ++ (wX6 w19 u1.1 u1.2 gRe ++ (wX9 w30 u2.1 u2.2 (sD g0X9 15 FP.dconst1) ++ ([(qk, .inl (yk, 4, .inr (.inr (.inr (.inr (fun _ => none))))))] ++ (wX1 w49 u3.1 u3.2 g0X1 ++ (wX3 w68 u4.1 u4.2 g0X3 ++ (wX10 w83 u5.1 u5.2 g0X10 ++ (wX4 w94 u6.1.1 u6.1.2 g0X4 ++ (wX0 (u6.1.1 0) u6.2.1 u6.2.2 g0X0)))))))))) := Hx_set X (set_r (n := 1) (i := 3) (j := 4) (rfl) rfl (set_r (n := 1) (i := 2) (j := 3) (rfl) rfl (set_r (n := 2) (i := 0) (j := 2) (wG_len rfl) rfl (set_l (by rw [wG_len (m := 13) rfl]; decide) (wG_sD (k := 15) rfl))))) hP hD hS
  have e1 : (List.range 14).map (va_up (va_up (va_up (va_up (va_up (va_up (va_up (va_up (va_up (va_up (va_up (va_up (va_up (va_up (dfl kdX11) 0 (.ref q1)) 1 (.int (0 : Int32))) 2 (.ref w19)) 3 (.ref w30)) 4 (.ref qk)) 5 (.ref w49)) 6 (.ref w68)) 7 (.ref w83)) 8 (.ref w94)) 9 (.null)) 10 (.null)) 11 (.null)) 12 (.int (0 : Int32))) 13 (.long (0 : Int64))) = (List.range 14).map (fld kdX11 (fun k => ([q1, 0, w19, w30, qk, w49, w68, w83, w94, 0, 0, 0, 0, 0] : List Nat).getD k 0) (g0X11 w94)) := by rfl
  have e2 : ([] : va_W) = ksX11.map (arF akX11 lnX11 (fun k => ([q1, 0, w19, w30, qk, w49, w68, w83, w94, 0, 0, 0, 0, 0] : List Nat).getD k 0) (fun _ => m.cls) (g0X11 w94)) := by rfl
  have hP9 := X.2.1.sub (ws' := ((h, .inr (11, (List.range 14).map (va_up (va_up (va_up (va_up (va_up (va_up (va_up (va_up (va_up (va_up (va_up (va_up (va_up (va_up (dfl kdX11) 0 (.ref q1)) 1 (.int (0 : Int32))) 2 (.ref w19)) 3 (.ref w30)) 4 (.ref qk)) 5 (.ref w49)) 6 (.ref w68)) 7 (.ref w83)) 8 (.ref w94)) 9 (.null)) 10 (.null)) 11 (.null)) 12 (.int (0 : Int32))) 13 (.long (0 : Int64))))) :: []) ++ ([(q1, .inl (y1, 3000, .inl (fun _ => 0)))] ++ ([(qk, .inl (yk, 4, .inr (.inr (.inr (.inr (fun _ => none))))))] ++ (wX6 w19 u1.1 u1.2 gRe ++ (wX9 w30 u2.1 u2.2 (sD g0X9 15 FP.dconst1) ++ (wX1 w49 u3.1 u3.2 g0X1 ++ (wX3 w68 u4.1 u4.2 g0X3 ++ (wX10 w83 u5.1 u5.2 g0X10 ++ (wX4 w94 u6.1.1 u6.1.2 g0X4 ++ (wX0 (u6.1.1 0) u6.2.1 u6.2.2 g0X0)))))))))) [0, 1, 17, 2, 3, 4, 5, 6, 7, 8, 9, 10, 11, 12, 13, 14, 15, 16, 18, 19, 20, 21, 22, 23, 24, 25, 26, 27, 28, 29, 30, 31, 32, 33, 34, 35, 36, 37, 38, 39, 40, 41, 42, 43, 44, 45, 46, 47, 48, 49, 50, 51] rfl
  have hD9 := X.2.2.1.sub (ws' := ((h, .inr (11, (List.range 14).map (va_up (va_up (va_up (va_up (va_up (va_up (va_up (va_up (va_up (va_up (va_up (va_up (va_up (va_up (dfl kdX11) 0 (.ref q1)) 1 (.int (0 : Int32))) 2 (.ref w19)) 3 (.ref w30)) 4 (.ref qk)) 5 (.ref w49)) 6 (.ref w68)) 7 (.ref w83)) 8 (.ref w94)) 9 (.null)) 10 (.null)) 11 (.null)) 12 (.int (0 : Int32))) 13 (.long (0 : Int64))))) :: []) ++ ([(q1, .inl (y1, 3000, .inl (fun _ => 0)))] ++ ([(qk, .inl (yk, 4, .inr (.inr (.inr (.inr (fun _ => none))))))] ++ (wX6 w19 u1.1 u1.2 gRe ++ (wX9 w30 u2.1 u2.2 (sD g0X9 15 FP.dconst1) ++ (wX1 w49 u3.1 u3.2 g0X1 ++ (wX3 w68 u4.1 u4.2 g0X3 ++ (wX10 w83 u5.1 u5.2 g0X10 ++ (wX4 w94 u6.1.1 u6.1.2 g0X4 ++ (wX0 (u6.1.1 0) u6.2.1 u6.2.2 g0X0)))))))))) [0, 1, 17, 2, 3, 4, 5, 6, 7, 8, 9, 10, 11, 12, 13, 14, 15, 16, 18, 19, 20, 21, 22, 23, 24, 25, 26, 27, 28, 29, 30, 31, 32, 33, 34, 35, 36, 37, 38, 39, 40, 41, 42, 43, 44, 45, 46, 47, 48, 49, 50, 51] (by decide) rfl
  rw [obj_eq (ci := 11) (h := h) e1 e2] at hP9 hD9
  have hK9 := X.1.sub [0, 14, 1, 2, 3, 4, 5, 6, 7, 8, 9, 10, 11, 12, 13, 15, 16, 17, 18, 19, 20, 21, 22, 23, 24, 25, 26, 27, 28, 29, 30, 31, 32, 33, 34, 35, 36, 37, 38, 39, 40, 41, 42, 43] rfl
  exact W.vret hx hb hr (fun t ht hW => ⟨⟨(((fun k => ([q1, 0, w19, w30, qk, w49, w68, w83, w94, 0, 0, 0, 0, 0] : List Nat).getD k 0), (fun _ => m.cls)), (q1, y1), (qk, yk), u1, u2, u3, u4, u5, u6), rfl, ⟨rfl, rfl, hw3.1, hw3.2, hw4⟩, by rw [ht]; exact hP9, va_K.moved hW.alike hK9, hD9⟩, X.2.2.2.1.F ht⟩) X.2.2.2.1.2.2 dX11_init_137 hlk
