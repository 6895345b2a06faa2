theorem q1_25 : Cond.classLink RL 7 RX11 ∈ lw_all := lw_in (tc_1 (List.mem_of_getElem? (i := 25) rfl)) rfl
theorem q1_26 : Cond.instantiable RX11 14 ∈ lw_all := lw_in (tc_1 (List.mem_of_getElem? (i := 26) rfl)) rfl
theorem q1_29 : Cond.code yX11_init cX11_init 1 none ∈ lw_all := lw_in (tc_1 (List.mem_of_getElem? (i := 29) rfl)) rfl
theorem q1_27 : Cond.methodLink RL 9 yX11_init ∈ lw_all := lw_in (tc_1 (List.mem_of_getElem? (i := 27) rfl)) rfl
theorem q1_28 : Cond.instanceMethod yX11_init ∈ lw_all := lw_in (tc_1 (List.mem_of_getElem? (i := 28) rfl)) rfl
theorem q6_161 : Cond.classLink RL 10 RX12 ∈ lw_all := lw_in (tc_6 (List.mem_of_getElem? (i := 161) rfl)) rfl
theorem q6_162 : Cond.instantiable RX12 114 ∈ lw_all := lw_in (tc_6 (List.mem_of_getElem? (i := 162) rfl)) rfl
theorem q6_165 : Cond.code yX12_init cX12_init 1 none ∈ lw_all := lw_in (tc_6 (List.mem_of_getElem? (i := 165) rfl)) rfl
theorem q6_163 : Cond.methodLink RL 12 yX12_init ∈ lw_all := lw_in (tc_6 (List.mem_of_getElem? (i := 163) rfl)) rfl
theorem q6_164 : Cond.instanceMethod yX12_init ∈ lw_all := lw_in (tc_6 (List.mem_of_getElem? (i := 164) rfl)) rfl
theorem PCA_blind {D : Dx} {tys : List (ClassId × FieldType)} {av : List Value} {w : va_W} {sz : Nat} : FrameBlind (PCA D tys av w sz) := by
  intro a U g mk q
  exact ⟨PC_blind a U g mk q.1, va_AO.moved (u := U) (U := U.calling g mk a) (Vm.Alike.refl U.vm) q.2⟩
theorem law_body (Hc_X11_feed : T_c_X11_feed) (Hc_X12_feed : T_c_X12_feed) (Hc_X11_end : T_c_X11_end) (Hc_X12_end : T_c_X12_end) (Hn_X4_init : T_n_X4_init) (Hn_X5_init : T_n_X5_init) (Hk_X11_plan_26 : T_k_X11_plan_26) (Hc_X12_plan : T_c_X12_plan) (Hc_X11_fault : T_c_X11_fault) (Hc_X12_fault_ : T_c_X12_fault_) (Hc_X11_count : T_c_X11_count) (Hc_X12_count : T_c_X12_count) (Hc_X11_thing : T_c_X11_thing) (Hc_X12_thing_ : T_c_X12_thing_) (Hc_X11_letter : T_c_X11_letter) (Hc_X12_letter : T_c_X12_letter) (Hc_X11_value : T_c_X11_value) (Hc_X12_value : T_c_X12_value) (Hc_X11_set : T_c_X11_set) (Hc_X12_set : T_c_X12_set) (Hc_X11_step : T_c_X11_step) (Hc_X12_step : T_c_X12_step) (Hc_X11_tick : T_c_X11_tick) (Hc_X12_tick : T_c_X12_tick) (Hc_X11_strike : T_c_X11_strike) (Hc_X12_strike : T_c_X12_strike) (Hn_X0_init : T_n_X0_init) (Hk_X11_readAsked_27 : T_k_X11_readAsked_27) (Hk_X11_ask_4 : T_k_X11_ask_4) (Hc_X12_ask : T_c_X12_ask) (Hc_X11_told : T_c_X11_told) (Hc_X12_told_ : T_c_X12_told_) (Hk_X11_await_22 : T_k_X11_await_22) (HkL_X11_await : T_kL_X11_await) (Hc_X12_await : T_c_X12_await) (Hc_X11_dial : T_c_X11_dial) (Hc_X12_dial : T_c_X12_dial) (Hc_X11_clock : T_c_X11_clock) (Hc_X12_clock : T_c_X12_clock) (Hc_X11_octet : T_c_X11_octet) (Hc_X12_octet : T_c_X12_octet) (Hc_X11_measure : T_c_X11_measure) (Hc_X12_measure : T_c_X12_measure) (Hc_X11_together : T_c_X11_together) (Hc_X12_together : T_c_X12_together) (Hc_X11_train : T_c_X11_train) (Hc_X12_train : T_c_X12_train) (Hc_X11_wheel : T_c_X11_wheel) (Hc_X12_wheel : T_c_X12_wheel) (Hc_X11_date : T_c_X11_date) (Hc_X12_date : T_c_X12_date) (Hn_X9_init : T_n_X9_init) (Hk_X11_keep_37 : T_k_X11_keep_37) (Hc_X12_keep : T_c_X12_keep) (Hc_X11_back : T_c_X11_back) (Hc_X12_back : T_c_X12_back) (Hn_X11_init : T_n_X11_init) {p : Program} {l : Launch} {e : Env} {s : State} {m : MethodId} {below : List Frame} {meth : Method} {c : Code} {D : Dx} {b L : Nat} {xs : Nat → Int32} {Z : State → Prop} (hL : L ≤ 3072) (C : Cx p s m #[Value.ref b] meth c cL_law ret 4 RL lw_all) (hts : ∀ w ∈ lw_tbl, w.before #[Value.ref b] s = true) (hX : va_X b L xs s s.heap) (hbl : b < s.heap.size) (hAO : va_AO "TurningHall$State" s) (X : Hx D [] (fun q : Nat => s.heap.size ≤ q) s s.heap [] []) (fin : ∀ (H : Heap) (ls : Array Slot), W p l e room_1 s m #[Value.ref b] below meth c H [] 218358 8447176 Z (F0 m 1157 ls [.int 1])) {ls : Array Slot} (hl : lv_has ls 4 [(0, .ref b)]) : W p l e room_1 s m #[Value.ref b] below meth c s.heap [] 0 0 Z (F0 m 0 ls []) := by
  obtain ⟨hx, hb, hr, hml, hown, -, hlk⟩ := id C
  obtain ⟨gRe, hRe, hTb⟩ := f_init6 (n := 2000000) (by omega) g00
  refine va_new (ci := 11) (fs := (List.range 14).map (dfl kdX11)) (C := RX11) (T := TX11) (N := 14) hx hb C.2.2.2.2.2.1 wi_X11 tyX11 tyX11_ok hown (hts _ (lw_all_tbl q1_25)) (hts _ (lw_all_tbl q1_26)) (hts _ (lw_all_tbl q1_1)) X.1 X.2.1 X.2.2.1 X.2.2.2.1 X.2.2.2.2.1 rfl dfX11 (by decide) (by decide) dL_law_0 (fun hT H hP hD hS => ?_)
  have X : Hx D [] (fun q : Nat => s.heap.size ≤ q) s H [] ([(hT, .inr (11, (List.range 14).map (dfl kdX11)))] ++ []) := ⟨X.1, hP, hD, hS, X.2.2.2.2⟩
  refine lv_dup hx hb dL_law_3 rfl ?_
  have hpr := Hx_pre X
  have hFc := Hx_free X
  refine va_callv (va_runI (As := []) (rest := [.ref hT]) ⟨hx, hb, hml, hown, C.2.2.2.2.2.1⟩ (Hn_X11_init l D hT 2000000 gRe hRe _) (cwI 0 C.2.2.2.2.2.1 (good_ws q1_29) rfl rfl rfl (hts _ (lw_all_tbl q1_1)) (hts _ (lw_all_tbl q1_27)) (hts _ (lw_all_tbl q1_28)) rfl (by decide +kernel) ⟨Nat.le_of_ble_eq_true rfl, Nat.le_of_ble_eq_true rfl⟩) ⟨PCA_blind, fun U hU hW => ⟨PC_at (eK X) hpr.1 hpr.2 X.2.2.2.2.2 X.2.2.2.1 hFc U hU hW, va_AO.moved hW.alike hAO⟩⟩ rfl rfl hl.1 rfl (lv_room (Nat.le_of_ble_eq_true rfl)) dL_law_4 ⟨by decide, by decide⟩) X.2.2.2.1 (fun q _ h => hFc q h) hFc (fun u t H locs ht hvm hw hB hz1 hk1 hS => ?_)
  obtain ⟨hP1, hK1, hD1⟩ := hB
  rw [ht] at hP1
  have hK1 := va_K.moved hvm.symm hK1
  have X := Hx_frame X hK1 hP1 hD1 hk1 hS
  obtain ⟨z1, z2, z3, z4, z5⟩ := hw
  refine lv_astore_n (lv' := [(1, .ref hT), (0, .ref b)]) hx hb dL_law_7 rfl hl (by decide) rfl (fun ls hl => ?_)
  refine va_new (ci := 12) (fs := (List.range 114).map (dfl kdX12)) (C := RX12) (T := TX12) (N := 114) hx hb C.2.2.2.2.2.1 wi_X12 tyX12 tyX12_ok hown (hts _ (lw_all_tbl q6_161)) (hts _ (lw_all_tbl q6_162)) (hts _ (lw_all_tbl q1_9)) X.1 X.2.1 X.2.2.1 X.2.2.2.1 X.2.2.2.2.1 rfl dfX12 (by decide) (by decide) dL_law_8 (fun hM H hP hD hS => ?_)
  refine lv_dup hx hb dL_law_11 rfl ?_
  have X : Hx D _ (fun q : Nat => s.heap.size ≤ q) s H locs _ := ⟨X.1, hP, hD, hS, X.2.2.2.2⟩
  have X := Hx_perm X List.perm_append_comm (fun _ h => h)
  have hpr := Hx_pre X
  have hFc := Hx_free X
  refine va_callv (va_runI (As := []) (rest := [.ref hM]) ⟨hx, hb, hml, hown, C.2.2.2.2.2.1⟩ (n_X12_init l D hM _) (cwI 0 C.2.2.2.2.2.1 (good_ws q6_165) rfl rfl rfl (hts _ (lw_all_tbl q1_9)) (hts _ (lw_all_tbl q6_163)) (hts _ (lw_all_tbl q6_164)) rfl (by decide +kernel) ⟨Nat.le_of_ble_eq_true rfl, Nat.le_of_ble_eq_true rfl⟩) ⟨PC_blind, PC_at (eK X) hpr.1 hpr.2 X.2.2.2.2.2 X.2.2.2.1 hFc⟩ rfl rfl hl.1 rfl (lv_room (Nat.le_of_ble_eq_true rfl)) dL_law_12 ⟨by decide, by decide⟩) X.2.2.2.1 (fun q _ h => hFc q h) hFc (fun uM t H locs ht hvm hw hB hz1 hk1 hS => ?_)
  obtain ⟨hP1, hK1, hD1⟩ := hB
  rw [ht] at hP1
  have hK1 := va_K.moved hvm.symm hK1
  have X := Hx_frame X hK1 hP1 hD1 hk1 hS
  refine lv_astore_n (lv' := [(2, .ref hM), (1, .ref hT), (0, .ref b)]) hx hb dL_law_15 rfl hl (by decide) rfl (fun ls hl => ?_)
  refine lv_iconst (v := (0 : Int32)) hx hb dL_law_16 (by decide) ?_
  refine lv_istore_n (lv' := [(3, .int (0 : Int32)), (2, .ref hM), (1, .ref hT), (0, .ref b)]) hx hb dL_law_17 rfl hl (by decide) rfl (fun ls hl => ?_)
  refine W.widen (k := 200 + 36 * 0) (n := 120000 + 10367 * 0) (by decide) (by decide) ?_
  refine law_loop Hc_X11_feed Hc_X12_feed Hc_X11_end Hc_X12_end Hn_X4_init Hn_X5_init Hk_X11_plan_26 Hc_X12_plan Hc_X11_fault Hc_X12_fault_ Hc_X11_count Hc_X12_count Hc_X11_thing Hc_X12_thing_ Hc_X11_letter Hc_X12_letter Hc_X11_value Hc_X12_value Hc_X11_set Hc_X12_set Hc_X11_step Hc_X12_step Hc_X11_tick Hc_X12_tick Hc_X11_strike Hc_X12_strike Hn_X0_init Hk_X11_readAsked_27 Hk_X11_ask_4 Hc_X12_ask Hc_X11_told Hc_X12_told_ Hk_X11_await_22 HkL_X11_await Hc_X12_await Hc_X11_dial Hc_X12_dial Hc_X11_clock Hc_X12_clock Hc_X11_octet Hc_X12_octet Hc_X11_measure Hc_X12_measure Hc_X11_together Hc_X12_together Hc_X11_train Hc_X12_train Hc_X11_wheel Hc_X12_wheel Hc_X11_date Hc_X12_date Hn_X9_init Hk_X11_keep_37 Hc_X12_keep Hc_X11_back Hc_X12_back hL C hts hX hbl fin 513 0 rfl H locs ⟨u.1.1, u.1.2, (fun _ => 0), (fun _ => u.2.1.2), u.2.2.2.1.1, u.2.2.2.1.2, u.2.2.2.2.1.1, u.2.2.2.2.1.2, (fun _ => 0), (fun _ => u.2.2.1.2), u.2.2.2.2.2.1.1, u.2.2.2.2.2.1.2, u.2.2.2.2.2.2.1.1, u.2.2.2.2.2.2.1.2, u.2.2.2.2.2.2.2.1.1, u.2.2.2.2.2.2.2.1.2, (u.1.1 8), u.2.2.2.2.2.2.2.2.1.1, u.2.2.2.2.2.2.2.2.1.2, u.2.2.2.2.2.2.2.2.2.1, u.2.2.2.2.2.2.2.2.2.2, (g0X11 (u.1.1 8)), g00, gRe, (sD g0X9 15 FP.dconst1), g00, g0X1, g0X3, g0X10, g0X4, g0X0, none, none, none, none, none, none, none, (fun _ => none), uM.1, uM.2, g0X12, _, Hx_perm X ?_ (fun _ h => h), ?_, wr_start hTb, rfl, rfl, rfl, ⟨rfl, rfl⟩, ⟨rfl, rfl⟩, ⟨rfl, rfl⟩, ⟨rfl, rfl⟩⟩ ls (lv_sub hl [3, 2, 1, 0] rfl) (by omega)
  · rw [va_up_eq z3, va_up_eq z4, va_up_eq z5, z1, z2]
    refine perm_cnt (fun c hc => ?_)
    simp only [oW_none, hc, cnt_nil hc]
    all_goals omega
  · intro q hq
    simp only [oT_none, List.mem_append, List.append_nil] at hq ⊢
    (repeat' (refine Or.elim hq ?_ ?_ <;> intro hq)) <;> first | (simp [hq]; done) | cases hq
