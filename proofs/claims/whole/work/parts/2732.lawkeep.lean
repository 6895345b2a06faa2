theorem q6_149 : Cond.methodLink RL 120 yX11_keep ∈ lw_all := lw_in (tc_6 (List.mem_of_getElem? (i := 149) rfl)) rfl
theorem q6_150 : Cond.instanceMethod yX11_keep ∈ lw_all := lw_in (tc_6 (List.mem_of_getElem? (i := 150) rfl)) rfl
theorem q6_151 : Cond.selects RX11 yX11_keep yX11_keep ∈ lw_all := lw_in (tc_6 (List.mem_of_getElem? (i := 151) rfl)) rfl
theorem q6_152 : Cond.code yX11_keep cX11_keep 3 (some .boolean) ∈ lw_all := lw_in (tc_6 (List.mem_of_getElem? (i := 152) rfl)) rfl
theorem q10_39 : Cond.methodLink RL 124 yX12_keep ∈ lw_all := lw_in (tc_10 (List.mem_of_getElem? (i := 39) rfl)) rfl
theorem q10_40 : Cond.instanceMethod yX12_keep ∈ lw_all := lw_in (tc_10 (List.mem_of_getElem? (i := 40) rfl)) rfl
theorem q10_41 : Cond.selects RX12 yX12_keep yX12_keep ∈ lw_all := lw_in (tc_10 (List.mem_of_getElem? (i := 41) rfl)) rfl
theorem q10_42 : Cond.code yX12_keep cX12_keep 2 (some .boolean) ∈ lw_all := lw_in (tc_10 (List.mem_of_getElem? (i := 42) rfl)) rfl
theorem pm_2732_0 (B_11 B_0 B_4 B_2 B_3 B_5 B_6 B_7 B_8 B_80 B_sp B_ak B_rd B_k0 B_k1 B_k2 B_k3 B_M : va_W) : ((B_11 ++ (B_0 ++ (B_4 ++ (B_2 ++ (B_3 ++ (B_5 ++ (B_6 ++ (B_7 ++ (B_8 ++ (B_80 ++ (B_sp ++ (B_ak ++ (B_rd ++ (B_k0 ++ (B_k1 ++ (B_k2 ++ (B_k3 ++ (B_M))))))))))))))))))).Perm ((B_11) ++ (B_0 ++ (B_4 ++ (B_2 ++ (B_3 ++ (B_5 ++ (B_6 ++ (B_7 ++ (B_8 ++ (B_80 ++ (B_sp ++ (B_ak ++ (B_rd ++ (B_k0 ++ (B_k1 ++ (B_k2 ++ (B_k3 ++ (B_M)))))))))))))))))) := by
  refine perm_cnt (fun c hc => ?_)
  simp only [hc]
  all_goals omega
theorem pm_2732_1 (B_11 B_0 B_4 B_2 B_3 B_5 B_6 B_7 B_8 B_80 B_sp B_ak B_rd B_k0 B_k1 B_k2 B_k3 B_M : va_W) : ((B_11) ++ (B_0 ++ (B_4 ++ (B_2 ++ (B_3 ++ (B_5 ++ (B_6 ++ (B_7 ++ (B_8 ++ (B_80 ++ (B_sp ++ (B_ak ++ (B_rd ++ (B_k0 ++ (B_k1 ++ (B_k2 ++ (B_k3 ++ (B_M)))))))))))))))))).Perm ((B_M) ++ (B_11 ++ (B_0 ++ (B_4 ++ (B_2 ++ (B_3 ++ (B_5 ++ (B_6 ++ (B_7 ++ (B_8 ++ (B_80 ++ (B_sp ++ (B_ak ++ (B_rd ++ (B_k0 ++ (B_k1 ++ (B_k2 ++ (B_k3)))))))))))))))))) := by
  refine perm_cnt (fun c hc => ?_)
  simp only [hc]
  all_goals omega
theorem pm_2732_2 (B_11 B_0 B_4 B_2 B_3 B_5 B_6 B_7 B_8 B_80 B_sp B_ak B_rd B_k0 B_k1 B_k2 B_k3 B_M : va_W) : ((B_M) ++ (B_11 ++ (B_0 ++ (B_4 ++ (B_2 ++ (B_3 ++ (B_5 ++ (B_6 ++ (B_7 ++ (B_8 ++ (B_80 ++ (B_sp ++ (B_ak ++ (B_rd ++ (B_k0 ++ (B_k1 ++ (B_k2 ++ (B_k3)))))))))))))))))).Perm ((B_11 ++ (B_0 ++ (B_4 ++ (B_2 ++ (B_3 ++ (B_5 ++ (B_6 ++ (B_7 ++ (B_8 ++ (B_80 ++ (B_sp ++ (B_ak ++ (B_rd ++ (B_k0 ++ (B_k1 ++ (B_k2 ++ (B_k3 ++ (B_M))))))))))))))))))) := by
  refine perm_cnt (fun c hc => ?_)
  simp only [hc]
  all_goals omega
theorem pm_2732_3 (B_11 B_0 B_4 B_2 B_3 B_5 B_6 B_7 B_8 B_80 B_sp B_ak B_rd B_k0 B_k1 B_k2 B_k3 B_M : va_W) : ((B_11 ++ (B_0 ++ (B_4 ++ (B_2 ++ (B_3 ++ (B_5 ++ (B_6 ++ (B_7 ++ (B_8 ++ (B_80 ++ (B_sp ++ (B_ak ++ (B_rd ++ (B_k0 ++ (B_k1 ++ (B_k2 ++ (B_k3 ++ (B_M))))))))))))))))))).Perm ((B_11 ++ (B_3 ++ (B_4 ++ (B_k0)))) ++ (B_0 ++ (B_2 ++ (B_5 ++ (B_6 ++ (B_7 ++ (B_8 ++ (B_80 ++ (B_sp ++ (B_ak ++ (B_rd ++ (B_k1 ++ (B_k2 ++ (B_k3 ++ (B_M))))))))))))))) := by
  refine perm_cnt (fun c hc => ?_)
  simp only [hc]
  all_goals omega
theorem pm_2732_4 (B_11 B_0 B_4 B_2 B_3 B_5 B_6 B_7 B_8 B_80 B_sp B_ak B_rd B_k0 B_k1 B_k2 B_k3 B_M : va_W) : ((B_11 ++ (B_3 ++ (B_4 ++ (B_k0)))) ++ (B_0 ++ (B_2 ++ (B_5 ++ (B_6 ++ (B_7 ++ (B_8 ++ (B_80 ++ (B_sp ++ (B_ak ++ (B_rd ++ (B_k1 ++ (B_k2 ++ (B_k3 ++ (B_M))))))))))))))).Perm ((B_M) ++ (B_11 ++ (B_0 ++ (B_4 ++ (B_2 ++ (B_3 ++ (B_5 ++ (B_6 ++ (B_7 ++ (B_8 ++ (B_80 ++ (B_sp ++ (B_ak ++ (B_rd ++ (B_k0 ++ (B_k1 ++ (B_k2 ++ (B_k3)))))))))))))))))) := by
  refine perm_cnt (fun c hc => ?_)
  simp only [hc]
  all_goals omega
theorem pm_2732_5 (B_11 B_0 B_4 B_2 B_3 B_5 B_6 B_7 B_8 B_80 B_sp B_ak B_rd B_k0 B_k1 B_k2 B_k3 B_M : va_W) : ((B_11 ++ (B_0 ++ (B_4 ++ (B_2 ++ (B_3 ++ (B_5 ++ (B_6 ++ (B_7 ++ (B_8 ++ (B_80 ++ (B_sp ++ (B_ak ++ (B_rd ++ (B_k0 ++ (B_k1 ++ (B_k2 ++ (B_k3 ++ (B_M))))))))))))))))))).Perm ((B_11 ++ (B_3 ++ (B_4 ++ (B_k1)))) ++ (B_0 ++ (B_2 ++ (B_5 ++ (B_6 ++ (B_7 ++ (B_8 ++ (B_80 ++ (B_sp ++ (B_ak ++ (B_rd ++ (B_k0 ++ (B_k2 ++ (B_k3 ++ (B_M))))))))))))))) := by
  refine perm_cnt (fun c hc => ?_)
  simp only [hc]
  all_goals omega
theorem pm_2732_6 (B_11 B_0 B_4 B_2 B_3 B_5 B_6 B_7 B_8 B_80 B_sp B_ak B_rd B_k0 B_k1 B_k2 B_k3 B_M : va_W) : ((B_11 ++ (B_3 ++ (B_4 ++ (B_k1)))) ++ (B_0 ++ (B_2 ++ (B_5 ++ (B_6 ++ (B_7 ++ (B_8 ++ (B_80 ++ (B_sp ++ (B_ak ++ (B_rd ++ (B_k0 ++ (B_k2 ++ (B_k3 ++ (B_M))))))))))))))).Perm ((B_M) ++ (B_11 ++ (B_0 ++ (B_4 ++ (B_2 ++ (B_3 ++ (B_5 ++ (B_6 ++ (B_7 ++ (B_8 ++ (B_80 ++ (B_sp ++ (B_ak ++ (B_rd ++ (B_k0 ++ (B_k1 ++ (B_k2 ++ (B_k3)))))))))))))))))) := by
  refine perm_cnt (fun c hc => ?_)
  simp only [hc]
  all_goals omega
theorem pm_2732_7 (B_11 B_0 B_4 B_2 B_3 B_5 B_6 B_7 B_8 B_80 B_sp B_ak B_rd B_k0 B_k1 B_k2 B_k3 B_M : va_W) : ((B_11 ++ (B_0 ++ (B_4 ++ (B_2 ++ (B_3 ++ (B_5 ++ (B_6 ++ (B_7 ++ (B_8 ++ (B_80 ++ (B_sp ++ (B_ak ++ (B_rd ++ (B_k0 ++ (B_k1 ++ (B_k2 ++ (B_k3 ++ (B_M))))))))))))))))))).Perm ((B_11 ++ (B_3 ++ (B_4 ++ (B_k2)))) ++ (B_0 ++ (B_2 ++ (B_5 ++ (B_6 ++ (B_7 ++ (B_8 ++ (B_80 ++ (B_sp ++ (B_ak ++ (B_rd ++ (B_k0 ++ (B_k1 ++ (B_k3 ++ (B_M))))))))))))))) := by
  refine perm_cnt (fun c hc => ?_)
  simp only [hc]
  all_goals omega
theorem pm_2732_8 (B_11 B_0 B_4 B_2 B_3 B_5 B_6 B_7 B_8 B_80 B_sp B_ak B_rd B_k0 B_k1 B_k2 B_k3 B_M : va_W) : ((B_11 ++ (B_3 ++ (B_4 ++ (B_k2)))) ++ (B_0 ++ (B_2 ++ (B_5 ++ (B_6 ++ (B_7 ++ (B_8 ++ (B_80 ++ (B_sp ++ (B_ak ++ (B_rd ++ (B_k0 ++ (B_k1 ++ (B_k3 ++ (B_M))))))))))))))).Perm ((B_M) ++ (B_11 ++ (B_0 ++ (B_4 ++ (B_2 ++ (B_3 ++ (B_5 ++ (B_6 ++ (B_7 ++ (B_8 ++ (B_80 ++ (B_sp ++ (B_ak ++ (B_rd ++ (B_k0 ++ (B_k1 ++ (B_k2 ++ (B_k3)))))))))))))))))) := by
  refine perm_cnt (fun c hc => ?_)
  simp only [hc]
  all_goals omega
theorem pm_2732_9 (B_11 B_0 B_4 B_2 B_3 B_5 B_6 B_7 B_8 B_80 B_sp B_ak B_rd B_k0 B_k1 B_k2 B_k3 B_M : va_W) : ((B_11 ++ (B_0 ++ (B_4 ++ (B_2 ++ (B_3 ++ (B_5 ++ (B_6 ++ (B_7 ++ (B_8 ++ (B_80 ++ (B_sp ++ (B_ak ++ (B_rd ++ (B_k0 ++ (B_k1 ++ (B_k2 ++ (B_k3 ++ (B_M))))))))))))))))))).Perm ((B_11 ++ (B_3 ++ (B_4 ++ (B_k3)))) ++ (B_0 ++ (B_2 ++ (B_5 ++ (B_6 ++ (B_7 ++ (B_8 ++ (B_80 ++ (B_sp ++ (B_ak ++ (B_rd ++ (B_k0 ++ (B_k1 ++ (B_k2 ++ (B_M))))))))))))))) := by
  refine perm_cnt (fun c hc => ?_)
  simp only [hc]
  all_goals omega
theorem pm_2732_10 (B_11 B_0 B_4 B_2 B_3 B_5 B_6 B_7 B_8 B_80 B_sp B_ak B_rd B_k0 B_k1 B_k2 B_k3 B_M : va_W) : ((B_11 ++ (B_3 ++ (B_4 ++ (B_k3)))) ++ (B_0 ++ (B_2 ++ (B_5 ++ (B_6 ++ (B_7 ++ (B_8 ++ (B_80 ++ (B_sp ++ (B_ak ++ (B_rd ++ (B_k0 ++ (B_k1 ++ (B_k2 ++ (B_M))))))))))))))).Perm ((B_M) ++ (B_11 ++ (B_0 ++ (B_4 ++ (B_2 ++ (B_3 ++ (B_5 ++ (B_6 ++ (B_7 ++ (B_8 ++ (B_80 ++ (B_sp ++ (B_ak ++ (B_rd ++ (B_k0 ++ (B_k1 ++ (B_k2 ++ (B_k3)))))))))))))))))) := by
  refine perm_cnt (fun c hc => ?_)
  simp only [hc]
  all_goals omega
theorem gRs_self {g : Gs} {k : Nat} {v : Option Nat} : gR (sR g k v) k = v := by
  rw [gR_sR]; exact va_up_self _ _ _
theorem gRs_ne {g : Gs} {j k : Nat} {v : Option Nat} (h : j ≠ k) : gR (sR g k v) j = gR g j := by
  rw [gR_sR]; exact va_up_ne _ _ h
theorem nI_of4 {x : Int32} (h1 : ¬ x < 0) (h2 : x < (4 : Int32)) : ∃ p : Nat, p < 4 ∧ x = nI p := by
  obtain ⟨j, hj, rfl⟩ := nI_of h1
  exact ⟨j, (nI_ltI hj (by decide)).mp (show nI j < nI 4 from h2), rfl⟩

theorem cs_23 (n9 : T_n_X9_init) (k37 : T_k_X11_keep_37) (hm : T_c_X12_keep) {p : Program} {l : Launch} {e : Env} {s : State} {m : MethodId} {below : List Frame} {meth : Method} {c : Code} {D : Dx} {b L : Nat} {xs : Nat → Int32} {Z : State → Prop} (hL : L ≤ 3072) (C : Cx p s m #[Value.ref b] meth c cL_law ret 4 RL lw_all) (hts : ∀ w ∈ lw_tbl, w.before #[Value.ref b] s = true) (hX : va_X b L xs s s.heap) (hbl : b < s.heap.size) {hT hM N i : Nat} (hN : N < 512) (hi : i + 5 < L) {H : Heap} {locs : List Loc} (hI : LI D (fun q : Nat => s.heap.size ≤ q) s hT hM N H locs) {ls : Array Slot} {iv : Int32} (hiv : iv = nI i) (hl : lv_has ls 4 [(0, .ref b), (1, .ref hT), (2, .ref hM), (3, .int iv)]) (cont : ∀ (H1 : Heap) (locs1 : List Loc), LI D (fun q : Nat => s.heap.size ≤ q) s hT hM (N + 1) H1 locs1 → W p l e room_1 s m #[Value.ref b] below meth c H1 locs1 (200 + 36 * (N + 1)) (120000 + 10367 * (N + 1)) Z (F0 m 1150 ls [])) : W p l e room_1 s m #[Value.ref b] below meth c H locs (200 + 36 * N) (120000 + 10367 * N) Z (F0 m 1104 ls []) := by
  obtain ⟨hx, hb, hr, hml, hown, -, hlk⟩ := id C
  have hbA : ¬ (fun q : Nat => s.heap.size ≤ q) b := Nat.not_le.mpr hbl
  have hin0 : vp_in iv L := by rw [hiv]; exact vp_in_nI (by omega) (by omega)
  have hin : ∀ k : Nat, k ≤ 5 → vp_in (iv + nI k) L := fun k hk => vp_in_add hiv (by omega) hL
  obtain ⟨aT, yT, aT_0, yT_0, aT_2, yT_2, aT_3, yT_3, aT_4, yT_4, aT_5, yT_5, aT_6, yT_6, aT_7, yT_7, hT_8, aT_8, yT_8, aT_8_0, yT_8_0, gT, gT_0, gT_2, gT_3, gT_4, gT_5, gT_6, gT_7, gT_8, gT_8_0, sp, ak, rd, k0, k1, k2, k3, kk, aM, yM, gM, tys, X, hty, hw, h9, h10, h11, hk0, hk1, hk2, hk3⟩ := hI
  have hn : 2000000 ≤ 2000000 := Nat.le_refl _
  refine lv_aload_n hx hb dL_law_1104 rfl (lv_at hl 1 rfl) ?_
  refine lv_aload_n hx hb dL_law_1105 rfl (lv_at hl 0 rfl) ?_
  refine lv_iload_n hx hb dL_law_1106 rfl (lv_at hl 3 rfl) ?_
  refine lv_iconst (v := (1 : Int32)) hx hb dL_law_1107 (by decide) ?_
  refine lv_iadd hx hb dL_law_1108 ?_
  refine va_sld hx hb hX hbl hbA X.2.2.2.1 (hin 1 (by decide)) dL_law_1109 ?_
  by_cases hbad : (xs (iv + (1 : Int32)).toNatClampNeg) < 0 ∨ ¬ (xs (iv + (1 : Int32)).toNatClampNeg) < (4 : Int32)
  · have hb9 : (xs (iv + (1 : Int32)).toNatClampNeg) < 0 ∨ nI 4 ≤ (xs (iv + (1 : Int32)).toNatClampNeg) := hbad.imp id (fun h => Int32.not_lt.mp h)
    have f2 : f_X12_keep 2000000 gM (xs (iv + (1 : Int32)).toNatClampNeg) = some ((0 : Int32), gM) := (st_out hw rfl hb9 0 gT gT).1
    have X : Hx D tys (fun q : Nat => s.heap.size ≤ q) s H locs ((wX11 hT aT yT gT) ++ (wTP (aT 0) aT_0 yT_0 gT_0 ++ (wKP (aT 4) aT_4 yT_4 gT_4 ++ (wX6 (aT 2) aT_2 yT_2 gT_2 ++ (wX9 (aT 3) aT_3 yT_3 gT_3 ++ (wX1 (aT 5) (va_up (va_up aT_5 0 (aT 2)) 1 (aT 3)) yT_5 gT_5 ++ (wX3 (aT 6) (va_up aT_6 0 (aT 2)) yT_6 gT_6 ++ (wX10 (aT 7) aT_7 yT_7 gT_7 ++ (wX4 hT_8 aT_8 yT_8 gT_8 ++ (wX0 (aT_8 0) aT_8_0 yT_8_0 gT_8_0 ++ (oW wPl sp ++ (oW wCo ak ++ (oW (wRd (aT 0) (aT 2)) rd ++ (oW wSt k0 ++ (oW wSt k1 ++ (oW wSt k2 ++ (oW wSt k3 ++ (wX12 hM aM yM gM)))))))))))))))))) := Hx_perm X (pm_2732_0 _ _ _ _ _ _ _ _ _ _ _ _ _ _ _ _ _ _) (fun _ h => h)
    refine hc_i (As := [.int (xs (iv + (1 : Int32)).toNatClampNeg)]) (rest := []) C X (g_X11_keep_bad l D hT aT yT gT (xs (iv + (1 : Int32)).toNatClampNeg) hbad _) (cwV 1 C.2.2.2.2.2.1 (good_V q6_149 q6_150 q6_151 q1_1 q6_152) rfl rfl rfl (by decide +kernel) ⟨Nat.le_of_ble_eq_true rfl, Nat.le_of_ble_eq_true rfl⟩) (va_recv X.1 X.2.1 (ci := 11) (q0 := 0) rfl rfl) (fun q hq => hty q (by
    simp only [List.mem_append] at hq ⊢
    (repeat' (refine Or.elim hq ?_ ?_ <;> intro hq)) <;> simp [hq])) hl.1 rfl rfl (Nat.le_of_ble_eq_true rfl) dL_law_1110 ⟨by show _ ≤ 218358; omega, by show _ ≤ 8447176; omega⟩ (fun H locs X => ?_)
    refine lv_aload_n hx hb dL_law_1113 rfl (lv_at hl 2 rfl) ?_
    refine lv_aload_n hx hb dL_law_1114 rfl (lv_at hl 0 rfl) ?_
    refine lv_iload_n hx hb dL_law_1115 rfl (lv_at hl 3 rfl) ?_
    refine lv_iconst (v := (1 : Int32)) hx hb dL_law_1116 (by decide) ?_
    refine lv_iadd hx hb dL_law_1117 ?_
    refine va_sld hx hb hX hbl hbA X.2.2.2.1 (hin 1 (by decide)) dL_law_1118 ?_
    have X : Hx D _ (fun q : Nat => s.heap.size ≤ q) s H locs ((wX12 hM aM yM gM) ++ (wX11 hT aT yT gT ++ (wTP (aT 0) aT_0 yT_0 gT_0 ++ (wKP (aT 4) aT_4 yT_4 gT_4 ++ (wX6 (aT 2) aT_2 yT_2 gT_2 ++ (wX9 (aT 3) aT_3 yT_3 gT_3 ++ (wX1 (aT 5) (va_up (va_up aT_5 0 (aT 2)) 1 (aT 3)) yT_5 gT_5 ++ (wX3 (aT 6) (va_up aT_6 0 (aT 2)) yT_6 gT_6 ++ (wX10 (aT 7) aT_7 yT_7 gT_7 ++ (wX4 hT_8 aT_8 yT_8 gT_8 ++ (wX0 (aT_8 0) aT_8_0 yT_8_0 gT_8_0 ++ (oW wPl sp ++ (oW wCo ak ++ (oW (wRd (aT 0) (aT 2)) rd ++ (oW wSt k0 ++ (oW wSt k1 ++ (oW wSt k2 ++ (oW wSt k3)))))))))))))))))) := Hx_perm X (pm_2732_1 _ _ _ _ _ _ _ _ _ _ _ _ _ _ _ _ _ _) (fun _ h => h)
    refine hc_i (As := [.int (xs (iv + (1 : Int32)).toNatClampNeg)]) (rest := [.int (0 : Int32)]) C X (hm l D hM aM yM 2000000 gM (xs (iv + (1 : Int32)).toNatClampNeg) ((0 : Int32), gM) f2 _) (cwV 1 C.2.2.2.2.2.1 (good_V q10_39 q10_40 q10_41 q1_9 q10_42) rfl rfl rfl (by decide +kernel) ⟨Nat.le_of_ble_eq_true rfl, Nat.le_of_ble_eq_true rfl⟩) (va_recv X.1 X.2.1 (ci := 12) (q0 := 0) rfl rfl) (fun q hq => hty q (by
    simp only [List.mem_append] at hq ⊢
    (repeat' (refine Or.elim hq ?_ ?_ <;> intro hq)) <;> simp [hq])) hl.1 rfl rfl (Nat.le_of_ble_eq_true rfl) dL_law_1119 ⟨by show _ ≤ 218358; omega, by show _ ≤ 8447176; omega⟩ (fun H locs X => ?_)
    refine lv_icmp_eq (tgt := 1150) hx hb dL_law_1122 (by decide) (fun _ => ?_) (fun c => absurd rfl c)
    refine W.widen (k := (200 + 36 * (N + 1))) (n := (120000 + 10367 * (N + 1))) (by omega) (by omega) ?_
    have X : Hx D _ (fun q : Nat => s.heap.size ≤ q) s H locs (wX11 hT aT yT gT ++ (wTP (aT 0) aT_0 yT_0 gT_0 ++ (wKP (aT 4) aT_4 yT_4 gT_4 ++ (wX6 (aT 2) aT_2 yT_2 gT_2 ++ (wX9 (aT 3) aT_3 yT_3 gT_3 ++ (wX1 (aT 5) (va_up (va_up aT_5 0 (aT 2)) 1 (aT 3)) yT_5 gT_5 ++ (wX3 (aT 6) (va_up aT_6 0 (aT 2)) yT_6 gT_6 ++ (wX10 (aT 7) aT_7 yT_7 gT_7 ++ (wX4 hT_8 aT_8 yT_8 gT_8 ++ (wX0 (aT_8 0) aT_8_0 yT_8_0 gT_8_0 ++ (oW wPl sp ++ (oW wCo ak ++ (oW (wRd (aT 0) (aT 2)) rd ++ (oW wSt k0 ++ (oW wSt k1 ++ (oW wSt k2 ++ (oW wSt k3 ++ (wX12 hM aM yM gM)))))))))))))))))) := Hx_perm X (pm_2732_2 _ _ _ _ _ _ _ _ _ _ _ _ _ _ _ _ _ _) (fun _ h => h)
    exact cont H locs ⟨aT, yT, aT_0, yT_0, aT_2, yT_2, aT_3, yT_3, aT_4, yT_4, aT_5, yT_5, aT_6, yT_6, aT_7, yT_7, hT_8, aT_8, yT_8, aT_8_0, yT_8_0, gT, gT_0, gT_2, gT_3, gT_4, gT_5, gT_6, gT_7, gT_8, gT_8_0, sp, ak, rd, k0, k1, k2, k3, kk, aM, yM, gM, _, X, hty, hw.idle, h9, h10, h11, hk0, hk1, hk2, hk3⟩
  · have c1 : ¬ (xs (iv + (1 : Int32)).toNatClampNeg) < 0 := fun h => hbad (Or.inl h)
    have c2 : (xs (iv + (1 : Int32)).toNatClampNeg) < (4 : Int32) := Decidable.byContradiction (fun h => hbad (Or.inr h))
    obtain ⟨p, hp, hxp⟩ := nI_of4 c1 c2
    rw [hxp]
    clear hbad c1 c2
    match p, hp, hxp with
    | 0, _, hxp =>
      have ec : (nI 0).toNatClampNeg = 0 := nI_clamp (by decide)
      have hix : vp_in (nI 0) 4 := vp_in_nI (by decide) (by decide)
      have c1 : ¬ nI 0 < 0 := by decide
      have c2 : nI 0 < (4 : Int32) := by decide
      have X : Hx D tys (fun q : Nat => s.heap.size ≤ q) s H locs ((wX11 hT aT yT gT ++ (wX9 (aT 3) aT_3 yT_3 gT_3 ++ (wKP (aT 4) aT_4 yT_4 gT_4 ++ (oW wSt k0)))) ++ (wTP (aT 0) aT_0 yT_0 gT_0 ++ (wX6 (aT 2) aT_2 yT_2 gT_2 ++ (wX1 (aT 5) (va_up (va_up aT_5 0 (aT 2)) 1 (aT 3)) yT_5 gT_5 ++ (wX3 (aT 6) (va_up aT_6 0 (aT 2)) yT_6 gT_6 ++ (wX10 (aT 7) aT_7 yT_7 gT_7 ++ (wX4 hT_8 aT_8 yT_8 gT_8 ++ (wX0 (aT_8 0) aT_8_0 yT_8_0 gT_8_0 ++ (oW wPl sp ++ (oW wCo ak ++ (oW (wRd (aT 0) (aT 2)) rd ++ (oW wSt k1 ++ (oW wSt k2 ++ (oW wSt k3 ++ (wX12 hM aM yM gM))))))))))))))) := Hx_perm X (pm_2732_3 _ _ _ _ _ _ _ _ _ _ _ _ _ _ _ _ _ _) (fun _ h => h)
      have hF : ∀ u, StOf k0 u → ∃ q, f_X11_keep u.1 gT gT_3 (sR gT_4 (nI 0).toNatClampNeg (some u.1)) u.2.2 (nI 0) = some q ∧ (fun (u : COT) (q : Int32 × Gs) => q.1 = 1 ∧ ∃ g', f_X12_keep 2000000 gM (nI 0) = some ((1 : Int32), g') ∧ WR (N + 1) hT_8 g' gT gT_0 gT_2 gT_3 gT_6 gT_7 gT_8 gT_8_0 (fun j => if j = 0 then some q.2 else kk j)) u q := by
            intro u _
            obtain ⟨g', gk', f2, f1, _, hwr⟩ := st_keep (h9 := u.1) (gK := sR gT_4 (nI 0).toNatClampNeg (some u.1)) (gk := u.2.2) hn (by omega) hw (p := 0) (by decide) (by rw [ec]; exact gRs_self)
            exact ⟨_, f1, rfl, g', f2, hwr⟩
      refine hc_x (As := [.int (nI 0)]) (rest := []) C X (g_X11_keep n9 k37 l D hT aT yT aT_3 yT_3 aT_4 yT_4 gT gT_3 gT_4 (nI 0) c1 c2 hix k0 (by rw [ec]; exact hk0.1) _ hF _) (cwV 1 C.2.2.2.2.2.1 (good_V q6_149 q6_150 q6_151 q1_1 q6_152) rfl rfl rfl (by decide +kernel) ⟨Nat.le_of_ble_eq_true rfl, Nat.le_of_ble_eq_true rfl⟩) (va_recv X.1 X.2.1 (ci := 11) (q0 := 0) rfl rfl) (fun q hq => hty q (by
            simp only [List.mem_append] at hq ⊢
            (repeat' (refine Or.elim hq ?_ ?_ <;> intro hq)) <;> simp [hq])) hl.1 rfl rfl (Nat.le_of_ble_eq_true rfl) dL_law_1110 ⟨by show _ ≤ 218358; omega, by show _ ≤ 8447176; omega⟩ (fun v u H locs hpost X => ?_)
      obtain ⟨u, q⟩ := u
      obtain ⟨hv, hq1, g', f2, hwr⟩ := hpost
      dsimp only at hv hq1 f2 hwr
      rw [hq1] at hv
      subst hv
      rw [ec] at X
      refine lv_aload_n hx hb dL_law_1113 rfl (lv_at hl 2 rfl) ?_
      refine lv_aload_n hx hb dL_law_1114 rfl (lv_at hl 0 rfl) ?_
      refine lv_iload_n hx hb dL_law_1115 rfl (lv_at hl 3 rfl) ?_
      refine lv_iconst (v := (1 : Int32)) hx hb dL_law_1116 (by decide) ?_
      refine lv_iadd hx hb dL_law_1117 ?_
      refine va_sld hx hb hX hbl hbA X.2.2.2.1 (hin 1 (by decide)) dL_law_1118 ?_
      rw [hxp]
      have X : Hx D _ (fun q : Nat => s.heap.size ≤ q) s H locs ((wX12 hM aM yM gM) ++ (wX11 hT aT yT gT ++ (wTP (aT 0) aT_0 yT_0 gT_0 ++ (wKP (aT 4) aT_4 yT_4 (sR gT_4 0 (some u.1)) ++ (wX6 (aT 2) aT_2 yT_2 gT_2 ++ (wX9 (aT 3) aT_3 yT_3 gT_3 ++ (wX1 (aT 5) (va_up (va_up aT_5 0 (aT 2)) 1 (aT 3)) yT_5 gT_5 ++ (wX3 (aT 6) (va_up aT_6 0 (aT 2)) yT_6 gT_6 ++ (wX10 (aT 7) aT_7 yT_7 gT_7 ++ (wX4 hT_8 aT_8 yT_8 gT_8 ++ (wX0 (aT_8 0) aT_8_0 yT_8_0 gT_8_0 ++ (oW wPl sp ++ (oW wCo ak ++ (oW (wRd (aT 0) (aT 2)) rd ++ (wSt (u.1, u.2.1, q.2) ++ (oW wSt k1 ++ (oW wSt k2 ++ (oW wSt k3)))))))))))))))))) := Hx_perm X (pm_2732_4 _ _ _ _ _ _ _ _ _ _ _ _ _ _ _ _ _ _) (fun _ h => h)
      refine hc_i (As := [.int (nI 0)]) (rest := [.int (1 : Int32)]) C X (hm l D hM aM yM 2000000 gM (nI 0) ((1 : Int32), g') f2 _) (cwV 1 C.2.2.2.2.2.1 (good_V q10_39 q10_40 q10_41 q1_9 q10_42) rfl rfl rfl (by decide +kernel) ⟨Nat.le_of_ble_eq_true rfl, Nat.le_of_ble_eq_true rfl⟩) (va_recv X.1 X.2.1 (ci := 12) (q0 := 0) rfl rfl) (fun q hq => List.mem_append_right _ (hty q (by
            simp only [List.mem_append]
            simp [hq]))) hl.1 rfl rfl (Nat.le_of_ble_eq_true rfl) dL_law_1119 ⟨by show _ ≤ 218358; omega, by show _ ≤ 8447176; omega⟩ (fun H locs X => ?_)
      refine lv_icmp_eq (tgt := 1150) hx hb dL_law_1122 (by decide) (fun _ => ?_) (fun c => absurd rfl c)
      refine W.widen (k := (200 + 36 * (N + 1))) (n := (120000 + 10367 * (N + 1))) (by omega) (by omega) ?_
      have X : Hx D _ (fun q : Nat => s.heap.size ≤ q) s H locs (wX11 hT aT yT gT ++ (wTP (aT 0) aT_0 yT_0 gT_0 ++ (wKP (aT 4) aT_4 yT_4 (sR gT_4 0 (some u.1)) ++ (wX6 (aT 2) aT_2 yT_2 gT_2 ++ (wX9 (aT 3) aT_3 yT_3 gT_3 ++ (wX1 (aT 5) (va_up (va_up aT_5 0 (aT 2)) 1 (aT 3)) yT_5 gT_5 ++ (wX3 (aT 6) (va_up aT_6 0 (aT 2)) yT_6 gT_6 ++ (wX10 (aT 7) aT_7 yT_7 gT_7 ++ (wX4 hT_8 aT_8 yT_8 gT_8 ++ (wX0 (aT_8 0) aT_8_0 yT_8_0 gT_8_0 ++ (oW wPl sp ++ (oW wCo ak ++ (oW (wRd (aT 0) (aT 2)) rd ++ (oW wSt (some (u.1, u.2.1, q.2)) ++ (oW wSt k1 ++ (oW wSt k2 ++ (oW wSt k3 ++ (wX12 hM aM yM g')))))))))))))))))) := Hx_perm X (pm_2732_2 _ _ _ _ _ _ _ _ _ _ _ _ _ _ _ _ _ _) (fun _ h => h)
      exact cont H locs ⟨aT, yT, aT_0, yT_0, aT_2, yT_2, aT_3, yT_3, aT_4, yT_4, aT_5, yT_5, aT_6, yT_6, aT_7, yT_7, hT_8, aT_8, yT_8, aT_8_0, yT_8_0, gT, gT_0, gT_2, gT_3, (sR gT_4 0 (some u.1)), gT_5, gT_6, gT_7, gT_8, gT_8_0, sp, ak, rd, (some (u.1, u.2.1, q.2)), k1, k2, k3, (fun j => if j = 0 then some q.2 else kk j), aM, yM, g', _, X, (fun q hq => by
              simp only [oT_some, tPl, tRd, tCo, tSt, List.mem_append] at hq ⊢
              (repeat' (refine Or.elim hq ?_ ?_ <;> intro hq)) <;> first | (simp [hq]; done) | exact Or.inr (hty q (by simp only [oT_some, tPl, tRd, tCo, tSt, List.mem_append]; simp [hq]))), hwr, h9, h10, h11, ⟨gRs_self, if_pos rfl⟩, ⟨(gRs_ne (by decide)).trans hk1.1, (if_neg (by decide)).trans hk1.2⟩, ⟨(gRs_ne (by decide)).trans hk2.1, (if_neg (by decide)).trans hk2.2⟩, ⟨(gRs_ne (by decide)).trans hk3.1, (if_neg (by decide)).trans hk3.2⟩⟩
    | 1, _, hxp =>
      have ec : (nI 1).toNatClampNeg = 1 := nI_clamp (by decide)
      have hix : vp_in (nI 1) 4 := vp_in_nI (by decide) (by decide)
      have c1 : ¬ nI 1 < 0 := by decide
      have c2 : nI 1 < (4 : Int32) := by decide
      have X : Hx D tys (fun q : Nat => s.heap.size ≤ q) s H locs ((wX11 hT aT yT gT ++ (wX9 (aT 3) aT_3 yT_3 gT_3 ++ (wKP (aT 4) aT_4 yT_4 gT_4 ++ (oW wSt k1)))) ++ (wTP (aT 0) aT_0 yT_0 gT_0 ++ (wX6 (aT 2) aT_2 yT_2 gT_2 ++ (wX1 (aT 5) (va_up (va_up aT_5 0 (aT 2)) 1 (aT 3)) yT_5 gT_5 ++ (wX3 (aT 6) (va_up aT_6 0 (aT 2)) yT_6 gT_6 ++ (wX10 (aT 7) aT_7 yT_7 gT_7 ++ (wX4 hT_8 aT_8 yT_8 gT_8 ++ (wX0 (aT_8 0) aT_8_0 yT_8_0 gT_8_0 ++ (oW wPl sp ++ (oW wCo ak ++ (oW (wRd (aT 0) (aT 2)) rd ++ (oW wSt k0 ++ (oW wSt k2 ++ (oW wSt k3 ++ (wX12 hM aM yM gM))))))))))))))) := Hx_perm X (pm_2732_5 _ _ _ _ _ _ _ _ _ _ _ _ _ _ _ _ _ _) (fun _ h => h)
      have hF : ∀ u, StOf k1 u → ∃ q, f_X11_keep u.1 gT gT_3 (sR gT_4 (nI 1).toNatClampNeg (some u.1)) u.2.2 (nI 1) = some q ∧ (fun (u : COT) (q : Int32 × Gs) => q.1 = 1 ∧ ∃ g', f_X12_keep 2000000 gM (nI 1) = some ((1 : Int32), g') ∧ WR (N + 1) hT_8 g' gT gT_0 gT_2 gT_3 gT_6 gT_7 gT_8 gT_8_0 (fun j => if j = 1 then some q.2 else kk j)) u q := by
            intro u _
            obtain ⟨g', gk', f2, f1, _, hwr⟩ := st_keep (h9 := u.1) (gK := sR gT_4 (nI 1).toNatClampNeg (some u.1)) (gk := u.2.2) hn (by omega) hw (p := 1) (by decide) (by rw [ec]; exact gRs_self)
            exact ⟨_, f1, rfl, g', f2, hwr⟩
      refine hc_x (As := [.int (nI 1)]) (rest := []) C X (g_X11_keep n9 k37 l D hT aT yT aT_3 yT_3 aT_4 yT_4 gT gT_3 gT_4 (nI 1) c1 c2 hix k1 (by rw [ec]; exact hk1.1) _ hF _) (cwV 1 C.2.2.2.2.2.1 (good_V q6_149 q6_150 q6_151 q1_1 q6_152) rfl rfl rfl (by decide +kernel) ⟨Nat.le_of_ble_eq_true rfl, Nat.le_of_ble_eq_true rfl⟩) (va_recv X.1 X.2.1 (ci := 11) (q0 := 0) rfl rfl) (fun q hq => hty q (by
            simp only [List.mem_append] at hq ⊢
            (repeat' (refine Or.elim hq ?_ ?_ <;> intro hq)) <;> simp [hq])) hl.1 rfl rfl (Nat.le_of_ble_eq_true rfl) dL_law_1110 ⟨by show _ ≤ 218358; omega, by show _ ≤ 8447176; omega⟩ (fun v u H locs hpost X => ?_)
      obtain ⟨u, q⟩ := u
      obtain ⟨hv, hq1, g', f2, hwr⟩ := hpost
      dsimp only at hv hq1 f2 hwr
      rw [hq1] at hv
      subst hv
      rw [ec] at X
      refine lv_aload_n hx hb dL_law_1113 rfl (lv_at hl 2 rfl) ?_
      refine lv_aload_n hx hb dL_law_1114 rfl (lv_at hl 0 rfl) ?_
      refine lv_iload_n hx hb dL_law_1115 rfl (lv_at hl 3 rfl) ?_
      refine lv_iconst (v := (1 : Int32)) hx hb dL_law_1116 (by decide) ?_
      refine lv_iadd hx hb dL_law_1117 ?_
      refine va_sld hx hb hX hbl hbA X.2.2.2.1 (hin 1 (by decide)) dL_law_1118 ?_
      rw [hxp]
      have X : Hx D _ (fun q : Nat => s.heap.size ≤ q) s H locs ((wX12 hM aM yM gM) ++ (wX11 hT aT yT gT ++ (wTP (aT 0) aT_0 yT_0 gT_0 ++ (wKP (aT 4) aT_4 yT_4 (sR gT_4 1 (some u.1)) ++ (wX6 (aT 2) aT_2 yT_2 gT_2 ++ (wX9 (aT 3) aT_3 yT_3 gT_3 ++ (wX1 (aT 5) (va_up (va_up aT_5 0 (aT 2)) 1 (aT 3)) yT_5 gT_5 ++ (wX3 (aT 6) (va_up aT_6 0 (aT 2)) yT_6 gT_6 ++ (wX10 (aT 7) aT_7 yT_7 gT_7 ++ (wX4 hT_8 aT_8 yT_8 gT_8 ++ (wX0 (aT_8 0) aT_8_0 yT_8_0 gT_8_0 ++ (oW wPl sp ++ (oW wCo ak ++ (oW (wRd (aT 0) (aT 2)) rd ++ (oW wSt k0 ++ (wSt (u.1, u.2.1, q.2) ++ (oW wSt k2 ++ (oW wSt k3)))))))))))))))))) := Hx_perm X (pm_2732_6 _ _ _ _ _ _ _ _ _ _ _ _ _ _ _ _ _ _) (fun _ h => h)
      refine hc_i (As := [.int (nI 1)]) (rest := [.int (1 : Int32)]) C X (hm l D hM aM yM 2000000 gM (nI 1) ((1 : Int32), g') f2 _) (cwV 1 C.2.2.2.2.2.1 (good_V q10_39 q10_40 q10_41 q1_9 q10_42) rfl rfl rfl (by decide +kernel) ⟨Nat.le_of_ble_eq_true rfl, Nat.le_of_ble_eq_true rfl⟩) (va_recv X.1 X.2.1 (ci := 12) (q0 := 0) rfl rfl) (fun q hq => List.mem_append_right _ (hty q (by
            simp only [List.mem_append]
            simp [hq]))) hl.1 rfl rfl (Nat.le_of_ble_eq_true rfl) dL_law_1119 ⟨by show _ ≤ 218358; omega, by show _ ≤ 8447176; omega⟩ (fun H locs X => ?_)
      refine lv_icmp_eq (tgt := 1150) hx hb dL_law_1122 (by decide) (fun _ => ?_) (fun c => absurd rfl c)
      refine W.widen (k := (200 + 36 * (N + 1))) (n := (120000 + 10367 * (N + 1))) (by omega) (by omega) ?_
      have X : Hx D _ (fun q : Nat => s.heap.size ≤ q) s H locs (wX11 hT aT yT gT ++ (wTP (aT 0) aT_0 yT_0 gT_0 ++ (wKP (aT 4) aT_4 yT_4 (sR gT_4 1 (some u.1)) ++ (wX6 (aT 2) aT_2 yT_2 gT_2 ++ (wX9 (aT 3) aT_3 yT_3 gT_3 ++ (wX1 (aT 5) (va_up (va_up aT_5 0 (aT 2)) 1 (aT 3)) yT_5 gT_5 ++ (wX3 (aT 6) (va_up aT_6 0 (aT 2)) yT_6 gT_6 ++ (wX10 (aT 7) aT_7 yT_7 gT_7 ++ (wX4 hT_8 aT_8 yT_8 gT_8 ++ (wX0 (aT_8 0) aT_8_0 yT_8_0 gT_8_0 ++ (oW wPl sp ++ (oW wCo ak ++ (oW (wRd (aT 0) (aT 2)) rd ++ (oW wSt k0 ++ (oW wSt (some (u.1, u.2.1, q.2)) ++ (oW wSt k2 ++ (oW wSt k3 ++ (wX12 hM aM yM g')))))))))))))))))) := Hx_perm X (pm_2732_2 _ _ _ _ _ _ _ _ _ _ _ _ _ _ _ _ _ _) (fun _ h => h)
      exact cont H locs ⟨aT, yT, aT_0, yT_0, aT_2, yT_2, aT_3, yT_3, aT_4, yT_4, aT_5, yT_5, aT_6, yT_6, aT_7, yT_7, hT_8, aT_8, yT_8, aT_8_0, yT_8_0, gT, gT_0, gT_2, gT_3, (sR gT_4 1 (some u.1)), gT_5, gT_6, gT_7, gT_8, gT_8_0, sp, ak, rd, k0, (some (u.1, u.2.1, q.2)), k2, k3, (fun j => if j = 1 then some q.2 else kk j), aM, yM, g', _, X, (fun q hq => by
              simp only [oT_some, tPl, tRd, tCo, tSt, List.mem_append] at hq ⊢
              (repeat' (refine Or.elim hq ?_ ?_ <;> intro hq)) <;> first | (simp [hq]; done) | exact Or.inr (hty q (by simp only [oT_some, tPl, tRd, tCo, tSt, List.mem_append]; simp [hq]))), hwr, h9, h10, h11, ⟨(gRs_ne (by decide)).trans hk0.1, (if_neg (by decide)).trans hk0.2⟩, ⟨gRs_self, if_pos rfl⟩, ⟨(gRs_ne (by decide)).trans hk2.1, (if_neg (by decide)).trans hk2.2⟩, ⟨(gRs_ne (by decide)).trans hk3.1, (if_neg (by decide)).trans hk3.2⟩⟩
    | 2, _, hxp =>
      have ec : (nI 2).toNatClampNeg = 2 := nI_clamp (by decide)
      have hix : vp_in (nI 2) 4 := vp_in_nI (by decide) (by decide)
      have c1 : ¬ nI 2 < 0 := by decide
      have c2 : nI 2 < (4 : Int32) := by decide
      have X : Hx D tys (fun q : Nat => s.heap.size ≤ q) s H locs ((wX11 hT aT yT gT ++ (wX9 (aT 3) aT_3 yT_3 gT_3 ++ (wKP (aT 4) aT_4 yT_4 gT_4 ++ (oW wSt k2)))) ++ (wTP (aT 0) aT_0 yT_0 gT_0 ++ (wX6 (aT 2) aT_2 yT_2 gT_2 ++ (wX1 (aT 5) (va_up (va_up aT_5 0 (aT 2)) 1 (aT 3)) yT_5 gT_5 ++ (wX3 (aT 6) (va_up aT_6 0 (aT 2)) yT_6 gT_6 ++ (wX10 (aT 7) aT_7 yT_7 gT_7 ++ (wX4 hT_8 aT_8 yT_8 gT_8 ++ (wX0 (aT_8 0) aT_8_0 yT_8_0 gT_8_0 ++ (oW wPl sp ++ (oW wCo ak ++ (oW (wRd (aT 0) (aT 2)) rd ++ (oW wSt k0 ++ (oW wSt k1 ++ (oW wSt k3 ++ (wX12 hM aM yM gM))))))))))))))) := Hx_perm X (pm_2732_7 _ _ _ _ _ _ _ _ _ _ _ _ _ _ _ _ _ _) (fun _ h => h)
      have hF : ∀ u, StOf k2 u → ∃ q, f_X11_keep u.1 gT gT_3 (sR gT_4 (nI 2).toNatClampNeg (some u.1)) u.2.2 (nI 2) = some q ∧ (fun (u : COT) (q : Int32 × Gs) => q.1 = 1 ∧ ∃ g', f_X12_keep 2000000 gM (nI 2) = some ((1 : Int32), g') ∧ WR (N + 1) hT_8 g' gT gT_0 gT_2 gT_3 gT_6 gT_7 gT_8 gT_8_0 (fun j => if j = 2 then some q.2 else kk j)) u q := by
            intro u _
            obtain ⟨g', gk', f2, f1, _, hwr⟩ := st_keep (h9 := u.1) (gK := sR gT_4 (nI 2).toNatClampNeg (some u.1)) (gk := u.2.2) hn (by omega) hw (p := 2) (by decide) (by rw [ec]; exact gRs_self)
            exact ⟨_, f1, rfl, g', f2, hwr⟩
      refine hc_x (As := [.int (nI 2)]) (rest := []) C X (g_X11_keep n9 k37 l D hT aT yT aT_3 yT_3 aT_4 yT_4 gT gT_3 gT_4 (nI 2) c1 c2 hix k2 (by rw [ec]; exact hk2.1) _ hF _) (cwV 1 C.2.2.2.2.2.1 (good_V q6_149 q6_150 q6_151 q1_1 q6_152) rfl rfl rfl (by decide +kernel) ⟨Nat.le_of_ble_eq_true rfl, Nat.le_of_ble_eq_true rfl⟩) (va_recv X.1 X.2.1 (ci := 11) (q0 := 0) rfl rfl) (fun q hq => hty q (by
            simp only [List.mem_append] at hq ⊢
            (repeat' (refine Or.elim hq ?_ ?_ <;> intro hq)) <;> simp [hq])) hl.1 rfl rfl (Nat.le_of_ble_eq_true rfl) dL_law_1110 ⟨by show _ ≤ 218358; omega, by show _ ≤ 8447176; omega⟩ (fun v u H locs hpost X => ?_)
      obtain ⟨u, q⟩ := u
      obtain ⟨hv, hq1, g', f2, hwr⟩ := hpost
      dsimp only at hv hq1 f2 hwr
      rw [hq1] at hv
      subst hv
      rw [ec] at X
      refine lv_aload_n hx hb dL_law_1113 rfl (lv_at hl 2 rfl) ?_
      refine lv_aload_n hx hb dL_law_1114 rfl (lv_at hl 0 rfl) ?_
      refine lv_iload_n hx hb dL_law_1115 rfl (lv_at hl 3 rfl) ?_
      refine lv_iconst (v := (1 : Int32)) hx hb dL_law_1116 (by decide) ?_
      refine lv_iadd hx hb dL_law_1117 ?_
      refine va_sld hx hb hX hbl hbA X.2.2.2.1 (hin 1 (by decide)) dL_law_1118 ?_
      rw [hxp]
      have X : Hx D _ (fun q : Nat => s.heap.size ≤ q) s H locs ((wX12 hM aM yM gM) ++ (wX11 hT aT yT gT ++ (wTP (aT 0) aT_0 yT_0 gT_0 ++ (wKP (aT 4) aT_4 yT_4 (sR gT_4 2 (some u.1)) ++ (wX6 (aT 2) aT_2 yT_2 gT_2 ++ (wX9 (aT 3) aT_3 yT_3 gT_3 ++ (wX1 (aT 5) (va_up (va_up aT_5 0 (aT 2)) 1 (aT 3)) yT_5 gT_5 ++ (wX3 (aT 6) (va_up aT_6 0 (aT 2)) yT_6 gT_6 ++ (wX10 (aT 7) aT_7 yT_7 gT_7 ++ (wX4 hT_8 aT_8 yT_8 gT_8 ++ (wX0 (aT_8 0) aT_8_0 yT_8_0 gT_8_0 ++ (oW wPl sp ++ (oW wCo ak ++ (oW (wRd (aT 0) (aT 2)) rd ++ (oW wSt k0 ++ (oW wSt k1 ++ (wSt (u.1, u.2.1, q.2) ++ (oW wSt k3)))))))))))))))))) := Hx_perm X (pm_2732_8 _ _ _ _ _ _ _ _ _ _ _ _ _ _ _ _ _ _) (fun _ h => h)
      refine hc_i (As := [.int (nI 2)]) (rest := [.int (1 : Int32)]) C X (hm l D hM aM yM 2000000 gM (nI 2) ((1 : Int32), g') f2 _) (cwV 1 C.2.2.2.2.2.1 (good_V q10_39 q10_40 q10_41 q1_9 q10_42) rfl rfl rfl (by decide +kernel) ⟨Nat.le_of_ble_eq_true rfl, Nat.le_of_ble_eq_true rfl⟩) (va_recv X.1 X.2.1 (ci := 12) (q0 := 0) rfl rfl) (fun q hq => List.mem_append_right _ (hty q (by
            simp only [List.mem_append]
            simp [hq]))) hl.1 rfl rfl (Nat.le_of_ble_eq_true rfl) dL_law_1119 ⟨by show _ ≤ 218358; omega, by show _ ≤ 8447176; omega⟩ (fun H locs X => ?_)
      refine lv_icmp_eq (tgt := 1150) hx hb dL_law_1122 (by decide) (fun _ => ?_) (fun c => absurd rfl c)
      refine W.widen (k := (200 + 36 * (N + 1))) (n := (120000 + 10367 * (N + 1))) (by omega) (by omega) ?_
      have X : Hx D _ (fun q : Nat => s.heap.size ≤ q) s H locs (wX11 hT aT yT gT ++ (wTP (aT 0) aT_0 yT_0 gT_0 ++ (wKP (aT 4) aT_4 yT_4 (sR gT_4 2 (some u.1)) ++ (wX6 (aT 2) aT_2 yT_2 gT_2 ++ (wX9 (aT 3) aT_3 yT_3 gT_3 ++ (wX1 (aT 5) (va_up (va_up aT_5 0 (aT 2)) 1 (aT 3)) yT_5 gT_5 ++ (wX3 (aT 6) (va_up aT_6 0 (aT 2)) yT_6 gT_6 ++ (wX10 (aT 7) aT_7 yT_7 gT_7 ++ (wX4 hT_8 aT_8 yT_8 gT_8 ++ (wX0 (aT_8 0) aT_8_0 yT_8_0 gT_8_0 ++ (oW wPl sp ++ (oW wCo ak ++ (oW (wRd (aT 0) (aT 2)) rd ++ (oW wSt k0 ++ (oW wSt k1 ++ (oW wSt (some (u.1, u.2.1, q.2)) ++ (oW wSt k3 ++ (wX12 hM aM yM g')))))))))))))))))) := Hx_perm X (pm_2732_2 _ _ _ _ _ _ _ _ _ _ _ _ _ _ _ _ _ _) (fun _ h => h)
      exact cont H locs ⟨aT, yT, aT_0, yT_0, aT_2, yT_2, aT_3, yT_3, aT_4, yT_4, aT_5, yT_5, aT_6, yT_6, aT_7, yT_7, hT_8, aT_8, yT_8, aT_8_0, yT_8_0, gT, gT_0, gT_2, gT_3, (sR gT_4 2 (some u.1)), gT_5, gT_6, gT_7, gT_8, gT_8_0, sp, ak, rd, k0, k1, (some (u.1, u.2.1, q.2)), k3, (fun j => if j = 2 then some q.2 else kk j), aM, yM, g', _, X, (fun q hq => by
              simp only [oT_some, tPl, tRd, tCo, tSt, List.mem_append] at hq ⊢
              (repeat' (refine Or.elim hq ?_ ?_ <;> intro hq)) <;> first | (simp [hq]; done) | exact Or.inr (hty q (by simp only [oT_some, tPl, tRd, tCo, tSt, List.mem_append]; simp [hq]))), hwr, h9, h10, h11, ⟨(gRs_ne (by decide)).trans hk0.1, (if_neg (by decide)).trans hk0.2⟩, ⟨(gRs_ne (by decide)).trans hk1.1, (if_neg (by decide)).trans hk1.2⟩, ⟨gRs_self, if_pos rfl⟩, ⟨(gRs_ne (by decide)).trans hk3.1, (if_neg (by decide)).trans hk3.2⟩⟩
    | 3, _, hxp =>
      have ec : (nI 3).toNatClampNeg = 3 := nI_clamp (by decide)
      have hix : vp_in (nI 3) 4 := vp_in_nI (by decide) (by decide)
      have c1 : ¬ nI 3 < 0 := by decide
      have c2 : nI 3 < (4 : Int32) := by decide
      have X : Hx D tys (fun q : Nat => s.heap.size ≤ q) s H locs ((wX11 hT aT yT gT ++ (wX9 (aT 3) aT_3 yT_3 gT_3 ++ (wKP (aT 4) aT_4 yT_4 gT_4 ++ (oW wSt k3)))) ++ (wTP (aT 0) aT_0 yT_0 gT_0 ++ (wX6 (aT 2) aT_2 yT_2 gT_2 ++ (wX1 (aT 5) (va_up (va_up aT_5 0 (aT 2)) 1 (aT 3)) yT_5 gT_5 ++ (wX3 (aT 6) (va_up aT_6 0 (aT 2)) yT_6 gT_6 ++ (wX10 (aT 7) aT_7 yT_7 gT_7 ++ (wX4 hT_8 aT_8 yT_8 gT_8 ++ (wX0 (aT_8 0) aT_8_0 yT_8_0 gT_8_0 ++ (oW wPl sp ++ (oW wCo ak ++ (oW (wRd (aT 0) (aT 2)) rd ++ (oW wSt k0 ++ (oW wSt k1 ++ (oW wSt k2 ++ (wX12 hM aM yM gM))))))))))))))) := Hx_perm X (pm_2732_9 _ _ _ _ _ _ _ _ _ _ _ _ _ _ _ _ _ _) (fun _ h => h)
      have hF : ∀ u, StOf k3 u → ∃ q, f_X11_keep u.1 gT gT_3 (sR gT_4 (nI 3).toNatClampNeg (some u.1)) u.2.2 (nI 3) = some q ∧ (fun (u : COT) (q : Int32 × Gs) => q.1 = 1 ∧ ∃ g', f_X12_keep 2000000 gM (nI 3) = some ((1 : Int32), g') ∧ WR (N + 1) hT_8 g' gT gT_0 gT_2 gT_3 gT_6 gT_7 gT_8 gT_8_0 (fun j => if j = 3 then some q.2 else kk j)) u q := by
            intro u _
            obtain ⟨g', gk', f2, f1, _, hwr⟩ := st_keep (h9 := u.1) (gK := sR gT_4 (nI 3).toNatClampNeg (some u.1)) (gk := u.2.2) hn (by omega) hw (p := 3) (by decide) (by rw [ec]; exact gRs_self)
            exact ⟨_, f1, rfl, g', f2, hwr⟩
      refine hc_x (As := [.int (nI 3)]) (rest := []) C X (g_X11_keep n9 k37 l D hT aT yT aT_3 yT_3 aT_4 yT_4 gT gT_3 gT_4 (nI 3) c1 c2 hix k3 (by rw [ec]; exact hk3.1) _ hF _) (cwV 1 C.2.2.2.2.2.1 (good_V q6_149 q6_150 q6_151 q1_1 q6_152) rfl rfl rfl (by decide +kernel) ⟨Nat.le_of_ble_eq_true rfl, Nat.le_of_ble_eq_true rfl⟩) (va_recv X.1 X.2.1 (ci := 11) (q0 := 0) rfl rfl) (fun q hq => hty q (by
            simp only [List.mem_append] at hq ⊢
            (repeat' (refine Or.elim hq ?_ ?_ <;> intro hq)) <;> simp [hq])) hl.1 rfl rfl (Nat.le_of_ble_eq_true rfl) dL_law_1110 ⟨by show _ ≤ 218358; omega, by show _ ≤ 8447176; omega⟩ (fun v u H locs hpost X => ?_)
      obtain ⟨u, q⟩ := u
      obtain ⟨hv, hq1, g', f2, hwr⟩ := hpost
      dsimp only at hv hq1 f2 hwr
      rw [hq1] at hv
      subst hv
      rw [ec] at X
      refine lv_aload_n hx hb dL_law_1113 rfl (lv_at hl 2 rfl) ?_
      refine lv_aload_n hx hb dL_law_1114 rfl (lv_at hl 0 rfl) ?_
      refine lv_iload_n hx hb dL_law_1115 rfl (lv_at hl 3 rfl) ?_
      refine lv_iconst (v := (1 : Int32)) hx hb dL_law_1116 (by decide) ?_
      refine lv_iadd hx hb dL_law_1117 ?_
      refine va_sld hx hb hX hbl hbA X.2.2.2.1 (hin 1 (by decide)) dL_law_1118 ?_
      rw [hxp]
      have X : Hx D _ (fun q : Nat => s.heap.size ≤ q) s H locs ((wX12 hM aM yM gM) ++ (wX11 hT aT yT gT ++ (wTP (aT 0) aT_0 yT_0 gT_0 ++ (wKP (aT 4) aT_4 yT_4 (sR gT_4 3 (some u.1)) ++ (wX6 (aT 2) aT_2 yT_2 gT_2 ++ (wX9 (aT 3) aT_3 yT_3 gT_3 ++ (wX1 (aT 5) (va_up (va_up aT_5 0 (aT 2)) 1 (aT 3)) yT_5 gT_5 ++ (wX3 (aT 6) (va_up aT_6 0 (aT 2)) yT_6 gT_6 ++ (wX10 (aT 7) aT_7 yT_7 gT_7 ++ (wX4 hT_8 aT_8 yT_8 gT_8 ++ (wX0 (aT_8 0) aT_8_0 yT_8_0 gT_8_0 ++ (oW wPl sp ++ (oW wCo ak ++ (oW (wRd (aT 0) (aT 2)) rd ++ (oW wSt k0 ++ (oW wSt k1 ++ (oW wSt k2 ++ (wSt (u.1, u.2.1, q.2))))))))))))))))))) := Hx_perm X (pm_2732_10 _ _ _ _ _ _ _ _ _ _ _ _ _ _ _ _ _ _) (fun _ h => h)
      refine hc_i (As := [.int (nI 3)]) (rest := [.int (1 : Int32)]) C X (hm l D hM aM yM 2000000 gM (nI 3) ((1 : Int32), g') f2 _) (cwV 1 C.2.2.2.2.2.1 (good_V q10_39 q10_40 q10_41 q1_9 q10_42) rfl rfl rfl (by decide +kernel) ⟨Nat.le_of_ble_eq_true rfl, Nat.le_of_ble_eq_true rfl⟩) (va_recv X.1 X.2.1 (ci := 12) (q0 := 0) rfl rfl) (fun q hq => List.mem_append_right _ (hty q (by
            simp only [List.mem_append]
            simp [hq]))) hl.1 rfl rfl (Nat.le_of_ble_eq_true rfl) dL_law_1119 ⟨by show _ ≤ 218358; omega, by show _ ≤ 8447176; omega⟩ (fun H locs X => ?_)
      refine lv_icmp_eq (tgt := 1150) hx hb dL_law_1122 (by decide) (fun _ => ?_) (fun c => absurd rfl c)
      refine W.widen (k := (200 + 36 * (N + 1))) (n := (120000 + 10367 * (N + 1))) (by omega) (by omega) ?_
      have X : Hx D _ (fun q : Nat => s.heap.size ≤ q) s H locs (wX11 hT aT yT gT ++ (wTP (aT 0) aT_0 yT_0 gT_0 ++ (wKP (aT 4) aT_4 yT_4 (sR gT_4 3 (some u.1)) ++ (wX6 (aT 2) aT_2 yT_2 gT_2 ++ (wX9 (aT 3) aT_3 yT_3 gT_3 ++ (wX1 (aT 5) (va_up (va_up aT_5 0 (aT 2)) 1 (aT 3)) yT_5 gT_5 ++ (wX3 (aT 6) (va_up aT_6 0 (aT 2)) yT_6 gT_6 ++ (wX10 (aT 7) aT_7 yT_7 gT_7 ++ (wX4 hT_8 aT_8 yT_8 gT_8 ++ (wX0 (aT_8 0) aT_8_0 yT_8_0 gT_8_0 ++ (oW wPl sp ++ (oW wCo ak ++ (oW (wRd (aT 0) (aT 2)) rd ++ (oW wSt k0 ++ (oW wSt k1 ++ (oW wSt k2 ++ (oW wSt (some (u.1, u.2.1, q.2)) ++ (wX12 hM aM yM g')))))))))))))))))) := Hx_perm X (pm_2732_2 _ _ _ _ _ _ _ _ _ _ _ _ _ _ _ _ _ _) (fun _ h => h)
      exact cont H locs ⟨aT, yT, aT_0, yT_0, aT_2, yT_2, aT_3, yT_3, aT_4, yT_4, aT_5, yT_5, aT_6, yT_6, aT_7, yT_7, hT_8, aT_8, yT_8, aT_8_0, yT_8_0, gT, gT_0, gT_2, gT_3, (sR gT_4 3 (some u.1)), gT_5, gT_6, gT_7, gT_8, gT_8_0, sp, ak, rd, k0, k1, k2, (some (u.1, u.2.1, q.2)), (fun j => if j = 3 then some q.2 else kk j), aM, yM, g', _, X, (fun q hq => by
              simp only [oT_some, tPl, tRd, tCo, tSt, List.mem_append] at hq ⊢
              (repeat' (refine Or.elim hq ?_ ?_ <;> intro hq)) <;> first | (simp [hq]; done) | exact Or.inr (hty q (by simp only [oT_some, tPl, tRd, tCo, tSt, List.mem_append]; simp [hq]))), hwr, h9, h10, h11, ⟨(gRs_ne (by decide)).trans hk0.1, (if_neg (by decide)).trans hk0.2⟩, ⟨(gRs_ne (by decide)).trans hk1.1, (if_neg (by decide)).trans hk1.2⟩, ⟨(gRs_ne (by decide)).trans hk2.1, (if_neg (by decide)).trans hk2.2⟩, ⟨gRs_self, if_pos rfl⟩⟩
