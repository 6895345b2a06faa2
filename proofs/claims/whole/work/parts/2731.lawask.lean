theorem q6_14 : Cond.methodLink RL 71 yX11_ask ∈ lw_all := lw_in (tc_6 (List.mem_of_getElem? (i := 14) rfl)) rfl
theorem q6_15 : Cond.instanceMethod yX11_ask ∈ lw_all := lw_in (tc_6 (List.mem_of_getElem? (i := 15) rfl)) rfl
theorem q6_16 : Cond.selects RX11 yX11_ask yX11_ask ∈ lw_all := lw_in (tc_6 (List.mem_of_getElem? (i := 16) rfl)) rfl
theorem q6_17 : Cond.code yX11_ask cX11_ask 3 (some .int) ∈ lw_all := lw_in (tc_6 (List.mem_of_getElem? (i := 17) rfl)) rfl
theorem q9_143 : Cond.methodLink RL 74 yX12_ask ∈ lw_all := lw_in (tc_9 (List.mem_of_getElem? (i := 143) rfl)) rfl
theorem q9_144 : Cond.instanceMethod yX12_ask ∈ lw_all := lw_in (tc_9 (List.mem_of_getElem? (i := 144) rfl)) rfl
theorem q9_145 : Cond.selects RX12 yX12_ask yX12_ask ∈ lw_all := lw_in (tc_9 (List.mem_of_getElem? (i := 145) rfl)) rfl
theorem q9_146 : Cond.code yX12_ask cX12_ask 2 (some .int) ∈ lw_all := lw_in (tc_9 (List.mem_of_getElem? (i := 146) rfl)) rfl
theorem q6_38 : Cond.methodLink RL 80 yX11_await ∈ lw_all := lw_in (tc_6 (List.mem_of_getElem? (i := 38) rfl)) rfl
theorem q6_39 : Cond.instanceMethod yX11_await ∈ lw_all := lw_in (tc_6 (List.mem_of_getElem? (i := 39) rfl)) rfl
theorem q6_40 : Cond.selects RX11 yX11_await yX11_await ∈ lw_all := lw_in (tc_6 (List.mem_of_getElem? (i := 40) rfl)) rfl
theorem q6_41 : Cond.code yX11_await cX11_await 4 (some .int) ∈ lw_all := lw_in (tc_6 (List.mem_of_getElem? (i := 41) rfl)) rfl
theorem q9_163 : Cond.methodLink RL 83 yX12_await ∈ lw_all := lw_in (tc_9 (List.mem_of_getElem? (i := 163) rfl)) rfl
theorem q9_164 : Cond.instanceMethod yX12_await ∈ lw_all := lw_in (tc_9 (List.mem_of_getElem? (i := 164) rfl)) rfl
theorem q9_165 : Cond.selects RX12 yX12_await yX12_await ∈ lw_all := lw_in (tc_9 (List.mem_of_getElem? (i := 165) rfl)) rfl
theorem q9_166 : Cond.code yX12_await cX12_await 4 (some .int) ∈ lw_all := lw_in (tc_9 (List.mem_of_getElem? (i := 166) rfl)) rfl
theorem pm_2731_0 (B_11 B_0 B_4 B_2 B_3 B_5 B_6 B_7 B_8 B_80 B_sp B_ak B_rd B_k0 B_k1 B_k2 B_k3 B_M : va_W) : ((B_11 ++ (B_0 ++ (B_4 ++ (B_2 ++ (B_3 ++ (B_5 ++ (B_6 ++ (B_7 ++ (B_8 ++ (B_80 ++ (B_sp ++ (B_ak ++ (B_rd ++ (B_k0 ++ (B_k1 ++ (B_k2 ++ (B_k3 ++ (B_M))))))))))))))))))).Perm ((B_11 ++ (B_0 ++ (B_2 ++ (B_3 ++ (B_5 ++ (B_8 ++ (B_ak ++ (B_rd)))))))) ++ (B_4 ++ (B_6 ++ (B_7 ++ (B_80 ++ (B_sp ++ (B_k0 ++ (B_k1 ++ (B_k2 ++ (B_k3 ++ (B_M))))))))))) := by
  refine perm_cnt (fun c hc => ?_)
  simp only [hc]
  all_goals omega
theorem pm_2731_1 (B_11 B_0 B_4 B_2 B_3 B_5 B_6 B_7 B_8 B_80 B_sp B_ak B_rd B_k0 B_k1 B_k2 B_k3 B_M : va_W) : ((B_11 ++ (B_0 ++ (B_2 ++ (B_3 ++ (B_5 ++ (B_8 ++ (B_ak ++ (B_rd)))))))) ++ (B_4 ++ (B_6 ++ (B_7 ++ (B_80 ++ (B_sp ++ (B_k0 ++ (B_k1 ++ (B_k2 ++ (B_k3 ++ (B_M))))))))))).Perm ((B_M) ++ (B_11 ++ (B_0 ++ (B_4 ++ (B_2 ++ (B_3 ++ (B_5 ++ (B_6 ++ (B_7 ++ (B_8 ++ (B_80 ++ (B_sp ++ (B_ak ++ (B_rd ++ (B_k0 ++ (B_k1 ++ (B_k2 ++ (B_k3)))))))))))))))))) := by
  refine perm_cnt (fun c hc => ?_)
  simp only [hc]
  all_goals omega
theorem pm_2731_2 (B_11 B_0 B_4 B_2 B_3 B_5 B_6 B_7 B_8 B_80 B_sp B_ak B_rd B_k0 B_k1 B_k2 B_k3 B_M : va_W) : ((B_M) ++ (B_11 ++ (B_0 ++ (B_4 ++ (B_2 ++ (B_3 ++ (B_5 ++ (B_6 ++ (B_7 ++ (B_8 ++ (B_80 ++ (B_sp ++ (B_ak ++ (B_rd ++ (B_k0 ++ (B_k1 ++ (B_k2 ++ (B_k3)))))))))))))))))).Perm ((B_11 ++ (B_0 ++ (B_4 ++ (B_2 ++ (B_3 ++ (B_5 ++ (B_6 ++ (B_7 ++ (B_8 ++ (B_80 ++ (B_sp ++ (B_ak ++ (B_rd ++ (B_k0 ++ (B_k1 ++ (B_k2 ++ (B_k3 ++ (B_M))))))))))))))))))) := by
  refine perm_cnt (fun c hc => ?_)
  simp only [hc]
  all_goals omega
theorem pm_2731_3 (B_11 B_0 B_4 B_2 B_3 B_5 B_6 B_7 B_8 B_80 B_sp B_ak B_rd B_k0 B_k1 B_k2 B_k3 B_M : va_W) : ((B_11 ++ (B_0 ++ (B_4 ++ (B_2 ++ (B_3 ++ (B_5 ++ (B_6 ++ (B_7 ++ (B_8 ++ (B_80 ++ (B_sp ++ (B_ak ++ (B_rd ++ (B_k0 ++ (B_k1 ++ (B_k2 ++ (B_k3 ++ (B_M))))))))))))))))))).Perm ((B_11 ++ (B_0 ++ (B_2 ++ (B_3 ++ (B_5 ++ (B_8 ++ (B_80 ++ (B_ak ++ (B_rd))))))))) ++ (B_4 ++ (B_6 ++ (B_7 ++ (B_sp ++ (B_k0 ++ (B_k1 ++ (B_k2 ++ (B_k3 ++ (B_M)))))))))) := by
  refine perm_cnt (fun c hc => ?_)
  simp only [hc]
  all_goals omega
theorem pm_2731_4 (B_11 B_0 B_4 B_2 B_3 B_5 B_6 B_7 B_8 B_80 B_sp B_ak B_rd B_k0 B_k1 B_k2 B_k3 B_M : va_W) : ((B_11 ++ (B_0 ++ (B_2 ++ (B_3 ++ (B_5 ++ (B_8 ++ (B_80 ++ (B_ak ++ (B_rd))))))))) ++ (B_4 ++ (B_6 ++ (B_7 ++ (B_sp ++ (B_k0 ++ (B_k1 ++ (B_k2 ++ (B_k3 ++ (B_M)))))))))).Perm ((B_M) ++ (B_11 ++ (B_0 ++ (B_4 ++ (B_2 ++ (B_3 ++ (B_5 ++ (B_6 ++ (B_7 ++ (B_8 ++ (B_80 ++ (B_sp ++ (B_ak ++ (B_rd ++ (B_k0 ++ (B_k1 ++ (B_k2 ++ (B_k3)))))))))))))))))) := by
  refine perm_cnt (fun c hc => ?_)
  simp only [hc]
  all_goals omega
theorem pm_2731_5 (B_11 B_0 B_4 B_2 B_3 B_5 B_6 B_7 B_8 B_80 B_sp B_ak B_rd B_k0 B_k1 B_k2 B_k3 B_M : va_W) : ((B_11 ++ (B_0 ++ (B_4 ++ (B_2 ++ (B_3 ++ (B_5 ++ (B_6 ++ (B_7 ++ (B_8 ++ (B_80 ++ (B_sp ++ (B_ak ++ (B_rd ++ (B_k0 ++ (B_k1 ++ (B_k2 ++ (B_k3 ++ (B_M))))))))))))))))))).Perm ((B_11) ++ (B_0 ++ (B_4 ++ (B_2 ++ (B_3 ++ (B_5 ++ (B_6 ++ (B_7 ++ (B_8 ++ (B_80 ++ (B_sp ++ (B_ak ++ (B_rd ++ (B_k0 ++ (B_k1 ++ (B_k2 ++ (B_k3 ++ (B_M)))))))))))))))))) := by
  refine perm_cnt (fun c hc => ?_)
  simp only [hc]
  all_goals omega
theorem pm_2731_6 (B_11 B_0 B_4 B_2 B_3 B_5 B_6 B_7 B_8 B_80 B_sp B_ak B_rd B_k0 B_k1 B_k2 B_k3 B_M : va_W) : ((B_11) ++ (B_0 ++ (B_4 ++ (B_2 ++ (B_3 ++ (B_5 ++ (B_6 ++ (B_7 ++ (B_8 ++ (B_80 ++ (B_sp ++ (B_ak ++ (B_rd ++ (B_k0 ++ (B_k1 ++ (B_k2 ++ (B_k3 ++ (B_M)))))))))))))))))).Perm ((B_M) ++ (B_11 ++ (B_0 ++ (B_4 ++ (B_2 ++ (B_3 ++ (B_5 ++ (B_6 ++ (B_7 ++ (B_8 ++ (B_80 ++ (B_sp ++ (B_ak ++ (B_rd ++ (B_k0 ++ (B_k1 ++ (B_k2 ++ (B_k3)))))))))))))))))) := by
  refine perm_cnt (fun c hc => ?_)
  simp only [hc]
  all_goals omega
theorem cs_12 (n0 : T_n_X0_init) (n5 : T_n_X5_init) (k27 : T_k_X11_readAsked_27) (k4 : T_k_X11_ask_4) (hm : T_c_X12_ask) {p : Program} {l : Launch} {e : Env} {s : State} {m : MethodId} {below : List Frame} {meth : Method} {c : Code} {D : Dx} {b L : Nat} {xs : Nat → Int32} {Z : State → Prop} (hL : L ≤ 3072) (C : Cx p s m #[Value.ref b] meth c cL_law ret 4 RL lw_all) (hts : ∀ w ∈ lw_tbl, w.before #[Value.ref b] s = true) (hX : va_X b L xs s s.heap) (hbl : b < s.heap.size) {hT hM N i : Nat} (hN : N < 512) (hi : i + 5 < L) {H : Heap} {locs : List Loc} (hI : LI D (fun q : Nat => s.heap.size ≤ q) s hT hM N H locs) {ls : Array Slot} {iv : Int32} (hiv : iv = nI i) (hl : lv_has ls 4 [(0, .ref b), (1, .ref hT), (2, .ref hM), (3, .int iv)]) (cont : ∀ (H1 : Heap) (locs1 : List Loc), LI D (fun q : Nat => s.heap.size ≤ q) s hT hM (N + 1) H1 locs1 → W p l e room_1 s m #[Value.ref b] below meth c H1 locs1 (200 + 36 * (N + 1)) (120000 + 10367 * (N + 1)) Z (F0 m 1150 ls [])) : W p l e room_1 s m #[Value.ref b] below meth c H locs (200 + 36 * N) (120000 + 10367 * N) Z (F0 m 557 ls []) := by
  obtain ⟨hx, hb, hr, hml, hown, -, hlk⟩ := id C
  have hbA : ¬ (fun q : Nat => s.heap.size ≤ q) b := Nat.not_le.mpr hbl
  have hin0 : vp_in iv L := by rw [hiv]; exact vp_in_nI (by omega) (by omega)
  have hin : ∀ k : Nat, k ≤ 5 → vp_in (iv + nI k) L := fun k hk => vp_in_add hiv (by omega) hL
  obtain ⟨aT, yT, aT_0, yT_0, aT_2, yT_2, aT_3, yT_3, aT_4, yT_4, aT_5, yT_5, aT_6, yT_6, aT_7, yT_7, hT_8, aT_8, yT_8, aT_8_0, yT_8_0, gT, gT_0, gT_2, gT_3, gT_4, gT_5, gT_6, gT_7, gT_8, gT_8_0, sp, ak, rd, k0, k1, k2, k3, kk, aM, yM, gM, tys, X, hty, hw, h9, h10, h11, hk0, hk1, hk2, hk3⟩ := hI
  have hn : 2000000 ≤ 2000000 := Nat.le_refl _
  refine lv_aload_n hx hb dL_law_557 rfl (lv_at hl 1 rfl) ?_
  have X : Hx D tys (fun q : Nat => s.heap.size ≤ q) s H locs ((wX11 hT aT yT gT ++ (wTP (aT 0) aT_0 yT_0 gT_0 ++ (wX6 (aT 2) aT_2 yT_2 gT_2 ++ (wX9 (aT 3) aT_3 yT_3 gT_3 ++ (wX1 (aT 5) (va_up (va_up aT_5 0 (aT 2)) 1 (aT 3)) yT_5 gT_5 ++ (wX4 hT_8 aT_8 yT_8 gT_8 ++ (oW wCo ak ++ (oW (wRd (aT 0) (aT 2)) rd)))))))) ++ (wKP (aT 4) aT_4 yT_4 gT_4 ++ (wX3 (aT 6) (va_up aT_6 0 (aT 2)) yT_6 gT_6 ++ (wX10 (aT 7) aT_7 yT_7 gT_7 ++ (wX0 (aT_8 0) aT_8_0 yT_8_0 gT_8_0 ++ (oW wPl sp ++ (oW wSt k0 ++ (oW wSt k1 ++ (oW wSt k2 ++ (oW wSt k3 ++ (wX12 hM aM yM gM))))))))))) := Hx_perm X (pm_2731_0 _ _ _ _ _ _ _ _ _ _ _ _ _ _ _ _ _ _) (fun _ h => h)
  have hF : ∀ (r : RDT) (a : COT), RdOf rd hT_8 (aT_8 0) r → CoOf ak a → ∃ q, f_X11_ask 2000000 hT_8 a.1 r.1 (sR (sR gT 10 (some a.1)) 11 (some r.1)) gT_0 gT_2 gT_3 gT_5 gT_8 a.2.2 r.2.2.1 r.2.2.2.1 r.2.2.2.2.1 r.2.2.2.2.2  = some q ∧ (fun (r : RDT) (a : COT) (q : QST) => ∃ g', f_X12_ask 2000000 gM  = some (q.1, g') ∧ Fr [1, 12, 13] (sR (sR gT 10 (some a.1)) 11 (some r.1)) q.2.1 ∧ WR (N + 1) hT_8 g' q.2.1 gT_0 gT_2 gT_3 gT_6 gT_7 gT_8 gT_8_0 kk) r a q := by
      intro r a _ _
      have hw2 := hw.hall (((Fr.sR (A := [10, 11]) (k := 10) (by decide) gT (some a.1)).trans (Fr.sR (k := 11) (by decide) _ (some r.1)))) ⟨by decide, by decide, by decide, by decide⟩
      obtain ⟨r', g', gT', gm', gc', gr', gs', gN', gS', f2, f1, hwr, fr⟩ := st_ask (h10 := a.1) (h11 := r.1) (ca' := a.2.2) (gr := r.2.2.1) (gsc := r.2.2.2.1) (gN := r.2.2.2.2.1) (gS := r.2.2.2.2.2) (gm := gT_5) hn hw2 rfl rfl
      exact ⟨_, f1, g', f2, fr, hwr⟩
  refine hc_x (As := []) (rest := []) C X (g_X11_ask n0 n5 k27 k4 l D hT aT yT aT_0 yT_0 aT_2 yT_2 aT_3 yT_3 aT_5 yT_5 hT_8 aT_8 yT_8 2000000 gT gT_0 gT_2 gT_3 gT_5 gT_8 ak rd (of_decide_eq_true hw.rEq) h10 h11 _ hF _) (cwV 0 C.2.2.2.2.2.1 (good_V q6_14 q6_15 q6_16 q1_1 q6_17) rfl rfl rfl (by decide +kernel) ⟨Nat.le_of_ble_eq_true rfl, Nat.le_of_ble_eq_true rfl⟩) (va_recv X.1 X.2.1 (ci := 11) (q0 := 0) rfl rfl) (fun q hq => hty q (by
      simp only [List.mem_append] at hq ⊢
      (repeat' (refine Or.elim hq ?_ ?_ <;> intro hq)) <;> simp [hq])) hl.1 rfl rfl (Nat.le_of_ble_eq_true rfl) dL_law_558 ⟨by show _ ≤ 218358; omega, by show _ ≤ 8447176; omega⟩ (fun v u H locs hpost X => ?_)
  obtain ⟨r, a, q⟩ := u
  obtain ⟨hv, g', f2, fr, hwr⟩ := hpost
  dsimp only at hv f2 fr hwr
  subst hv
  refine lv_aload_n hx hb dL_law_561 rfl (lv_at hl 2 rfl) ?_
  have X : Hx D _ (fun q : Nat => s.heap.size ≤ q) s H locs ((wX12 hM aM yM gM) ++ (wX11 hT aT yT q.2.1 ++ (wTP (aT 0) aT_0 yT_0 gT_0 ++ (wKP (aT 4) aT_4 yT_4 gT_4 ++ (wX6 (aT 2) aT_2 yT_2 gT_2 ++ (wX9 (aT 3) aT_3 yT_3 gT_3 ++ (wX1 (aT 5) (va_up (va_up aT_5 0 (aT 2)) 1 (aT 3)) yT_5 q.2.2.1 ++ (wX3 (aT 6) (va_up aT_6 0 (aT 2)) yT_6 gT_6 ++ (wX10 (aT 7) aT_7 yT_7 gT_7 ++ (wX4 hT_8 aT_8 yT_8 gT_8 ++ (wX0 (aT_8 0) aT_8_0 yT_8_0 gT_8_0 ++ (oW wPl sp ++ (wCo (a.1, a.2.1, q.2.2.2.1) ++ (wRd (aT 0) (aT 2) (r.1, r.2.1, (q.2.2.2.2.1, q.2.2.2.2.2.1, q.2.2.2.2.2.2.1, q.2.2.2.2.2.2.2)) ++ (oW wSt k0 ++ (oW wSt k1 ++ (oW wSt k2 ++ (oW wSt k3)))))))))))))))))) := Hx_perm X (pm_2731_1 _ _ _ _ _ _ _ _ _ _ _ _ _ _ _ _ _ _) (fun _ h => h)
  refine hc_i (As := []) (rest := [.int q.1]) C X (hm l D hM aM yM 2000000 gM (q.1, g') f2 _) (cwV 0 C.2.2.2.2.2.1 (good_V q9_143 q9_144 q9_145 q1_9 q9_146) rfl rfl rfl (by decide +kernel) ⟨Nat.le_of_ble_eq_true rfl, Nat.le_of_ble_eq_true rfl⟩) (va_recv X.1 X.2.1 (ci := 12) (q0 := 0) rfl rfl) (fun q hq => List.mem_append_right _ (hty q (by
        simp only [List.mem_append]
        simp [hq]))) hl.1 rfl rfl (Nat.le_of_ble_eq_true rfl) dL_law_562 ⟨by show _ ≤ 218358; omega, by show _ ≤ 8447176; omega⟩ (fun H locs X => ?_)
  refine lv_icmp_eq (tgt := 1150) hx hb dL_law_565 (by decide) (fun _ => ?_) (fun c => absurd rfl c)
  refine W.widen (k := (200 + 36 * (N + 1))) (n := (120000 + 10367 * (N + 1))) (by omega) (by omega) ?_
  have e9 : gR q.2.1 9 = sp.map (fun u => u.1) := ((fr 9 (by decide)).2.2.2.2.2.2).trans h9
  have e10 : gR q.2.1 10 = some a.1 := (fr 10 (by decide)).2.2.2.2.2.2
  have e11 : gR q.2.1 11 = some r.1 := (fr 11 (by decide)).2.2.2.2.2.2
  have X : Hx D _ (fun q : Nat => s.heap.size ≤ q) s H locs (wX11 hT aT yT q.2.1 ++ (wTP (aT 0) aT_0 yT_0 gT_0 ++ (wKP (aT 4) aT_4 yT_4 gT_4 ++ (wX6 (aT 2) aT_2 yT_2 gT_2 ++ (wX9 (aT 3) aT_3 yT_3 gT_3 ++ (wX1 (aT 5) (va_up (va_up aT_5 0 (aT 2)) 1 (aT 3)) yT_5 q.2.2.1 ++ (wX3 (aT 6) (va_up aT_6 0 (aT 2)) yT_6 gT_6 ++ (wX10 (aT 7) aT_7 yT_7 gT_7 ++ (wX4 hT_8 aT_8 yT_8 gT_8 ++ (wX0 (aT_8 0) aT_8_0 yT_8_0 gT_8_0 ++ (oW wPl sp ++ (oW wCo (some (a.1, a.2.1, q.2.2.2.1)) ++ (oW (wRd (aT 0) (aT 2)) (some (r.1, r.2.1, (q.2.2.2.2.1, q.2.2.2.2.2.1, q.2.2.2.2.2.2.1, q.2.2.2.2.2.2.2))) ++ (oW wSt k0 ++ (oW wSt k1 ++ (oW wSt k2 ++ (oW wSt k3 ++ (wX12 hM aM yM g')))))))))))))))))) := Hx_perm X (pm_2731_2 _ _ _ _ _ _ _ _ _ _ _ _ _ _ _ _ _ _) (fun _ h => h)
  exact cont H locs ⟨aT, yT, aT_0, yT_0, aT_2, yT_2, aT_3, yT_3, aT_4, yT_4, aT_5, yT_5, aT_6, yT_6, aT_7, yT_7, hT_8, aT_8, yT_8, aT_8_0, yT_8_0, q.2.1, gT_0, gT_2, gT_3, gT_4, q.2.2.1, gT_6, gT_7, gT_8, gT_8_0, sp, (some (a.1, a.2.1, q.2.2.2.1)), (some (r.1, r.2.1, (q.2.2.2.2.1, q.2.2.2.2.2.1, q.2.2.2.2.2.2.1, q.2.2.2.2.2.2.2))), k0, k1, k2, k3, kk, aM, yM, g', _, X, (fun q hq => by
        simp only [oT_some, tPl, tRd, tCo, tSt, List.mem_append] at hq ⊢
        (repeat' (refine Or.elim hq ?_ ?_ <;> intro hq)) <;> first | (simp [hq]; done) | exact Or.inr (hty q (by simp only [oT_some, tPl, tRd, tCo, tSt, List.mem_append]; simp [hq]))), hwr, e9, e10, e11, hk0, hk1, hk2, hk3⟩
theorem cs_14 (n0 : T_n_X0_init) (n5 : T_n_X5_init) (k27 : T_k_X11_readAsked_27) (k22 : T_k_X11_await_22) (kL : T_kL_X11_await) (hm : T_c_X12_await) {p : Program} {l : Launch} {e : Env} {s : State} {m : MethodId} {below : List Frame} {meth : Method} {c : Code} {D : Dx} {b L : Nat} {xs : Nat → Int32} {Z : State → Prop} (hL : L ≤ 3072) (C : Cx p s m #[Value.ref b] meth c cL_law ret 4 RL lw_all) (hts : ∀ w ∈ lw_tbl, w.before #[Value.ref b] s = true) (hX : va_X b L xs s s.heap) (hbl : b < s.heap.size) {hT hM N i : Nat} (hN : N < 512) (hi : i + 5 < L) {H : Heap} {locs : List Loc} (hI : LI D (fun q : Nat => s.heap.size ≤ q) s hT hM N H locs) {ls : Array Slot} {iv : Int32} (hiv : iv = nI i) (hl : lv_has ls 4 [(0, .ref b), (1, .ref hT), (2, .ref hM), (3, .int iv)]) (cont : ∀ (H1 : Heap) (locs1 : List Loc), LI D (fun q : Nat => s.heap.size ≤ q) s hT hM (N + 1) H1 locs1 → W p l e room_1 s m #[Value.ref b] below meth c H1 locs1 (200 + 36 * (N + 1)) (120000 + 10367 * (N + 1)) Z (F0 m 1150 ls [])) : W p l e room_1 s m #[Value.ref b] below meth c H locs (200 + 36 * N) (120000 + 10367 * N) Z (F0 m 584 ls []) := by
  obtain ⟨hx, hb, hr, hml, hown, -, hlk⟩ := id C
  have hbA : ¬ (fun q : Nat => s.heap.size ≤ q) b := Nat.not_le.mpr hbl
  have hin0 : vp_in iv L := by rw [hiv]; exact vp_in_nI (by omega) (by omega)
  have hin : ∀ k : Nat, k ≤ 5 → vp_in (iv + nI k) L := fun k hk => vp_in_add hiv (by omega) hL
  obtain ⟨aT, yT, aT_0, yT_0, aT_2, yT_2, aT_3, yT_3, aT_4, yT_4, aT_5, yT_5, aT_6, yT_6, aT_7, yT_7, hT_8, aT_8, yT_8, aT_8_0, yT_8_0, gT, gT_0, gT_2, gT_3, gT_4, gT_5, gT_6, gT_7, gT_8, gT_8_0, sp, ak, rd, k0, k1, k2, k3, kk, aM, yM, gM, tys, X, hty, hw, h9, h10, h11, hk0, hk1, hk2, hk3⟩ := hI
  have hn : 2000000 ≤ 2000000 := Nat.le_refl _
  refine lv_aload_n hx hb dL_law_584 rfl (lv_at hl 1 rfl) ?_
  refine lv_aload_n hx hb dL_law_585 rfl (lv_at hl 0 rfl) ?_
  refine lv_iload_n hx hb dL_law_586 rfl (lv_at hl 3 rfl) ?_
  refine lv_iconst (v := (1 : Int32)) hx hb dL_law_587 (by decide) ?_
  refine lv_iadd hx hb dL_law_588 ?_
  refine va_sld hx hb hX hbl hbA X.2.2.2.1 (hin 1 (by decide)) dL_law_589 ?_
  by_cases hbad : (xs (iv + (1 : Int32)).toNatClampNeg) < 0 ∨ ¬ (xs (iv + (1 : Int32)).toNatClampNeg) ≤ (500 : Int32)
  · obtain ⟨g', f2, hw'⟩ : ∃ g', f_X12_await 2000000 gM (xs (iv + (1 : Int32)).toNatClampNeg) = some ((-1 : Int32), g') ∧ WR (N + 1) hT_8 g' (sI gT 1 (0 : Int32)) gT_0 gT_2 gT_3 gT_6 gT_7 gT_8 gT_8_0 kk := by
      have hw2 := hw.hall (((Fr.sR (A := [10, 11]) (k := 10) (by decide) gT (some 0)).trans (Fr.sR (k := 11) (by decide) _ (some 0)))) ⟨by decide, by decide, by decide, by decide⟩
      obtain ⟨r', g', gT', gs', gm', gc', gr', gsc', gN', gS', f2, f1, hwr, fr, _⟩ := st_await (h10 := 0) (h11 := 0) (ca' := gT) (gr := gT) (gsc := gT) (gN := gT) (gS := gT) (gm := gT_5) hn (by omega) hw2 rfl rfl (xs (iv + (1 : Int32)).toNatClampNeg)
      have e : f_X11_await 2000000 hT_8 0 0 (sR (sR gT 10 (some 0)) 11 (some 0)) gT_0 gT_2 gT_3 gT_5 gT_8 gT_8_0 gT gT gT gT gT (xs (iv + (1 : Int32)).toNatClampNeg) = some ((-1 : Int32), sI (sR (sR gT 10 (some 0)) 11 (some 0)) 1 (0 : Int32), gT_3, gT_5, gT, gT, gT, gT, gT) := by
        unfold f_X11_await
        rcases hbad with h | h
        · rw [if_pos h]; rfl
        · by_cases h0 : (xs (iv + (1 : Int32)).toNatClampNeg) < 0
          · rw [if_pos h0]; rfl
          · rw [if_neg h0, if_neg h]; rfl
      rw [e] at f1
      have f1 := Option.some.inj f1
      simp only [Prod.mk.injEq] at f1
      obtain ⟨rfl, rfl, rfl, -⟩ := f1
      refine ⟨g', f2, hwr.hall (A := [10, 11]) (fun j hj => ⟨rfl, rfl, rfl, rfl, rfl, rfl, ?_⟩) ⟨by decide, by decide, by decide, by decide⟩⟩
      show gR gT j = gR (sR (sR gT 10 (some 0)) 11 (some 0)) j
      exact ((Fr.sR (A := [10, 11]) (k := 10) (by decide) gT (some 0)).trans (Fr.sR (k := 11) (by decide) _ (some 0)) j hj).2.2.2.2.2.2.symm
    have X : Hx D tys (fun q : Nat => s.heap.size ≤ q) s H locs ((wX11 hT aT yT gT) ++ (wTP (aT 0) aT_0 yT_0 gT_0 ++ (wKP (aT 4) aT_4 yT_4 gT_4 ++ (wX6 (aT 2) aT_2 yT_2 gT_2 ++ (wX9 (aT 3) aT_3 yT_3 gT_3 ++ (wX1 (aT 5) (va_up (va_up aT_5 0 (aT 2)) 1 (aT 3)) yT_5 gT_5 ++ (wX3 (aT 6) (va_up aT_6 0 (aT 2)) yT_6 gT_6 ++ (wX10 (aT 7) aT_7 yT_7 gT_7 ++ (wX4 hT_8 aT_8 yT_8 gT_8 ++ (wX0 (aT_8 0) aT_8_0 yT_8_0 gT_8_0 ++ (oW wPl sp ++ (oW wCo ak ++ (oW (wRd (aT 0) (aT 2)) rd ++ (oW wSt k0 ++ (oW wSt k1 ++ (oW wSt k2 ++ (oW wSt k3 ++ (wX12 hM aM yM gM)))))))))))))))))) := Hx_perm X (pm_2731_5 _ _ _ _ _ _ _ _ _ _ _ _ _ _ _ _ _ _) (fun _ h => h)
    refine hc_i (As := [.int (xs (iv + (1 : Int32)).toNatClampNeg)]) (rest := []) C X (g_X11_await_bad l D hT aT yT gT (xs (iv + (1 : Int32)).toNatClampNeg) hbad _) (cwV 1 C.2.2.2.2.2.1 (good_V q6_38 q6_39 q6_40 q1_1 q6_41) rfl rfl rfl (by decide +kernel) ⟨Nat.le_of_ble_eq_true rfl, Nat.le_of_ble_eq_true rfl⟩) (va_recv X.1 X.2.1 (ci := 11) (q0 := 0) rfl rfl) (fun q hq => hty q (by
    simp only [List.mem_append] at hq ⊢
    (repeat' (refine Or.elim hq ?_ ?_ <;> intro hq)) <;> simp [hq])) hl.1 rfl rfl (Nat.le_of_ble_eq_true rfl) dL_law_590 ⟨by show _ ≤ 218358; omega, by show _ ≤ 8447176; omega⟩ (fun H locs X => ?_)
    refine lv_aload_n hx hb dL_law_593 rfl (lv_at hl 2 rfl) ?_
    refine lv_aload_n hx hb dL_law_594 rfl (lv_at hl 0 rfl) ?_
    refine lv_iload_n hx hb dL_law_595 rfl (lv_at hl 3 rfl) ?_
    refine lv_iconst (v := (1 : Int32)) hx hb dL_law_596 (by decide) ?_
    refine lv_iadd hx hb dL_law_597 ?_
    refine va_sld hx hb hX hbl hbA X.2.2.2.1 (hin 1 (by decide)) dL_law_598 ?_
    have X : Hx D tys (fun q : Nat => s.heap.size ≤ q) s H locs ((wX12 hM aM yM gM) ++ (wX11 hT aT yT (sI gT 1 (0 : Int32)) ++ (wTP (aT 0) aT_0 yT_0 gT_0 ++ (wKP (aT 4) aT_4 yT_4 gT_4 ++ (wX6 (aT 2) aT_2 yT_2 gT_2 ++ (wX9 (aT 3) aT_3 yT_3 gT_3 ++ (wX1 (aT 5) (va_up (va_up aT_5 0 (aT 2)) 1 (aT 3)) yT_5 gT_5 ++ (wX3 (aT 6) (va_up aT_6 0 (aT 2)) yT_6 gT_6 ++ (wX10 (aT 7) aT_7 yT_7 gT_7 ++ (wX4 hT_8 aT_8 yT_8 gT_8 ++ (wX0 (aT_8 0) aT_8_0 yT_8_0 gT_8_0 ++ (oW wPl sp ++ (oW wCo ak ++ (oW (wRd (aT 0) (aT 2)) rd ++ (oW wSt k0 ++ (oW wSt k1 ++ (oW wSt k2 ++ (oW wSt k3)))))))))))))))))) := Hx_perm X (pm_2731_6 _ _ _ _ _ _ _ _ _ _ _ _ _ _ _ _ _ _) (fun _ h => h)
    refine hc_i (As := [.int (xs (iv + (1 : Int32)).toNatClampNeg)]) (rest := [.int (-1 : Int32)]) C X (hm l D hM aM yM 2000000 gM (xs (iv + (1 : Int32)).toNatClampNeg) ((-1 : Int32), g') f2 _) (cwV 1 C.2.2.2.2.2.1 (good_V q9_163 q9_164 q9_165 q1_9 q9_166) rfl rfl rfl (by decide +kernel) ⟨Nat.le_of_ble_eq_true rfl, Nat.le_of_ble_eq_true rfl⟩) (va_recv X.1 X.2.1 (ci := 12) (q0 := 0) rfl rfl) (fun q hq => hty q (by
    simp only [List.mem_append] at hq ⊢
    (repeat' (refine Or.elim hq ?_ ?_ <;> intro hq)) <;> simp [hq])) hl.1 rfl rfl (Nat.le_of_ble_eq_true rfl) dL_law_599 ⟨by show _ ≤ 218358; omega, by show _ ≤ 8447176; omega⟩ (fun H locs X => ?_)
    refine lv_icmp_eq (tgt := 1150) hx hb dL_law_602 (by decide) (fun _ => ?_) (fun c => absurd rfl c)
    refine W.widen (k := (200 + 36 * (N + 1))) (n := (120000 + 10367 * (N + 1))) (by omega) (by omega) ?_
    have X : Hx D tys (fun q : Nat => s.heap.size ≤ q) s H locs (wX11 hT aT yT (sI gT 1 (0 : Int32)) ++ (wTP (aT 0) aT_0 yT_0 gT_0 ++ (wKP (aT 4) aT_4 yT_4 gT_4 ++ (wX6 (aT 2) aT_2 yT_2 gT_2 ++ (wX9 (aT 3) aT_3 yT_3 gT_3 ++ (wX1 (aT 5) (va_up (va_up aT_5 0 (aT 2)) 1 (aT 3)) yT_5 gT_5 ++ (wX3 (aT 6) (va_up aT_6 0 (aT 2)) yT_6 gT_6 ++ (wX10 (aT 7) aT_7 yT_7 gT_7 ++ (wX4 hT_8 aT_8 yT_8 gT_8 ++ (wX0 (aT_8 0) aT_8_0 yT_8_0 gT_8_0 ++ (oW wPl sp ++ (oW wCo ak ++ (oW (wRd (aT 0) (aT 2)) rd ++ (oW wSt k0 ++ (oW wSt k1 ++ (oW wSt k2 ++ (oW wSt k3 ++ (wX12 hM aM yM g')))))))))))))))))) := Hx_perm X (pm_2731_2 _ _ _ _ _ _ _ _ _ _ _ _ _ _ _ _ _ _) (fun _ h => h)
    exact cont H locs ⟨aT, yT, aT_0, yT_0, aT_2, yT_2, aT_3, yT_3, aT_4, yT_4, aT_5, yT_5, aT_6, yT_6, aT_7, yT_7, hT_8, aT_8, yT_8, aT_8_0, yT_8_0, (sI gT 1 (0 : Int32)), gT_0, gT_2, gT_3, gT_4, gT_5, gT_6, gT_7, gT_8, gT_8_0, sp, ak, rd, k0, k1, k2, k3, kk, aM, yM, g', tys, X, hty, hw', h9, h10, h11, hk0, hk1, hk2, hk3⟩
  · have c1 : ¬ (xs (iv + (1 : Int32)).toNatClampNeg) < 0 := fun h => hbad (Or.inl h)
    have c2 : (xs (iv + (1 : Int32)).toNatClampNeg) ≤ (500 : Int32) := Decidable.byContradiction (fun h => hbad (Or.inr h))
    have X : Hx D tys (fun q : Nat => s.heap.size ≤ q) s H locs ((wX11 hT aT yT gT ++ (wTP (aT 0) aT_0 yT_0 gT_0 ++ (wX6 (aT 2) aT_2 yT_2 gT_2 ++ (wX9 (aT 3) aT_3 yT_3 gT_3 ++ (wX1 (aT 5) (va_up (va_up aT_5 0 (aT 2)) 1 (aT 3)) yT_5 gT_5 ++ (wX4 hT_8 aT_8 yT_8 gT_8 ++ (wX0 (aT_8 0) aT_8_0 yT_8_0 gT_8_0 ++ (oW wCo ak ++ (oW (wRd (aT 0) (aT 2)) rd))))))))) ++ (wKP (aT 4) aT_4 yT_4 gT_4 ++ (wX3 (aT 6) (va_up aT_6 0 (aT 2)) yT_6 gT_6 ++ (wX10 (aT 7) aT_7 yT_7 gT_7 ++ (oW wPl sp ++ (oW wSt k0 ++ (oW wSt k1 ++ (oW wSt k2 ++ (oW wSt k3 ++ (wX12 hM aM yM gM)))))))))) := Hx_perm X (pm_2731_3 _ _ _ _ _ _ _ _ _ _ _ _ _ _ _ _ _ _) (fun _ h => h)
    have hF : ∀ (r : RDT) (a : COT), RdOf rd hT_8 (aT_8 0) r → CoOf ak a → ∃ q, f_X11_await 2000000 hT_8 a.1 r.1 (sR (sR gT 10 (some a.1)) 11 (some r.1)) gT_0 gT_2 gT_3 gT_5 gT_8 gT_8_0 a.2.2 r.2.2.1 r.2.2.2.1 r.2.2.2.2.1 r.2.2.2.2.2 (xs (iv + (1 : Int32)).toNatClampNeg) = some q ∧ (fun (r : RDT) (a : COT) (q : QWT) => ∃ g', f_X12_await 2000000 gM (xs (iv + (1 : Int32)).toNatClampNeg) = some (q.1, g') ∧ Fr [1, 12, 13] (sR (sR gT 10 (some a.1)) 11 (some r.1)) q.2.1 ∧ WR (N + 1) hT_8 g' q.2.1 gT_0 gT_2 q.2.2.1 gT_6 gT_7 gT_8 gT_8_0 kk) r a q := by
        intro r a _ _
        have hw2 := hw.hall (((Fr.sR (A := [10, 11]) (k := 10) (by decide) gT (some a.1)).trans (Fr.sR (k := 11) (by decide) _ (some r.1)))) ⟨by decide, by decide, by decide, by decide⟩
        obtain ⟨r', g', gT', gs', gm', gc', gr', gsc', gN', gS', f2, f1, hwr, fr, _⟩ := st_await (h10 := a.1) (h11 := r.1) (ca' := a.2.2) (gr := r.2.2.1) (gsc := r.2.2.2.1) (gN := r.2.2.2.2.1) (gS := r.2.2.2.2.2) (gm := gT_5) hn (by omega) hw2 rfl rfl (xs (iv + (1 : Int32)).toNatClampNeg)
        exact ⟨_, f1, g', f2, fr, hwr⟩
    refine hc_x (As := [.int (xs (iv + (1 : Int32)).toNatClampNeg)]) (rest := []) C X (g_X11_await n0 n5 k27 k22 kL l D hT aT yT aT_0 yT_0 aT_2 yT_2 aT_3 yT_3 aT_5 yT_5 hT_8 aT_8 yT_8 aT_8_0 yT_8_0 2000000 gT gT_0 gT_2 gT_3 gT_5 gT_8 gT_8_0 (xs (iv + (1 : Int32)).toNatClampNeg) c1 c2 ak rd (of_decide_eq_true hw.rEq) h10 h11 _ hF _) (cwV 1 C.2.2.2.2.2.1 (good_V q6_38 q6_39 q6_40 q1_1 q6_41) rfl rfl rfl (by decide +kernel) ⟨Nat.le_of_ble_eq_true rfl, Nat.le_of_ble_eq_true rfl⟩) (va_recv X.1 X.2.1 (ci := 11) (q0 := 0) rfl rfl) (fun q hq => hty q (by
        simp only [List.mem_append] at hq ⊢
        (repeat' (refine Or.elim hq ?_ ?_ <;> intro hq)) <;> simp [hq])) hl.1 rfl rfl (Nat.le_of_ble_eq_true rfl) dL_law_590 ⟨by show _ ≤ 218358; omega, by show _ ≤ 8447176; omega⟩ (fun v u H locs hpost X => ?_)
    obtain ⟨r, a, q⟩ := u
    obtain ⟨hv, g', f2, fr, hwr⟩ := hpost
    dsimp only at hv f2 fr hwr
    subst hv
    refine lv_aload_n hx hb dL_law_593 rfl (lv_at hl 2 rfl) ?_
    refine lv_aload_n hx hb dL_law_594 rfl (lv_at hl 0 rfl) ?_
    refine lv_iload_n hx hb dL_law_595 rfl (lv_at hl 3 rfl) ?_
    refine lv_iconst (v := (1 : Int32)) hx hb dL_law_596 (by decide) ?_
    refine lv_iadd hx hb dL_law_597 ?_
    refine va_sld hx hb hX hbl hbA X.2.2.2.1 (hin 1 (by decide)) dL_law_598 ?_
    have X : Hx D _ (fun q : Nat => s.heap.size ≤ q) s H locs ((wX12 hM aM yM gM) ++ (wX11 hT aT yT q.2.1 ++ (wTP (aT 0) aT_0 yT_0 gT_0 ++ (wKP (aT 4) aT_4 yT_4 gT_4 ++ (wX6 (aT 2) aT_2 yT_2 gT_2 ++ (wX9 (aT 3) aT_3 yT_3 q.2.2.1 ++ (wX1 (aT 5) (va_up (va_up aT_5 0 (aT 2)) 1 (aT 3)) yT_5 q.2.2.2.1 ++ (wX3 (aT 6) (va_up aT_6 0 (aT 2)) yT_6 gT_6 ++ (wX10 (aT 7) aT_7 yT_7 gT_7 ++ (wX4 hT_8 aT_8 yT_8 gT_8 ++ (wX0 (aT_8 0) aT_8_0 yT_8_0 gT_8_0 ++ (oW wPl sp ++ (wCo (a.1, a.2.1, q.2.2.2.2.1) ++ (wRd (aT 0) (aT 2) (r.1, r.2.1, (q.2.2.2.2.2.1, q.2.2.2.2.2.2.1, q.2.2.2.2.2.2.2.1, q.2.2.2.2.2.2.2.2)) ++ (oW wSt k0 ++ (oW wSt k1 ++ (oW wSt k2 ++ (oW wSt k3)))))))))))))))))) := Hx_perm X (pm_2731_4 _ _ _ _ _ _ _ _ _ _ _ _ _ _ _ _ _ _) (fun _ h => h)
    refine hc_i (As := [.int (xs (iv + (1 : Int32)).toNatClampNeg)]) (rest := [.int q.1]) C X (hm l D hM aM yM 2000000 gM (xs (iv + (1 : Int32)).toNatClampNeg) (q.1, g') f2 _) (cwV 1 C.2.2.2.2.2.1 (good_V q9_163 q9_164 q9_165 q1_9 q9_166) rfl rfl rfl (by decide +kernel) ⟨Nat.le_of_ble_eq_true rfl, Nat.le_of_ble_eq_true rfl⟩) (va_recv X.1 X.2.1 (ci := 12) (q0 := 0) rfl rfl) (fun q hq => List.mem_append_right _ (hty q (by
          simp only [List.mem_append]
          simp [hq]))) hl.1 rfl rfl (Nat.le_of_ble_eq_true rfl) dL_law_599 ⟨by show _ ≤ 218358; omega, by show _ ≤ 8447176; omega⟩ (fun H locs X => ?_)
    refine lv_icmp_eq (tgt := 1150) hx hb dL_law_602 (by decide) (fun _ => ?_) (fun c => absurd rfl c)
    refine W.widen (k := (200 + 36 * (N + 1))) (n := (120000 + 10367 * (N + 1))) (by omega) (by omega) ?_
    have e9 : gR q.2.1 9 = sp.map (fun u => u.1) := ((fr 9 (by decide)).2.2.2.2.2.2).trans h9
    have e10 : gR q.2.1 10 = some a.1 := (fr 10 (by decide)).2.2.2.2.2.2
    have e11 : gR q.2.1 11 = some r.1 := (fr 11 (by decide)).2.2.2.2.2.2
    have X : Hx D _ (fun q : Nat => s.heap.size ≤ q) s H locs (wX11 hT aT yT q.2.1 ++ (wTP (aT 0) aT_0 yT_0 gT_0 ++ (wKP (aT 4) aT_4 yT_4 gT_4 ++ (wX6 (aT 2) aT_2 yT_2 gT_2 ++ (wX9 (aT 3) aT_3 yT_3 q.2.2.1 ++ (wX1 (aT 5) (va_up (va_up aT_5 0 (aT 2)) 1 (aT 3)) yT_5 q.2.2.2.1 ++ (wX3 (aT 6) (va_up aT_6 0 (aT 2)) yT_6 gT_6 ++ (wX10 (aT 7) aT_7 yT_7 gT_7 ++ (wX4 hT_8 aT_8 yT_8 gT_8 ++ (wX0 (aT_8 0) aT_8_0 yT_8_0 gT_8_0 ++ (oW wPl sp ++ (oW wCo (some (a.1, a.2.1, q.2.2.2.2.1)) ++ (oW (wRd (aT 0) (aT 2)) (some (r.1, r.2.1, (q.2.2.2.2.2.1, q.2.2.2.2.2.2.1, q.2.2.2.2.2.2.2.1, q.2.2.2.2.2.2.2.2))) ++ (oW wSt k0 ++ (oW wSt k1 ++ (oW wSt k2 ++ (oW wSt k3 ++ (wX12 hM aM yM g')))))))))))))))))) := Hx_perm X (pm_2731_2 _ _ _ _ _ _ _ _ _ _ _ _ _ _ _ _ _ _) (fun _ h => h)
    exact cont H locs ⟨aT, yT, aT_0, yT_0, aT_2, yT_2, aT_3, yT_3, aT_4, yT_4, aT_5, yT_5, aT_6, yT_6, aT_7, yT_7, hT_8, aT_8, yT_8, aT_8_0, yT_8_0, q.2.1, gT_0, gT_2, q.2.2.1, gT_4, q.2.2.2.1, gT_6, gT_7, gT_8, gT_8_0, sp, (some (a.1, a.2.1, q.2.2.2.2.1)), (some (r.1, r.2.1, (q.2.2.2.2.2.1, q.2.2.2.2.2.2.1, q.2.2.2.2.2.2.2.1, q.2.2.2.2.2.2.2.2))), k0, k1, k2, k3, kk, aM, yM, g', _, X, (fun q hq => by
          simp only [oT_some, tPl, tRd, tCo, tSt, List.mem_append] at hq ⊢
          (repeat' (refine Or.elim hq ?_ ?_ <;> intro hq)) <;> first | (simp [hq]; done) | exact Or.inr (hty q (by simp only [oT_some, tPl, tRd, tCo, tSt, List.mem_append]; simp [hq]))), hwr, e9, e10, e11, hk0, hk1, hk2, hk3⟩
