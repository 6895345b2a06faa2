theorem q5_129 : Cond.methodLink RL 28 yX11_fault ∈ lw_all := lw_in (tc_5 (List.mem_of_getElem? (i := 129) rfl)) rfl
theorem q5_130 : Cond.instanceMethod yX11_fault ∈ lw_all := lw_in (tc_5 (List.mem_of_getElem? (i := 130) rfl)) rfl
theorem q5_131 : Cond.selects RX11 yX11_fault yX11_fault ∈ lw_all := lw_in (tc_5 (List.mem_of_getElem? (i := 131) rfl)) rfl
theorem q5_132 : Cond.code yX11_fault cX11_fault 1 (some .int) ∈ lw_all := lw_in (tc_5 (List.mem_of_getElem? (i := 132) rfl)) rfl
theorem q9_157 : Cond.methodLink RL 31 yX12_fault_ ∈ lw_all := lw_in (tc_9 (List.mem_of_getElem? (i := 157) rfl)) rfl
theorem q9_158 : Cond.instanceMethod yX12_fault_ ∈ lw_all := lw_in (tc_9 (List.mem_of_getElem? (i := 158) rfl)) rfl
theorem q9_159 : Cond.selects RX12 yX12_fault_ yX12_fault_ ∈ lw_all := lw_in (tc_9 (List.mem_of_getElem? (i := 159) rfl)) rfl
theorem q9_160 : Cond.code yX12_fault_ cX12_fault_ 1 (some .int) ∈ lw_all := lw_in (tc_9 (List.mem_of_getElem? (i := 160) rfl)) rfl
theorem pm_2721_0 (B_11 B_0 B_4 B_2 B_3 B_5 B_6 B_7 B_8 B_80 B_sp B_ak B_rd B_k0 B_k1 B_k2 B_k3 B_M : va_W) : ((B_11 ++ (B_0 ++ (B_4 ++ (B_2 ++ (B_3 ++ (B_5 ++ (B_6 ++ (B_7 ++ (B_8 ++ (B_80 ++ (B_sp ++ (B_ak ++ (B_rd ++ (B_k0 ++ (B_k1 ++ (B_k2 ++ (B_k3 ++ (B_M))))))))))))))))))).Perm ((B_11) ++ (B_0 ++ (B_4 ++ (B_2 ++ (B_3 ++ (B_5 ++ (B_6 ++ (B_7 ++ (B_8 ++ (B_80 ++ (B_sp ++ (B_ak ++ (B_rd ++ (B_k0 ++ (B_k1 ++ (B_k2 ++ (B_k3 ++ (B_M)))))))))))))))))) := by
  refine perm_cnt (fun c hc => ?_)
  simp only [hc]
  all_goals omega
theorem pm_2721_1 (B_11 B_0 B_4 B_2 B_3 B_5 B_6 B_7 B_8 B_80 B_sp B_ak B_rd B_k0 B_k1 B_k2 B_k3 B_M : va_W) : ((B_11) ++ (B_0 ++ (B_4 ++ (B_2 ++ (B_3 ++ (B_5 ++ (B_6 ++ (B_7 ++ (B_8 ++ (B_80 ++ (B_sp ++ (B_ak ++ (B_rd ++ (B_k0 ++ (B_k1 ++ (B_k2 ++ (B_k3 ++ (B_M)))))))))))))))))).Perm ((B_M) ++ (B_11 ++ (B_0 ++ (B_4 ++ (B_2 ++ (B_3 ++ (B_5 ++ (B_6 ++ (B_7 ++ (B_8 ++ (B_80 ++ (B_sp ++ (B_ak ++ (B_rd ++ (B_k0 ++ (B_k1 ++ (B_k2 ++ (B_k3)))))))))))))))))) := by
  refine perm_cnt (fun c hc => ?_)
  simp only [hc]
  all_goals omega
theorem pm_2721_2 (B_11 B_0 B_4 B_2 B_3 B_5 B_6 B_7 B_8 B_80 B_sp B_ak B_rd B_k0 B_k1 B_k2 B_k3 B_M : va_W) : ((B_M) ++ (B_11 ++ (B_0 ++ (B_4 ++ (B_2 ++ (B_3 ++ (B_5 ++ (B_6 ++ (B_7 ++ (B_8 ++ (B_80 ++ (B_sp ++ (B_ak ++ (B_rd ++ (B_k0 ++ (B_k1 ++ (B_k2 ++ (B_k3)))))))))))))))))).Perm ((B_11 ++ (B_0 ++ (B_4 ++ (B_2 ++ (B_3 ++ (B_5 ++ (B_6 ++ (B_7 ++ (B_8 ++ (B_80 ++ (B_sp ++ (B_ak ++ (B_rd ++ (B_k0 ++ (B_k1 ++ (B_k2 ++ (B_k3 ++ (B_M))))))))))))))))))) := by
  refine perm_cnt (fun c hc => ?_)
  simp only [hc]
  all_goals omega
theorem cs_3 (hh : T_c_X11_fault) (hm : T_c_X12_fault_) {p : Program} {l : Launch} {e : Env} {s : State} {m : MethodId} {below : List Frame} {meth : Method} {c : Code} {D : Dx} {b L : Nat} {xs : Nat → Int32} {Z : State → Prop} (hL : L ≤ 3072) (C : Cx p s m #[Value.ref b] meth c cL_law ret 4 RL lw_all) (hts : ∀ w ∈ lw_tbl, w.before #[Value.ref b] s = true) (hX : va_X b L xs s s.heap) (hbl : b < s.heap.size) {hT hM N i : Nat} (hN : N < 512) (hi : i + 5 < L) {H : Heap} {locs : List Loc} (hI : LI D (fun q : Nat => s.heap.size ≤ q) s hT hM N H locs) {ls : Array Slot} {iv : Int32} (hiv : iv = nI i) (hl : lv_has ls 4 [(0, .ref b), (1, .ref hT), (2, .ref hM), (3, .int iv)]) (cont : ∀ (H1 : Heap) (locs1 : List Loc), LI D (fun q : Nat => s.heap.size ≤ q) s hT hM (N + 1) H1 locs1 → W p l e room_1 s m #[Value.ref b] below meth c H1 locs1 (200 + 36 * (N + 1)) (120000 + 10367 * (N + 1)) Z (F0 m 1150 ls [])) : W p l e room_1 s m #[Value.ref b] below meth c H locs (200 + 36 * N) (120000 + 10367 * N) Z (F0 m 247 ls []) := by
  obtain ⟨hx, hb, hr, hml, hown, -, hlk⟩ := id C
  have hbA : ¬ (fun q : Nat => s.heap.size ≤ q) b := Nat.not_le.mpr hbl
  have hin0 : vp_in iv L := by rw [hiv]; exact vp_in_nI (by omega) (by omega)
  have hin : ∀ k : Nat, k ≤ 5 → vp_in (iv + nI k) L := fun k hk => vp_in_add hiv (by omega) hL
  obtain ⟨aT, yT, aT_0, yT_0, aT_2, yT_2, aT_3, yT_3, aT_4, yT_4, aT_5, yT_5, aT_6, yT_6, aT_7, yT_7, hT_8, aT_8, yT_8, aT_8_0, yT_8_0, gT, gT_0, gT_2, gT_3, gT_4, gT_5, gT_6, gT_7, gT_8, gT_8_0, sp, ak, rd, k0, k1, k2, k3, kk, aM, yM, gM, tys, X, hty, hw, h9, h10, h11, hk0, hk1, hk2, hk3⟩ := hI
  have hn : 2000000 ≤ 2000000 := Nat.le_refl _
  obtain ⟨r, f2, f1⟩ := st_fault hw 
  refine lv_aload_n hx hb dL_law_247 rfl (lv_at hl 1 rfl) ?_
  have X : Hx D tys (fun q : Nat => s.heap.size ≤ q) s H locs ((wX11 hT aT yT gT) ++ (wTP (aT 0) aT_0 yT_0 gT_0 ++ (wKP (aT 4) aT_4 yT_4 gT_4 ++ (wX6 (aT 2) aT_2 yT_2 gT_2 ++ (wX9 (aT 3) aT_3 yT_3 gT_3 ++ (wX1 (aT 5) (va_up (va_up aT_5 0 (aT 2)) 1 (aT 3)) yT_5 gT_5 ++ (wX3 (aT 6) (va_up aT_6 0 (aT 2)) yT_6 gT_6 ++ (wX10 (aT 7) aT_7 yT_7 gT_7 ++ (wX4 hT_8 aT_8 yT_8 gT_8 ++ (wX0 (aT_8 0) aT_8_0 yT_8_0 gT_8_0 ++ (oW wPl sp ++ (oW wCo ak ++ (oW (wRd (aT 0) (aT 2)) rd ++ (oW wSt k0 ++ (oW wSt k1 ++ (oW wSt k2 ++ (oW wSt k3 ++ (wX12 hM aM yM gM)))))))))))))))))) := Hx_perm X (pm_2721_0 _ _ _ _ _ _ _ _ _ _ _ _ _ _ _ _ _ _) (fun _ h => h)
  refine hc_i (As := []) (rest := []) C X (hh l D hT aT yT gT r f1 _) (cwV 0 C.2.2.2.2.2.1 (good_V q5_129 q5_130 q5_131 q1_1 q5_132) rfl rfl rfl (by decide +kernel) ⟨Nat.le_of_ble_eq_true rfl, Nat.le_of_ble_eq_true rfl⟩) (va_recv X.1 X.2.1 (ci := 11) (q0 := 0) rfl rfl) (fun q hq => hty q (by
    simp only [List.mem_append] at hq ⊢
    (repeat' (refine Or.elim hq ?_ ?_ <;> intro hq)) <;> simp [hq])) hl.1 rfl rfl (Nat.le_of_ble_eq_true rfl) dL_law_248 ⟨by show _ ≤ 218358; omega, by show _ ≤ 8447176; omega⟩ (fun H locs X => ?_)
  refine lv_aload_n hx hb dL_law_251 rfl (lv_at hl 2 rfl) ?_
  have X : Hx D tys (fun q : Nat => s.heap.size ≤ q) s H locs ((wX12 hM aM yM gM) ++ (wX11 hT aT yT gT ++ (wTP (aT 0) aT_0 yT_0 gT_0 ++ (wKP (aT 4) aT_4 yT_4 gT_4 ++ (wX6 (aT 2) aT_2 yT_2 gT_2 ++ (wX9 (aT 3) aT_3 yT_3 gT_3 ++ (wX1 (aT 5) (va_up (va_up aT_5 0 (aT 2)) 1 (aT 3)) yT_5 gT_5 ++ (wX3 (aT 6) (va_up aT_6 0 (aT 2)) yT_6 gT_6 ++ (wX10 (aT 7) aT_7 yT_7 gT_7 ++ (wX4 hT_8 aT_8 yT_8 gT_8 ++ (wX0 (aT_8 0) aT_8_0 yT_8_0 gT_8_0 ++ (oW wPl sp ++ (oW wCo ak ++ (oW (wRd (aT 0) (aT 2)) rd ++ (oW wSt k0 ++ (oW wSt k1 ++ (oW wSt k2 ++ (oW wSt k3)))))))))))))))))) := Hx_perm X (pm_2721_1 _ _ _ _ _ _ _ _ _ _ _ _ _ _ _ _ _ _) (fun _ h => h)
  refine hc_i (As := []) (rest := [.int r]) C X (hm l D hM aM yM gM r f2 _) (cwV 0 C.2.2.2.2.2.1 (good_V q9_157 q9_158 q9_159 q1_9 q9_160) rfl rfl rfl (by decide +kernel) ⟨Nat.le_of_ble_eq_true rfl, Nat.le_of_ble_eq_true rfl⟩) (va_recv X.1 X.2.1 (ci := 12) (q0 := 0) rfl rfl) (fun q hq => hty q (by
    simp only [List.mem_append] at hq ⊢
    (repeat' (refine Or.elim hq ?_ ?_ <;> intro hq)) <;> simp [hq])) hl.1 rfl rfl (Nat.le_of_ble_eq_true rfl) dL_law_252 ⟨by show _ ≤ 218358; omega, by show _ ≤ 8447176; omega⟩ (fun H locs X => ?_)
  refine lv_icmp_eq (tgt := 1150) hx hb dL_law_255 (by decide) (fun _ => ?_) (fun c => absurd rfl c)
  refine W.widen (k := (200 + 36 * (N + 1))) (n := (120000 + 10367 * (N + 1))) (by omega) (by omega) ?_
  have X : Hx D tys (fun q : Nat => s.heap.size ≤ q) s H locs (wX11 hT aT yT gT ++ (wTP (aT 0) aT_0 yT_0 gT_0 ++ (wKP (aT 4) aT_4 yT_4 gT_4 ++ (wX6 (aT 2) aT_2 yT_2 gT_2 ++ (wX9 (aT 3) aT_3 yT_3 gT_3 ++ (wX1 (aT 5) (va_up (va_up aT_5 0 (aT 2)) 1 (aT 3)) yT_5 gT_5 ++ (wX3 (aT 6) (va_up aT_6 0 (aT 2)) yT_6 gT_6 ++ (wX10 (aT 7) aT_7 yT_7 gT_7 ++ (wX4 hT_8 aT_8 yT_8 gT_8 ++ (wX0 (aT_8 0) aT_8_0 yT_8_0 gT_8_0 ++ (oW wPl sp ++ (oW wCo ak ++ (oW (wRd (aT 0) (aT 2)) rd ++ (oW wSt k0 ++ (oW wSt k1 ++ (oW wSt k2 ++ (oW wSt k3 ++ (wX12 hM aM yM gM)))))))))))))))))) := Hx_perm X (pm_2721_2 _ _ _ _ _ _ _ _ _ _ _ _ _ _ _ _ _ _) (fun _ h => h)
  exact cont H locs ⟨aT, yT, aT_0, yT_0, aT_2, yT_2, aT_3, yT_3, aT_4, yT_4, aT_5, yT_5, aT_6, yT_6, aT_7, yT_7, hT_8, aT_8, yT_8, aT_8_0, yT_8_0, gT, gT_0, gT_2, gT_3, gT_4, gT_5, gT_6, gT_7, gT_8, gT_8_0, sp, ak, rd, k0, k1, k2, k3, kk, aM, yM, gM, tys, X, hty, hw.idle, h9, h10, h11, hk0, hk1, hk2, hk3⟩
