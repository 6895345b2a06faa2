theorem q2_202 : Cond.methodLink RL 23 yX11_plan ∈ lw_all := lw_in (tc_2 (List.mem_of_getElem? (i := 202) rfl)) rfl
theorem q2_203 : Cond.instanceMethod yX11_plan ∈ lw_all := lw_in (tc_2 (List.mem_of_getElem? (i := 203) rfl)) rfl
theorem q2_204 : Cond.selects RX11 yX11_plan yX11_plan ∈ lw_all := lw_in (tc_2 (List.mem_of_getElem? (i := 204) rfl)) rfl
theorem q2_205 : Cond.code yX11_plan cX11_plan 3 (some .int) ∈ lw_all := lw_in (tc_2 (List.mem_of_getElem? (i := 205) rfl)) rfl
theorem q8_65 : Cond.methodLink RL 27 yX12_plan ∈ lw_all := lw_in (tc_8 (List.mem_of_getElem? (i := 65) rfl)) rfl
theorem q8_66 : Cond.instanceMethod yX12_plan ∈ lw_all := lw_in (tc_8 (List.mem_of_getElem? (i := 66) rfl)) rfl
theorem q8_67 : Cond.selects RX12 yX12_plan yX12_plan ∈ lw_all := lw_in (tc_8 (List.mem_of_getElem? (i := 67) rfl)) rfl
theorem q8_68 : Cond.code yX12_plan cX12_plan 1 (some .int) ∈ lw_all := lw_in (tc_8 (List.mem_of_getElem? (i := 68) rfl)) rfl
theorem pm_2730_0 (B_11 B_0 B_4 B_2 B_3 B_5 B_6 B_7 B_8 B_80 B_sp B_ak B_rd B_k0 B_k1 B_k2 B_k3 B_M : va_W) : ((B_11 ++ (B_0 ++ (B_4 ++ (B_2 ++ (B_3 ++ (B_5 ++ (B_6 ++ (B_7 ++ (B_8 ++ (B_80 ++ (B_sp ++ (B_ak ++ (B_rd ++ (B_k0 ++ (B_k1 ++ (B_k2 ++ (B_k3 ++ (B_M))))))))))))))))))).Perm ((B_11 ++ (B_0 ++ (B_2 ++ (B_3 ++ (B_5 ++ (B_8 ++ (B_80 ++ (B_sp ++ (B_rd))))))))) ++ (B_4 ++ (B_6 ++ (B_7 ++ (B_ak ++ (B_k0 ++ (B_k1 ++ (B_k2 ++ (B_k3 ++ (B_M)))))))))) := by
  refine perm_cnt (fun c hc => ?_)
  simp only [hc]
  all_goals omega
theorem pm_2730_1 (B_11 B_0 B_4 B_2 B_3 B_5 B_6 B_7 B_8 B_80 B_sp B_ak B_rd B_k0 B_k1 B_k2 B_k3 B_M : va_W) : ((B_11 ++ (B_0 ++ (B_2 ++ (B_3 ++ (B_5 ++ (B_8 ++ (B_80 ++ (B_sp ++ (B_rd))))))))) ++ (B_4 ++ (B_6 ++ (B_7 ++ (B_ak ++ (B_k0 ++ (B_k1 ++ (B_k2 ++ (B_k3 ++ (B_M)))))))))).Perm ((B_M) ++ (B_11 ++ (B_0 ++ (B_4 ++ (B_2 ++ (B_3 ++ (B_5 ++ (B_6 ++ (B_7 ++ (B_8 ++ (B_80 ++ (B_sp ++ (B_ak ++ (B_rd ++ (B_k0 ++ (B_k1 ++ (B_k2 ++ (B_k3)))))))))))))))))) := by
  refine perm_cnt (fun c hc => ?_)
  simp only [hc]
  all_goals omega
theorem pm_2730_2 (B_11 B_0 B_4 B_2 B_3 B_5 B_6 B_7 B_8 B_80 B_sp B_ak B_rd B_k0 B_k1 B_k2 B_k3 B_M : va_W) : ((B_M) ++ (B_11 ++ (B_0 ++ (B_4 ++ (B_2 ++ (B_3 ++ (B_5 ++ (B_6 ++ (B_7 ++ (B_8 ++ (B_80 ++ (B_sp ++ (B_ak ++ (B_rd ++ (B_k0 ++ (B_k1 ++ (B_k2 ++ (B_k3)))))))))))))))))).Perm ((B_11 ++ (B_0 ++ (B_4 ++ (B_2 ++ (B_3 ++ (B_5 ++ (B_6 ++ (B_7 ++ (B_8 ++ (B_80 ++ (B_sp ++ (B_ak ++ (B_rd ++ (B_k0 ++ (B_k1 ++ (B_k2 ++ (B_k3 ++ (B_M))))))))))))))))))) := by
  refine perm_cnt (fun c hc => ?_)
  simp only [hc]
  all_goals omega
theorem pm_2730_3 (B_11 B_0 B_4 B_2 B_3 B_5 B_6 B_7 B_8 B_80 B_ak B_rd B_k0 B_k1 B_k2 B_k3 B_M B_n8 B_n80 : va_W) : ((B_M) ++ (B_11 ++ (B_0 ++ (B_4 ++ (B_2 ++ (B_3 ++ (B_5 ++ (B_6 ++ (B_7 ++ (B_8 ++ (B_80 ++ ((B_n8 ++ B_n80) ++ (B_ak ++ (B_rd ++ (B_k0 ++ (B_k1 ++ (B_k2 ++ (B_k3)))))))))))))))))).Perm ((B_11 ++ (B_0 ++ (B_4 ++ (B_2 ++ (B_3 ++ (B_5 ++ (B_6 ++ (B_7 ++ (B_n8 ++ (B_n80 ++ ((B_8 ++ B_80) ++ (B_ak ++ (B_rd ++ (B_k0 ++ (B_k1 ++ (B_k2 ++ (B_k3 ++ (B_M))))))))))))))))))) := by
  refine perm_cnt (fun c hc => ?_)
  simp only [hc]
  all_goals omega
section LawRows2
variable {p : Program} {l : Launch} {e : Env} {R : Room} {s : State} {m : MethodId} {args : Array Value} {below : List Frame} {meth : Method} {c : Code} {H : Heap} {locs : List Loc} {Q : State → Prop} {cc : ByteArray} {ret0 : Option FieldType} {nL : Nat} {own : String} {D : Dx} {tys : List (ClassId × FieldType)} {A : Nat → Prop} {cells slots pc : Nat} {ls : Array Slot} {rest st0 As : List Value} {y : MethodName} {bytes : ByteArray} {maxL n idx : Nat} {retC : Option FieldType} {rm : Room} {tysC : List (ClassId × FieldType)} {wC wr w1 : va_W}
theorem hc_x {S : Type} {post : Int32 → S → Prop} {wQ : S → va_W} {tQ : S → List (ClassId × FieldType)} {mc ms : Nat} {Cn : String} {b : Nat} (C : Cx p s m args meth c cc ret0 nL own lw_all) (X : Hx D tys A s H locs (wC ++ wr)) (hM : Met l y (ws_ y bytes maxL retC) rm (PC D tysC (.ref b :: As) wC H.size) (va_Qi post (fun u t => va_P D.1 vwCl (wQ u) t.heap ∧ va_K D.1 vwCl (tQ u) t ∧ va_D (va_A wC H.size) (wQ u)) (va_A wC H.size)) mc ms (va_A wC H.size)) (cw : CallW R s args own Cn idx y bytes maxL retC (ws_ y bytes maxL retC) rm mc ms n) (hrv : ∃ cellB : Cell, H[b]? = some cellB ∧ cellB.vm.isStatics = false ∧ s.vm.findClass Cn = some cellB.cls) (ht : ∀ q ∈ tysC, q ∈ tys) (hls : ls.size = nL) (hn : As.length = n) (hst : st0 = As.reverse ++ .ref b :: rest) (hW : (rest.map fun v => v.category).sum ≤ 8) (hdg : decode cc pc = .ok (.invokevirtual idx, 3)) (hcs : cells + mc ≤ R.cells ∧ slots + ms ≤ R.slots) (kk : ∀ (v : Int32) (u : S) (H1 : Heap) (locs1 : List Loc), post v u → Hx D (tQ u ++ tys) A s H1 locs1 (wQ u ++ wr) → W p l e R s m args below meth c H1 locs1 (cells + mc) (slots + ms) Q (F0 m (pc + 3) ls (.int v :: rest))) : W p l e R s m args below meth c H locs cells slots Q (F0 m pc ls st0) := by
  have hpr := Hx_pre X
  have hFc := Hx_free X
  refine va_calli (va_runV (As := As) (rest := rest) ⟨C.1, C.2.1, C.2.2.2.1, C.2.2.2.2.1, C.2.2.2.2.2.1⟩ hM cw ⟨PC_blind, hrv, PC_at (va_K_mem X.1 ht) hpr.1 hpr.2 X.2.2.2.2.2 X.2.2.2.1 hFc⟩ rfl hn hls hst (lv_room hW) hdg hcs) X.2.2.2.1 (fun q _ h => hFc q h) hFc (fun v u t H1 locs1 ht1 hvm hw hB hz1 hk1 hS => ?_)
  obtain ⟨hP1, hK1, hD1⟩ := hB
  rw [ht1] at hP1
  exact kk v u H1 locs1 hw (Hx_frame X (va_K.moved hvm.symm hK1) hP1 hD1 hk1 hS)
end LawRows2

theorem cs_2 (n4 : T_n_X4_init) (n5 : T_n_X5_init) (k26 : T_k_X11_plan_26) (hm : T_c_X12_plan) {p : Program} {l : Launch} {e : Env} {s : State} {m : MethodId} {below : List Frame} {meth : Method} {c : Code} {D : Dx} {b L : Nat} {xs : Nat → Int32} {Z : State → Prop} (hL : L ≤ 3072) (C : Cx p s m #[Value.ref b] meth c cL_law ret 4 RL lw_all) (hts : ∀ w ∈ lw_tbl, w.before #[Value.ref b] s = true) (hX : va_X b L xs s s.heap) (hbl : b < s.heap.size) {hT hM N i : Nat} (hN : N < 512) (hi : i + 5 < L) {H : Heap} {locs : List Loc} (hI : LI D (fun q : Nat => s.heap.size ≤ q) s hT hM N H locs) {ls : Array Slot} {iv : Int32} (hiv : iv = nI i) (hl : lv_has ls 4 [(0, .ref b), (1, .ref hT), (2, .ref hM), (3, .int iv)]) (cont : ∀ (H1 : Heap) (locs1 : List Loc), LI D (fun q : Nat => s.heap.size ≤ q) s hT hM (N + 1) H1 locs1 → W p l e room_1 s m #[Value.ref b] below meth c H1 locs1 (200 + 36 * (N + 1)) (120000 + 10367 * (N + 1)) Z (F0 m 1150 ls [])) : W p l e room_1 s m #[Value.ref b] below meth c H locs (200 + 36 * N) (120000 + 10367 * N) Z (F0 m 234 ls []) := by
  obtain ⟨hx, hb, hr, hml, hown, -, hlk⟩ := id C
  have hbA : ¬ (fun q : Nat => s.heap.size ≤ q) b := Nat.not_le.mpr hbl
  have hin0 : vp_in iv L := by rw [hiv]; exact vp_in_nI (by omega) (by omega)
  have hin : ∀ k : Nat, k ≤ 5 → vp_in (iv + nI k) L := fun k hk => vp_in_add hiv (by omega) hL
  obtain ⟨aT, yT, aT_0, yT_0, aT_2, yT_2, aT_3, yT_3, aT_4, yT_4, aT_5, yT_5, aT_6, yT_6, aT_7, yT_7, hT_8, aT_8, yT_8, aT_8_0, yT_8_0, gT, gT_0, gT_2, gT_3, gT_4, gT_5, gT_6, gT_7, gT_8, gT_8_0, sp, ak, rd, k0, k1, k2, k3, kk, aM, yM, gM, tys, X, hty, hw, h9, h10, h11, hk0, hk1, hk2, hk3⟩ := hI
  have hn : 2000000 ≤ 2000000 := Nat.le_refl _
  refine lv_aload_n hx hb dL_law_234 rfl (lv_at hl 1 rfl) ?_
  have X : Hx D tys (fun q : Nat => s.heap.size ≤ q) s H locs ((wX11 hT aT yT gT ++ (wTP (aT 0) aT_0 yT_0 gT_0 ++ (wX6 (aT 2) aT_2 yT_2 gT_2 ++ (wX9 (aT 3) aT_3 yT_3 gT_3 ++ (wX1 (aT 5) (va_up (va_up aT_5 0 (aT 2)) 1 (aT 3)) yT_5 gT_5 ++ (wX4 hT_8 aT_8 yT_8 gT_8 ++ (wX0 (aT_8 0) aT_8_0 yT_8_0 gT_8_0 ++ (oW wPl sp ++ (oW (wRd (aT 0) (aT 2)) rd))))))))) ++ (wKP (aT 4) aT_4 yT_4 gT_4 ++ (wX3 (aT 6) (va_up aT_6 0 (aT 2)) yT_6 gT_6 ++ (wX10 (aT 7) aT_7 yT_7 gT_7 ++ (oW wCo ak ++ (oW wSt k0 ++ (oW wSt k1 ++ (oW wSt k2 ++ (oW wSt k3 ++ (wX12 hM aM yM gM)))))))))) := Hx_perm X (pm_2730_0 _ _ _ _ _ _ _ _ _ _ _ _ _ _ _ _ _ _) (fun _ h => h)
  have hF : ∀ (r : RDT) (o : PLT), RdOf rd hT_8 (aT_8 0) r → PlOf sp o → ∃ q, f_X11_plan 2000000 hT_8 o.1 o.2.1.1.1 r.1 (sR (sR gT 11 (some r.1)) 9 (some o.1)) gT_0 gT_2 gT_3 gT_5 gT_8 gT_8_0 o.2.2.1 o.2.2.2 r.2.2.1 r.2.2.2.1 r.2.2.2.2.1 r.2.2.2.2.2 = some q ∧ (fun (r : RDT) (o : PLT) (q : QPT) => ∃ g', f_X12_plan 2000000 gM = some (q.1, g') ∧ Fr [1, 8, 9, 12] (sR (sR gT 11 (some r.1)) 9 (some o.1)) q.2.1 ∧ ((gR q.2.1 8 = some hT_8 ∧ gR q.2.1 9 = some o.1 ∧ WR (N + 1) hT_8 g' q.2.1 gT_0 gT_2 q.2.2.1 gT_6 gT_7 gT_8 gT_8_0 kk) ∨ (gR q.2.1 8 = some o.1 ∧ gR q.2.1 9 = some hT_8 ∧ WR (N + 1) o.1 g' q.2.1 gT_0 gT_2 q.2.2.1 gT_6 gT_7 q.2.2.2.2.1 q.2.2.2.2.2.1 kk))) r o q := by
    intro r o _ _
    have hw2 := hw.hall (((Fr.sR (A := [9, 11]) (k := 11) (by decide) gT (some r.1)).trans (Fr.sR (k := 9) (by decide) _ (some o.1)))) ⟨by decide, by decide, by decide, by decide⟩
    obtain ⟨r', g', gT', gs', gm', gp', gc', gr', gsc', gN', gS', f2, f1, fr, hwr⟩ := st_plan (h9 := o.1) (h11 := r.1) (aT := o.2.1.1.1) (g9 := o.2.2.1) (c9 := o.2.2.2) (gr := r.2.2.1) (gsc := r.2.2.2.1) (gN := r.2.2.2.2.1) (gS := r.2.2.2.2.2) (gm := gT_5) hn (by omega) hw2 rfl rfl
    exact ⟨_, f1, g', f2, fr, hwr⟩
  refine hc_x (As := []) (rest := []) C X (g_X11_plan n4 n5 k26 l D hT aT yT aT_0 yT_0 aT_2 yT_2 aT_3 yT_3 aT_5 yT_5 hT_8 aT_8 yT_8 aT_8_0 yT_8_0 2000000 gT gT_0 gT_2 gT_3 gT_5 gT_8 gT_8_0 sp rd (of_decide_eq_true hw.rEq) h9 h11 _ hF _) (cwV 0 C.2.2.2.2.2.1 (good_V q2_202 q2_203 q2_204 q1_1 q2_205) rfl rfl rfl (by decide +kernel) ⟨Nat.le_of_ble_eq_true rfl, Nat.le_of_ble_eq_true rfl⟩) (va_recv X.1 X.2.1 (ci := 11) (q0 := 0) rfl rfl) (fun q hq => hty q (by
    simp only [List.mem_append] at hq ⊢
    (repeat' (refine Or.elim hq ?_ ?_ <;> intro hq)) <;> simp [hq])) hl.1 rfl rfl (Nat.le_of_ble_eq_true rfl) dL_law_235 ⟨by show _ ≤ 218358; omega, by show _ ≤ 8447176; omega⟩ (fun v u H locs hpost X => ?_)
  obtain ⟨r, o, q⟩ := u
  obtain ⟨hv, g', f2, fr, hwr⟩ := hpost
  dsimp only at hv f2 fr hwr
  subst hv
  refine lv_aload_n hx hb dL_law_238 rfl (lv_at hl 2 rfl) ?_
  have X : Hx D _ (fun q : Nat => s.heap.size ≤ q) s H locs ((wX12 hM aM yM gM) ++ (wX11 hT aT yT q.2.1 ++ (wTP (aT 0) aT_0 yT_0 gT_0 ++ (wKP (aT 4) aT_4 yT_4 gT_4 ++ (wX6 (aT 2) aT_2 yT_2 gT_2 ++ (wX9 (aT 3) aT_3 yT_3 q.2.2.1 ++ (wX1 (aT 5) (va_up (va_up aT_5 0 (aT 2)) 1 (aT 3)) yT_5 q.2.2.2.1 ++ (wX3 (aT 6) (va_up aT_6 0 (aT 2)) yT_6 gT_6 ++ (wX10 (aT 7) aT_7 yT_7 gT_7 ++ (wX4 hT_8 aT_8 yT_8 gT_8 ++ (wX0 (aT_8 0) aT_8_0 yT_8_0 gT_8_0 ++ (wPl (o.1, o.2.1, (q.2.2.2.2.1, q.2.2.2.2.2.1)) ++ (oW wCo ak ++ (wRd (aT 0) (aT 2) (r.1, r.2.1, (q.2.2.2.2.2.2.1, q.2.2.2.2.2.2.2.1, q.2.2.2.2.2.2.2.2.1, q.2.2.2.2.2.2.2.2.2)) ++ (oW wSt k0 ++ (oW wSt k1 ++ (oW wSt k2 ++ (oW wSt k3)))))))))))))))))) := Hx_perm X (pm_2730_1 _ _ _ _ _ _ _ _ _ _ _ _ _ _ _ _ _ _) (fun _ h => h)
  refine hc_i (As := []) (rest := [.int q.1]) C X (hm l D hM aM yM 2000000 gM (q.1, g') f2 _) (cwV 0 C.2.2.2.2.2.1 (good_V q8_65 q8_66 q8_67 q1_9 q8_68) rfl rfl rfl (by decide +kernel) ⟨Nat.le_of_ble_eq_true rfl, Nat.le_of_ble_eq_true rfl⟩) (va_recv X.1 X.2.1 (ci := 12) (q0 := 0) rfl rfl) (fun q hq => List.mem_append_right _ (hty q (by
      simp only [List.mem_append]
      simp [hq]))) hl.1 rfl rfl (Nat.le_of_ble_eq_true rfl) dL_law_239 ⟨by show _ ≤ 218358; omega, by show _ ≤ 8447176; omega⟩ (fun H locs X => ?_)
  refine lv_icmp_eq (tgt := 1150) hx hb dL_law_242 (by decide) (fun _ => ?_) (fun c => absurd rfl c)
  refine W.widen (k := (200 + 36 * (N + 1))) (n := (120000 + 10367 * (N + 1))) (by omega) (by omega) ?_
  have e10 : gR q.2.1 10 = ak.map (fun u => u.1) := ((fr 10 (by decide)).2.2.2.2.2.2).trans h10
  have e11 : gR q.2.1 11 = some r.1 := (fr 11 (by decide)).2.2.2.2.2.2
  rcases hwr with ⟨e8, e9, hw3⟩ | ⟨e8, e9, hw3⟩
  · have X : Hx D _ (fun q : Nat => s.heap.size ≤ q) s H locs (wX11 hT aT yT q.2.1 ++ (wTP (aT 0) aT_0 yT_0 gT_0 ++ (wKP (aT 4) aT_4 yT_4 gT_4 ++ (wX6 (aT 2) aT_2 yT_2 gT_2 ++ (wX9 (aT 3) aT_3 yT_3 q.2.2.1 ++ (wX1 (aT 5) (va_up (va_up aT_5 0 (aT 2)) 1 (aT 3)) yT_5 q.2.2.2.1 ++ (wX3 (aT 6) (va_up aT_6 0 (aT 2)) yT_6 gT_6 ++ (wX10 (aT 7) aT_7 yT_7 gT_7 ++ (wX4 hT_8 aT_8 yT_8 gT_8 ++ (wX0 (aT_8 0) aT_8_0 yT_8_0 gT_8_0 ++ (oW wPl (some (o.1, o.2.1, (q.2.2.2.2.1, q.2.2.2.2.2.1))) ++ (oW wCo ak ++ (oW (wRd (aT 0) (aT 2)) (some (r.1, r.2.1, (q.2.2.2.2.2.2.1, q.2.2.2.2.2.2.2.1, q.2.2.2.2.2.2.2.2.1, q.2.2.2.2.2.2.2.2.2))) ++ (oW wSt k0 ++ (oW wSt k1 ++ (oW wSt k2 ++ (oW wSt k3 ++ (wX12 hM aM yM g')))))))))))))))))) := Hx_perm X (pm_2730_2 _ _ _ _ _ _ _ _ _ _ _ _ _ _ _ _ _ _) (fun _ h => h)
    exact cont H locs ⟨aT, yT, aT_0, yT_0, aT_2, yT_2, aT_3, yT_3, aT_4, yT_4, aT_5, yT_5, aT_6, yT_6, aT_7, yT_7, hT_8, aT_8, yT_8, aT_8_0, yT_8_0, q.2.1, gT_0, gT_2, q.2.2.1, gT_4, q.2.2.2.1, gT_6, gT_7, gT_8, gT_8_0, (some (o.1, o.2.1, (q.2.2.2.2.1, q.2.2.2.2.2.1))), ak, (some (r.1, r.2.1, (q.2.2.2.2.2.2.1, q.2.2.2.2.2.2.2.1, q.2.2.2.2.2.2.2.2.1, q.2.2.2.2.2.2.2.2.2))), k0, k1, k2, k3, kk, aM, yM, g', _, X, (fun q hq => by
      simp only [oT_some, tPl, tRd, tCo, tSt, List.mem_append] at hq ⊢
      (repeat' (refine Or.elim hq ?_ ?_ <;> intro hq)) <;> first | (simp [hq]; done) | exact Or.inr (hty q (by simp only [oT_some, tPl, tRd, tCo, tSt, List.mem_append]; simp [hq]))), hw3, e9, e10, e11, hk0, hk1, hk2, hk3⟩
  · have X : Hx D _ (fun q : Nat => s.heap.size ≤ q) s H locs (wX11 hT aT yT q.2.1 ++ (wTP (aT 0) aT_0 yT_0 gT_0 ++ (wKP (aT 4) aT_4 yT_4 gT_4 ++ (wX6 (aT 2) aT_2 yT_2 gT_2 ++ (wX9 (aT 3) aT_3 yT_3 q.2.2.1 ++ (wX1 (aT 5) (va_up (va_up aT_5 0 (aT 2)) 1 (aT 3)) yT_5 q.2.2.2.1 ++ (wX3 (aT 6) (va_up aT_6 0 (aT 2)) yT_6 gT_6 ++ (wX10 (aT 7) aT_7 yT_7 gT_7 ++ (wX4 o.1 o.2.1.1.1 o.2.1.1.2 q.2.2.2.2.1 ++ (wX0 (o.2.1.1.1 0) o.2.1.2.1 o.2.1.2.2 q.2.2.2.2.2.1 ++ (oW wPl (some (hT_8, ((aT_8, yT_8), (aT_8_0, yT_8_0)), (gT_8, gT_8_0))) ++ (oW wCo ak ++ (oW (wRd (aT 0) (aT 2)) (some (r.1, r.2.1, (q.2.2.2.2.2.2.1, q.2.2.2.2.2.2.2.1, q.2.2.2.2.2.2.2.2.1, q.2.2.2.2.2.2.2.2.2))) ++ (oW wSt k0 ++ (oW wSt k1 ++ (oW wSt k2 ++ (oW wSt k3 ++ (wX12 hM aM yM g')))))))))))))))))) := Hx_perm X (pm_2730_3 _ _ _ _ _ _ _ _ _ _ _ _ _ _ _ _ _ _ _) (fun _ h => h)
    exact cont H locs ⟨aT, yT, aT_0, yT_0, aT_2, yT_2, aT_3, yT_3, aT_4, yT_4, aT_5, yT_5, aT_6, yT_6, aT_7, yT_7, o.1, o.2.1.1.1, o.2.1.1.2, o.2.1.2.1, o.2.1.2.2, q.2.1, gT_0, gT_2, q.2.2.1, gT_4, q.2.2.2.1, gT_6, gT_7, q.2.2.2.2.1, q.2.2.2.2.2.1, (some (hT_8, ((aT_8, yT_8), (aT_8_0, yT_8_0)), (gT_8, gT_8_0))), ak, (some (r.1, r.2.1, (q.2.2.2.2.2.2.1, q.2.2.2.2.2.2.2.1, q.2.2.2.2.2.2.2.2.1, q.2.2.2.2.2.2.2.2.2))), k0, k1, k2, k3, kk, aM, yM, g', _, X, (fun q hq => by
      simp only [oT_some, tPl, tRd, tCo, tSt, List.mem_append] at hq ⊢
      (repeat' (refine Or.elim hq ?_ ?_ <;> intro hq)) <;> first | (simp [hq]; done) | exact Or.inr (hty q (by simp only [oT_some, tPl, tRd, tCo, tSt, List.mem_append]; simp [hq]))), hw3, e9, e10, e11, hk0, hk1, hk2, hk3⟩
