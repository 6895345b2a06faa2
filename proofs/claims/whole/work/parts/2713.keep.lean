
theorem gR_sR {g : Gs} {k : Nat} {v : Option Nat} : gR (sR g k v) = va_up (gR g) k v := rfl
theorem keep_b37 {hP9 : Nat} {gT gT_3 gT_4 gP9 : Gs} {x0 : Int32} {q : Int32 × Gs} (hx1 : ¬ x0 < 0) (hx2 : x0 < (4 : Int32)) (h : f_X11_keep hP9 gT gT_3 gT_4 gP9 x0 = some q) : b_X11_keep_37 hP9 gT gT_3 gT_4 gP9 = some q := by
  unfold f_X11_keep at h
  rw [if_neg hx1, if_pos hx2] at h
  obtain ⟨_, h⟩ := grd_some h
  obtain ⟨_, h⟩ := grd_some h
  exact h
theorem g_X11_keep (n9 : T_n_X9_init) (k37 : T_k_X11_keep_37) (l : Launch) (D : Dx) (hT : Nat) (aT : Nat → Nat) (yT : Nat → ClassId) (aT_3 : Nat → Nat) (yT_3 : Nat → ClassId) (aT_4 : Nat → Nat) (yT_4 : Nat → ClassId) (gT gT_3 gT_4 : Gs) (x0 : Int32) (hx1 : ¬ x0 < 0) (hx2 : x0 < (4 : Int32)) (hix : vp_in x0 4) (st : Option COT) (hst : gR gT_4 x0.toNatClampNeg = st.map (fun u => u.1)) (Post : COT → Int32 × Gs → Prop) (hF : ∀ u, StOf st u → ∃ q, f_X11_keep u.1 gT gT_3 (sR gT_4 x0.toNatClampNeg (some u.1)) u.2.2 x0 = some q ∧ Post u q) (sz : Nat) : Met l yX11_keep (ws_ yX11_keep cX11_keep 3 (some .boolean)) { frames := 3, cells := 13, slots := 3033, locals := 120 } (PC D (tX11 yT ++ (tX9 yT_3 ++ (tKP yT_4 ++ (oT tSt st)))) [.ref hT, .int x0] (wX11 hT aT yT gT ++ (wX9 (aT 3) aT_3 yT_3 gT_3 ++ (wKP (aT 4) aT_4 yT_4 gT_4 ++ (oW wSt st)))) sz) (va_Qi (fun v (u : COT × (Int32 × Gs)) => v = u.2.1 ∧ Post u.1 u.2) (fun u t => va_P D.1 vwCl (wX11 hT aT yT gT ++ (wX9 (aT 3) aT_3 yT_3 gT_3 ++ (wKP (aT 4) aT_4 yT_4 (sR gT_4 x0.toNatClampNeg (some u.1.1)) ++ (wSt (u.1.1, u.1.2.1, u.2.2))))) t.heap ∧ va_K D.1 vwCl (tSt u.1) t ∧ va_D (va_A (wX11 hT aT yT gT ++ (wX9 (aT 3) aT_3 yT_3 gT_3 ++ (wKP (aT 4) aT_4 yT_4 gT_4 ++ (oW wSt st)))) sz) (wX11 hT aT yT gT ++ (wX9 (aT 3) aT_3 yT_3 gT_3 ++ (wKP (aT 4) aT_4 yT_4 (sR gT_4 x0.toNatClampNeg (some u.1.1)) ++ (wSt (u.1.1, u.1.2.1, u.2.2)))))) (va_A (wX11 hT aT yT gT ++ (wX9 (aT 3) aT_3 yT_3 gT_3 ++ (wKP (aT 4) aT_4 yT_4 gT_4 ++ (oW wSt st)))) sz)) 13 3033 (va_A (wX11 hT aT yT gT ++ (wX9 (aT 3) aT_3 yT_3 gT_3 ++ (wKP (aT 4) aT_4 yT_4 gT_4 ++ (oW wSt st)))) sz) := by
  refine Met.ofW (cc := cX11_keep) (maxL := 3) (ret := (some .boolean)) (by decide) rfl ?_
  intro p e s m args below meth c s₁ B hml hv
  obtain ⟨rfl, hsz, hP, hK, hD, hN⟩ := hv
  subst hsz
  have C : Cx p s m _ meth c cX11_keep (some .boolean) 3 RX11 lw_all := Cx_of B hml
  have X := Hx_start hP hK hD hN
  obtain ⟨hx, hb, hr, -, hown, hts, hlk⟩ := id C
  generalize va_A (wX11 hT aT yT gT ++ (wX9 (aT 3) aT_3 yT_3 gT_3 ++ (wKP (aT 4) aT_4 yT_4 gT_4 ++ (oW wSt st)))) s.heap.size = A at X ⊢
  have hl := lv_entry ([.ref hT, .int x0]) (n := 3) (Nat.le_of_ble_eq_true rfl)
  rw [lg_entry_eq]
  generalize (lg_sl ([.ref hT, .int x0]) ++ List.replicate (3 - (lg_sl ([.ref hT, .int x0])).length) Slot.unset).toArray = ls at hl ⊢
  have hl : lv_has ls 3 [(0, .ref hT), (1, .int x0)] := hl
  have hml := C.2.2.2.1
  have key : ∀ (u : COT) (H : Heap) (locs : List Loc) (ls : Array Slot) (cells slots : Nat), StOf st u → cells ≤ 13 → slots ≤ 3033 → Hx D (tX11 yT ++ (tX9 yT_3 ++ (tKP yT_4 ++ (tSt u)))) A s H locs (wX11 hT aT yT gT ++ (wX9 (aT 3) aT_3 yT_3 gT_3 ++ (wKP (aT 4) aT_4 yT_4 (sR gT_4 x0.toNatClampNeg (some u.1)) ++ (wSt u)))) → lv_has ls 3 [(2, .ref u.1), (0, .ref hT), (1, .int x0)] → W p l e ({ frames := 3, cells := 13, slots := 3033, locals := 120 } : Room) s m #[.ref hT, .int x0] below meth c H locs cells slots (MQ below (va_Qi (fun v (u : COT × (Int32 × Gs)) => v = u.2.1 ∧ Post u.1 u.2) (fun u t => va_P D.1 vwCl (wX11 hT aT yT gT ++ (wX9 (aT 3) aT_3 yT_3 gT_3 ++ (wKP (aT 4) aT_4 yT_4 (sR gT_4 x0.toNatClampNeg (some u.1.1)) ++ (wSt (u.1.1, u.1.2.1, u.2.2))))) t.heap ∧ va_K D.1 vwCl (tSt u.1) t ∧ va_D (A) (wX11 hT aT yT gT ++ (wX9 (aT 3) aT_3 yT_3 gT_3 ++ (wKP (aT 4) aT_4 yT_4 (sR gT_4 x0.toNatClampNeg (some u.1.1)) ++ (wSt (u.1.1, u.1.2.1, u.2.2)))))) (A)) #[.ref hT, .int x0] s 13 3033 A) (F0 m 37 ls []) := by
    intro u H locs ls cells slots ho hc1 hc2 X hl
    obtain ⟨q, hq, hpost⟩ := hF u ho
    refine W.widen (k := 13) (n := 3033) hc1 hc2 ?_
    refine W_mono (MQ_mono (fun o1 t ha hq1 => ?_)) ((k37 l D hT aT yT aT_3 yT_3 aT_4 yT_4 u.1 u.2.1.1 u.2.1.2) ⟨Nat.le_of_ble_eq_true rfl, Nat.le_of_ble_eq_true rfl⟩ ⟨Nat.le_of_ble_eq_true rfl, Nat.le_of_ble_eq_true rfl⟩ C X (lv_sub hl [1, 0] rfl) (keep_b37 hx1 hx2 hq))
    obtain ⟨⟨v, _, e1, e2, e3⟩, e4⟩ := hq1
    exact ⟨⟨v, (u, q), e1, ⟨e2, hpost⟩, e3.1, va_K.moved ha (va_K_mem X.1 (fun q hq => by
      simp only [List.mem_append] at hq ⊢
      simp [hq])), e3.2⟩, e4⟩
  refine lv_iload_n hx hb dX11_keep_0 rfl (lv_at hl 1 rfl) ?_
  refine lv_if_lt (tgt := 9) hx hb dX11_keep_1 (by decide) (fun c => absurd c hx1) (fun _ => ?_)
  refine lv_iload_n hx hb dX11_keep_4 rfl (lv_at hl 1 rfl) ?_
  refine lv_iconst (v := (4 : Int32)) hx hb dX11_keep_5 (by decide) ?_
  refine lv_icmp_lt (tgt := 11) hx hb dX11_keep_6 (by decide) (fun _ => ?_) (fun c => absurd hx2 c)
  refine lv_aload_n hx hb dX11_keep_11 rfl (lv_at hl 0 rfl) ?_
  refine va_get (D := D.1) (ci := 11) (v := .ref (aT 4)) (C := RX11) (T := TX11) (N := 14) hx hb hts wi_X11 hown X.1 X.2.1 0 rfl rfl 4 (by decide) (hts _ q2_151) (fun _ h9 => h9) (fl_get (by decide)) dX11_keep_12 ?_
  refine lv_iload_n hx hb dX11_keep_15 rfl (lv_at hl 1 rfl) ?_
  refine va_aldq (D := D.1) hx hb X.1 X.2.1 14 12 rfl rfl hix dX11_keep_16 ?_
  cases st with
  | some u =>
    have h9 : gR gT_4 x0.toNatClampNeg = some u.1 := hst
    rw [h9]
    refine lv_astore_n (x := u.1) (lv' := [(2, .ref u.1), (0, .ref hT), (1, .int x0)]) hx hb dX11_keep_17 rfl hl (by decide) rfl (fun ls hl => ?_)
    refine lv_aload_n hx hb dX11_keep_18 rfl (lv_at hl 0 rfl) ?_
    refine lv_ifnonnull (tgt := 37) hx hb dX11_keep_19 (by decide) ?_
    refine key u _ _ ls _ _ (Or.inl rfl) (Nat.le_of_ble_eq_true rfl) (Nat.le_of_ble_eq_true rfl) ?_ hl
    rw [sR_eq h9]
    exact X
  | none =>
    have h9 : gR gT_4 x0.toNatClampNeg = none := hst
    rw [h9]
    refine lv_astore_nN (lv' := [(2, .null), (0, .ref hT), (1, .int x0)]) hx hb dX11_keep_17 rfl hl (by decide) rfl (fun ls hl => ?_)
    refine lv_aload_nN hx hb dX11_keep_18 rfl (lv_at hl 0 rfl) ?_
    refine lv_ifnonnullN hx hb dX11_keep_19 ?_
    refine va_new (ci := 9) (fs := (List.range 17).map (dfl kdX9)) (C := RX9) (T := TX9) (N := 17) hx hb hts wi_X9 tyX9 tyX9_ok hown (hts _ q1_47) (hts _ q1_48) (hts _ q1_3) X.1 X.2.1 X.2.2.1 X.2.2.2.1 X.2.2.2.2.1 rfl dfX9 (Nat.le_of_ble_eq_true rfl) (Nat.le_of_ble_eq_true rfl) dX11_keep_22 (fun w9 H hP hD hS => ?_)
    refine lv_dup hx hb dX11_keep_25 rfl ?_
    have X : Hx D (tX11 yT ++ (tX9 yT_3 ++ (tKP yT_4))) A s H [] ([(w9, .inr (9, (List.range 17).map (dfl kdX9)))] ++ (wX11 hT aT yT gT ++ (wX9 (aT 3) aT_3 yT_3 gT_3 ++ (wKP (aT 4) aT_4 yT_4 gT_4)))) := by
      have X : Hx D _ A s H [] _ := ⟨X.1, hP, hD, hS, X.2.2.2.2⟩
      exact Hx_perm X (by
      refine perm_cnt (fun c hc => ?_)
      simp only [oW_some, oW_none, wPl, wRd, wCo, wSt, hc, cnt_nil hc]
      all_goals omega) (fun q hq => by
      simp only [oT_some, oT_none, tPl, tRd, tCo, tSt, List.mem_append] at hq ⊢
      (repeat' (refine Or.elim hq ?_ ?_ <;> intro hq)) <;> simp [hq])
    have hpr := Hx_pre X
    have hFc := Hx_free X
    refine va_callv (va_runIN (As := []) (rest := [.ref w9]) ⟨hx, hb, hml, hown, hts⟩ (n9 l D w9 _) ⟨va_cnB 0 hts (good_ws q1_51) rfl rfl rfl (X.2.2.2.2.2.1 _ q1_49 rfl) (hts _ q1_3) (by decide +kernel) ⟨Nat.le_of_ble_eq_true rfl, Nat.le_of_ble_eq_true rfl⟩, rfl, hts _ q1_50⟩ ⟨PC_blind, PC_at (eK X) hpr.1 hpr.2 X.2.2.2.2.2 X.2.2.2.1 hFc⟩ rfl rfl hl.1 rfl (lv_room (Nat.le_of_ble_eq_true rfl)) dX11_keep_26 ⟨Nat.le_of_ble_eq_true rfl, Nat.le_of_ble_eq_true rfl⟩) X.2.2.2.1 (fun q _ h => hFc q h) hFc (fun u0 t H locs ht hvm hw4 hB hz1 hk1 hS => ?_)
    obtain ⟨hP1, hK1, hD1⟩ := hB
    rw [ht] at hP1
    have hK1 := va_K.moved hvm.symm hK1
    have X := Hx_frame X hK1 hP1 hD1 hk1 hS
    obtain ⟨u, ha⟩ : ∃ u : COT, u = (w9, u0, g0X9) := ⟨_, rfl⟩
    have X9 : Hx D (tX11 yT ++ (tX9 yT_3 ++ (tKP yT_4 ++ (tSt u)))) A s H locs (wX11 hT aT yT gT ++ (wX9 (aT 3) aT_3 yT_3 gT_3 ++ (wKP (aT 4) aT_4 yT_4 gT_4 ++ (wSt u)))) := by
      subst ha
      exact Hx_perm X (by
      refine perm_cnt (fun c hc => ?_)
      simp only [oW_some, oW_none, wPl, wRd, wCo, wSt, hc, cnt_nil hc]
      all_goals omega) (fun q hq => by
      simp only [oT_some, oT_none, tPl, tRd, tCo, tSt, List.mem_append] at hq ⊢
      (repeat' (refine Or.elim hq ?_ ?_ <;> intro hq)) <;> simp [hq])
    have hCo : StOf none u := Or.inr ⟨rfl, by rw [ha]⟩
    have e9 : u.1 = w9 := by rw [ha]
    clear ha
    subst e9
    have X := X9
    refine lv_astore_n (lv' := [(2, .ref u.1), (0, .ref hT), (1, .int x0)]) hx hb dX11_keep_29 rfl hl (by decide) rfl (fun ls hl => ?_)
    refine lv_aload_n hx hb dX11_keep_30 rfl (lv_at hl 1 rfl) ?_
    refine va_get (D := D.1) (ci := 11) (v := .ref (aT 4)) (C := RX11) (T := TX11) (N := 14) hx hb hts wi_X11 hown X.1 X.2.1 0 rfl rfl 4 (by decide) (hts _ q2_151) (fun _ h9 => h9) (fl_get (by decide)) dX11_keep_31 ?_
    refine lv_iload_n hx hb dX11_keep_34 rfl (lv_at hl 2 rfl) ?_
    refine lv_aload_n hx hb dX11_keep_35 rfl (lv_at hl 0 rfl) ?_
    refine va_astq (D := D.1) hx hb X.1 X.2.1 X.2.2.1 X.2.2.2.1 14 12 15 9 (r := (RX9, TX9, 17)) rfl rfl rfl rfl hix dX11_keep_36 (fun H locs hP hD hS => ?_)
    exact key u H locs ls _ _ hCo (Nat.le_of_ble_eq_true rfl) (Nat.le_of_ble_eq_true rfl) (Hx_set X (set_r (n := 1) (i := 13) (j := 14) (wG_len rfl) rfl (set_r (n := 13) (i := 0) (j := 13) (wG_len rfl) rfl (set_l (Nat.le_of_ble_eq_true rfl) rfl))) hP hD hS) hl
theorem g_X11_keep_bad (l : Launch) (D : Dx) (hT : Nat) (aT : Nat → Nat) (yT : Nat → ClassId) (gT : Gs) (x0 : Int32) (hb0 : x0 < 0 ∨ ¬ x0 < (4 : Int32)) (sz : Nat) : Met l yX11_keep (ws_ yX11_keep cX11_keep 3 (some .boolean)) { frames := 0, cells := 0, slots := 0, locals := 0 } (PC D (tX11 yT) [.ref hT, .int x0] (wX11 hT aT yT gT) sz) (QI D (va_A (wX11 hT aT yT gT) sz) (wX11 hT aT yT gT) (0 : Int32)) 0 0 (va_A (wX11 hT aT yT gT) sz) := by
  refine Met.ofW (cc := cX11_keep) (maxL := 3) (ret := (some .boolean)) (by decide) rfl ?_
  intro p e s m args below meth c s₁ B hml hv
  obtain ⟨rfl, hsz, hP, hK, hD, hN⟩ := hv
  subst hsz
  have C : Cx p s m _ meth c cX11_keep (some .boolean) 3 RX11 lw_all := Cx_of B hml
  have X := Hx_start hP hK hD hN
  obtain ⟨hx, hb, hr, -, hown, hts, hlk⟩ := id C
  generalize va_A (wX11 hT aT yT gT) s.heap.size = A at X ⊢
  have hl := lv_entry ([.ref hT, .int x0]) (n := 3) (Nat.le_of_ble_eq_true rfl)
  rw [lg_entry_eq]
  generalize (lg_sl ([.ref hT, .int x0]) ++ List.replicate (3 - (lg_sl ([.ref hT, .int x0])).length) Slot.unset).toArray = ls at hl ⊢
  have hl : lv_has ls 3 [(0, .ref hT), (1, .int x0)] := hl
  refine lv_iload_n hx hb dX11_keep_0 rfl (lv_at hl 1 rfl) ?_
  refine lv_if_lt (tgt := 9) hx hb dX11_keep_1 (by decide) (fun c => ?_) (fun c => ?_)
  · refine lv_iconst (v := (0 : Int32)) hx hb dX11_keep_9 (by decide) ?_
    exact rt_z (v := (0 : Int32)) C X (by decide) dX11_keep_10
  · have h5 : ¬ x0 < (4 : Int32) := hb0.resolve_left c
    refine lv_iload_n hx hb dX11_keep_4 rfl (lv_at hl 1 rfl) ?_
    refine lv_iconst (v := (4 : Int32)) hx hb dX11_keep_5 (by decide) ?_
    refine lv_icmp_lt (tgt := 11) hx hb dX11_keep_6 (by decide) (fun c => absurd c h5) (fun _ => ?_)
    refine lv_iconst (v := (0 : Int32)) hx hb dX11_keep_9 (by decide) ?_
    exact rt_z (v := (0 : Int32)) C X (by decide) dX11_keep_10
theorem g_X11_back_bad (l : Launch) (D : Dx) (hT : Nat) (aT : Nat → Nat) (yT : Nat → ClassId) (gT : Gs) (x0 : Int32) (hb0 : x0 < 0 ∨ ¬ x0 < (4 : Int32)) (sz : Nat) : Met l yX11_back (ws_ yX11_back cX11_back 3 (some .boolean)) { frames := 0, cells := 0, slots := 0, locals := 0 } (PC D (tX11 yT) [.ref hT, .int x0] (wX11 hT aT yT gT) sz) (QI D (va_A (wX11 hT aT yT gT) sz) (wX11 hT aT yT gT) (0 : Int32)) 0 0 (va_A (wX11 hT aT yT gT) sz) := by
  refine Met.ofW (cc := cX11_back) (maxL := 3) (ret := (some .boolean)) (by decide) rfl ?_
  intro p e s m args below meth c s₁ B hml hv
  obtain ⟨rfl, hsz, hP, hK, hD, hN⟩ := hv
  subst hsz
  have C : Cx p s m _ meth c cX11_back (some .boolean) 3 RX11 lw_all := Cx_of B hml
  have X := Hx_start hP hK hD hN
  obtain ⟨hx, hb, hr, -, hown, hts, hlk⟩ := id C
  generalize va_A (wX11 hT aT yT gT) s.heap.size = A at X ⊢
  have hl := lv_entry ([.ref hT, .int x0]) (n := 3) (Nat.le_of_ble_eq_true rfl)
  rw [lg_entry_eq]
  generalize (lg_sl ([.ref hT, .int x0]) ++ List.replicate (3 - (lg_sl ([.ref hT, .int x0])).length) Slot.unset).toArray = ls at hl ⊢
  have hl : lv_has ls 3 [(0, .ref hT), (1, .int x0)] := hl
  refine lv_iload_n hx hb dX11_back_0 rfl (lv_at hl 1 rfl) ?_
  refine lv_if_lt (tgt := 9) hx hb dX11_back_1 (by decide) (fun c => ?_) (fun c => ?_)
  · refine lv_iconst (v := (0 : Int32)) hx hb dX11_back_9 (by decide) ?_
    exact rt_z (v := (0 : Int32)) C X (by decide) dX11_back_10
  · have h5 : ¬ x0 < (4 : Int32) := hb0.resolve_left c
    refine lv_iload_n hx hb dX11_back_4 rfl (lv_at hl 1 rfl) ?_
    refine lv_iconst (v := (4 : Int32)) hx hb dX11_back_5 (by decide) ?_
    refine lv_icmp_lt (tgt := 11) hx hb dX11_back_6 (by decide) (fun c => absurd c h5) (fun _ => ?_)
    refine lv_iconst (v := (0 : Int32)) hx hb dX11_back_9 (by decide) ?_
    exact rt_z (v := (0 : Int32)) C X (by decide) dX11_back_10
theorem g_X11_back_none (l : Launch) (D : Dx) (hT : Nat) (aT : Nat → Nat) (yT : Nat → ClassId) (aT_4 : Nat → Nat) (yT_4 : Nat → ClassId) (gT gT_4 : Gs) (x0 : Int32) (hx1 : ¬ x0 < 0) (hx2 : x0 < (4 : Int32)) (hix : vp_in x0 4) (h9 : gR gT_4 x0.toNatClampNeg = none) (sz : Nat) : Met l yX11_back (ws_ yX11_back cX11_back 3 (some .boolean)) { frames := 0, cells := 0, slots := 0, locals := 0 } (PC D (tX11 yT ++ (tKP yT_4)) [.ref hT, .int x0] (wX11 hT aT yT gT ++ (wKP (aT 4) aT_4 yT_4 gT_4)) sz) (QI D (va_A (wX11 hT aT yT gT ++ (wKP (aT 4) aT_4 yT_4 gT_4)) sz) (wX11 hT aT yT gT ++ (wKP (aT 4) aT_4 yT_4 gT_4)) (0 : Int32)) 0 0 (va_A (wX11 hT aT yT gT ++ (wKP (aT 4) aT_4 yT_4 gT_4)) sz) := by
  refine Met.ofW (cc := cX11_back) (maxL := 3) (ret := (some .boolean)) (by decide) rfl ?_
  intro p e s m args below meth c s₁ B hml hv
  obtain ⟨rfl, hsz, hP, hK, hD, hN⟩ := hv
  subst hsz
  have C : Cx p s m _ meth c cX11_back (some .boolean) 3 RX11 lw_all := Cx_of B hml
  have X := Hx_start hP hK hD hN
  obtain ⟨hx, hb, hr, -, hown, hts, hlk⟩ := id C
  generalize va_A (wX11 hT aT yT gT ++ (wKP (aT 4) aT_4 yT_4 gT_4)) s.heap.size = A at X ⊢
  have hl := lv_entry ([.ref hT, .int x0]) (n := 3) (Nat.le_of_ble_eq_true rfl)
  rw [lg_entry_eq]
  generalize (lg_sl ([.ref hT, .int x0]) ++ List.replicate (3 - (lg_sl ([.ref hT, .int x0])).length) Slot.unset).toArray = ls at hl ⊢
  have hl : lv_has ls 3 [(0, .ref hT), (1, .int x0)] := hl
  refine lv_iload_n hx hb dX11_back_0 rfl (lv_at hl 1 rfl) ?_
  refine lv_if_lt (tgt := 9) hx hb dX11_back_1 (by decide) (fun c => absurd c hx1) (fun _ => ?_)
  refine lv_iload_n hx hb dX11_back_4 rfl (lv_at hl 1 rfl) ?_
  refine lv_iconst (v := (4 : Int32)) hx hb dX11_back_5 (by decide) ?_
  refine lv_icmp_lt (tgt := 11) hx hb dX11_back_6 (by decide) (fun _ => ?_) (fun c => absurd hx2 c)
  refine lv_aload_n hx hb dX11_back_11 rfl (lv_at hl 0 rfl) ?_
  refine va_get (D := D.1) (ci := 11) (v := .ref (aT 4)) (C := RX11) (T := TX11) (N := 14) hx hb hts wi_X11 hown X.1 X.2.1 0 rfl rfl 4 (by decide) (hts _ q2_151) (fun _ h9 => h9) (fl_get (by decide)) dX11_back_12 ?_
  refine lv_iload_n hx hb dX11_back_15 rfl (lv_at hl 1 rfl) ?_
  refine va_aldq (D := D.1) hx hb X.1 X.2.1 1 0 rfl rfl hix dX11_back_16 ?_
  rw [h9]
  refine lv_astore_nN (lv' := [(2, .null), (0, .ref hT), (1, .int x0)]) hx hb dX11_back_17 rfl hl (by decide) rfl (fun ls hl => ?_)
  refine lv_aload_nN hx hb dX11_back_18 rfl (lv_at hl 0 rfl) ?_
  refine lv_ifnullN (tgt := 36) hx hb dX11_back_19 (by decide) ?_
  refine lv_iconst (v := (0 : Int32)) hx hb dX11_back_36 (by decide) ?_
  exact rt_z (v := (0 : Int32)) C X (by decide) dX11_back_37
