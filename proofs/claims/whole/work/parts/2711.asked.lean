theorem q6_22 : Cond.classLink RX11 132 RX0 ∈ lw_all := lw_in (tc_6 (List.mem_of_getElem? (i := 22) rfl)) rfl
theorem q6_23 : Cond.methodLinkNest RX11 263 yX0_init "TurningHall" ∈ lw_tbl := tc_6 (List.mem_of_getElem? (i := 23) rfl)
abbrev QAT : Type := Gs × Gs × Gs × Gs × Gs × Gs
theorem asked_b27 {n hT_8 hT_10 hT_11 : Nat} {gT gT_0 gT_2 gT_8 gT_10 gT_11 gT_11_1 gT_11_2 gT_11_3 : Gs} {q : QAT} (h : f_X11_readAsked n hT_8 hT_10 hT_11 gT gT_0 gT_2 gT_8 gT_10 gT_11 gT_11_1 gT_11_2 gT_11_3 = some q) : b_X11_readAsked_27 n hT_8 hT_10 hT_11 gT gT_0 gT_2 gT_8 gT_10 gT_11 gT_11_1 gT_11_2 gT_11_3 = some q := by
  unfold f_X11_readAsked at h
  obtain ⟨_, h⟩ := grd_some h
  unfold b_X11_readAsked_22 at h
  obtain ⟨_, _, h⟩ := bnd_some h
  exact h
theorem g_X11_readAsked (n0 : T_n_X0_init) (n5 : T_n_X5_init) (k27 : T_k_X11_readAsked_27) (l : Launch) (D : Dx) (hT : Nat) (aT : Nat → Nat) (yT : Nat → ClassId) (aT_0 : Nat → Nat) (yT_0 : Nat → ClassId) (aT_2 : Nat → Nat) (yT_2 : Nat → ClassId) (hT_8 : Nat) (aT_8 : Nat → Nat) (yT_8 : Nat → ClassId) (n : Nat) (gT0 gT_0 gT_2 gT_8 : Gs) (ak : Option COT) (rd : Option RDT) (h8e0 : gR gT0 8 = some hT_8) (hak : gR gT0 10 = ak.map (fun u => u.1)) (hrd0 : gR gT0 11 = rd.map (fun u => u.1)) (Post : RDT → COT → QAT → Prop) (hF : ∀ r a, RdOf rd hT_8 (aT_8 0) r → CoOf ak a → ∃ q, f_X11_readAsked n hT_8 a.1 r.1 (sR (sR gT0 10 (some a.1)) 11 (some r.1)) gT_0 gT_2 gT_8 a.2.2 r.2.2.1 r.2.2.2.1 r.2.2.2.2.1 r.2.2.2.2.2 = some q ∧ Post r a q) (sz : Nat) : Met l yX11_readAsked (ws_ yX11_readAsked cX11_readAsked 2 (some (.object "TurningHall$Code"))) { frames := 11, cells := 25, slots := 9209, locals := 300 } (PC D (tX11 yT ++ (tTP yT_0 ++ (tX6 yT_2 ++ (tX4 yT_8 ++ (oT tCo ak ++ (oT tRd rd)))))) [.ref hT] (wX11 hT aT yT gT0 ++ (wTP (aT 0) aT_0 yT_0 gT_0 ++ (wX6 (aT 2) aT_2 yT_2 gT_2 ++ (wX4 hT_8 aT_8 yT_8 gT_8 ++ (oW wCo ak ++ (oW (wRd (aT 0) (aT 2)) rd)))))) sz) (va_Qr (fun u : RDT × COT × QAT => Post u.1 u.2.1 u.2.2) (fun u ra t => ra = u.2.1.1 ∧ va_P D.1 vwCl (wX11 hT aT yT u.2.2.1 ++ (wTP (aT 0) aT_0 yT_0 gT_0 ++ (wX6 (aT 2) aT_2 yT_2 gT_2 ++ (wX4 hT_8 aT_8 yT_8 gT_8 ++ (wCo (u.2.1.1, u.2.1.2.1, u.2.2.2.1) ++ (wRd (aT 0) (aT 2) (u.1.1, u.1.2.1, (u.2.2.2.2.1, u.2.2.2.2.2.1, u.2.2.2.2.2.2.1, u.2.2.2.2.2.2.2)))))))) t.heap ∧ va_K D.1 vwCl (tCo u.2.1 ++ tRd u.1) t ∧ va_D (va_A (wX11 hT aT yT gT0 ++ (wTP (aT 0) aT_0 yT_0 gT_0 ++ (wX6 (aT 2) aT_2 yT_2 gT_2 ++ (wX4 hT_8 aT_8 yT_8 gT_8 ++ (oW wCo ak ++ (oW (wRd (aT 0) (aT 2)) rd)))))) sz) (wX11 hT aT yT u.2.2.1 ++ (wTP (aT 0) aT_0 yT_0 gT_0 ++ (wX6 (aT 2) aT_2 yT_2 gT_2 ++ (wX4 hT_8 aT_8 yT_8 gT_8 ++ (wCo (u.2.1.1, u.2.1.2.1, u.2.2.2.1) ++ (wRd (aT 0) (aT 2) (u.1.1, u.1.2.1, (u.2.2.2.2.1, u.2.2.2.2.2.1, u.2.2.2.2.2.2.1, u.2.2.2.2.2.2.2))))))))) (va_A (wX11 hT aT yT gT0 ++ (wTP (aT 0) aT_0 yT_0 gT_0 ++ (wX6 (aT 2) aT_2 yT_2 gT_2 ++ (wX4 hT_8 aT_8 yT_8 gT_8 ++ (oW wCo ak ++ (oW (wRd (aT 0) (aT 2)) rd)))))) sz)) 25 9209 (va_A (wX11 hT aT yT gT0 ++ (wTP (aT 0) aT_0 yT_0 gT_0 ++ (wX6 (aT 2) aT_2 yT_2 gT_2 ++ (wX4 hT_8 aT_8 yT_8 gT_8 ++ (oW wCo ak ++ (oW (wRd (aT 0) (aT 2)) rd)))))) sz) := by
  refine Met.ofW (cc := cX11_readAsked) (maxL := 2) (ret := (some (.object "TurningHall$Code"))) (by decide) rfl ?_
  intro p e s m args below meth c s₁ B hml hv
  obtain ⟨rfl, hsz, hP, hK, hD, hN⟩ := hv
  subst hsz
  have C : Cx p s m _ meth c cX11_readAsked (some (.object "TurningHall$Code")) 2 RX11 lw_all := Cx_of B hml
  have X := Hx_start hP hK hD hN
  obtain ⟨hx, hb, hr, -, hown, hts, hlk⟩ := id C
  generalize va_A (wX11 hT aT yT gT0 ++ (wTP (aT 0) aT_0 yT_0 gT_0 ++ (wX6 (aT 2) aT_2 yT_2 gT_2 ++ (wX4 hT_8 aT_8 yT_8 gT_8 ++ (oW wCo ak ++ (oW (wRd (aT 0) (aT 2)) rd)))))) s.heap.size = A at X ⊢
  have hl := lv_entry ([.ref hT]) (n := 2) (Nat.le_of_ble_eq_true rfl)
  rw [lg_entry_eq]
  generalize (lg_sl ([.ref hT]) ++ List.replicate (2 - (lg_sl ([.ref hT])).length) Slot.unset).toArray = ls at hl ⊢
  have hl : lv_has ls 2 [(0, .ref hT)] := hl
  have hml := C.2.2.2.1
  have key : ∀ (a : COT) (H : Heap) (locs : List Loc) (ls : Array Slot) (cells slots : Nat), CoOf ak a → cells ≤ 16 → slots ≤ 7383 → Hx D (tX11 yT ++ (tTP yT_0 ++ (tX6 yT_2 ++ (tX4 yT_8 ++ (tCo a ++ (oT tRd rd)))))) A s H locs (wX11 hT aT yT (sR gT0 10 (some a.1)) ++ (wTP (aT 0) aT_0 yT_0 gT_0 ++ (wX6 (aT 2) aT_2 yT_2 gT_2 ++ (wX4 hT_8 aT_8 yT_8 gT_8 ++ (wCo a ++ (oW (wRd (aT 0) (aT 2)) rd)))))) → lv_has ls 2 [(1, .ref a.1), (0, .ref hT)] → W p l e ({ frames := 11, cells := 25, slots := 9209, locals := 300 } : Room) s m #[.ref hT] below meth c H locs cells slots (MQ below (va_Qr (fun u : RDT × COT × QAT => Post u.1 u.2.1 u.2.2) (fun u ra t => ra = u.2.1.1 ∧ va_P D.1 vwCl (wX11 hT aT yT u.2.2.1 ++ (wTP (aT 0) aT_0 yT_0 gT_0 ++ (wX6 (aT 2) aT_2 yT_2 gT_2 ++ (wX4 hT_8 aT_8 yT_8 gT_8 ++ (wCo (u.2.1.1, u.2.1.2.1, u.2.2.2.1) ++ (wRd (aT 0) (aT 2) (u.1.1, u.1.2.1, (u.2.2.2.2.1, u.2.2.2.2.2.1, u.2.2.2.2.2.2.1, u.2.2.2.2.2.2.2)))))))) t.heap ∧ va_K D.1 vwCl (tCo u.2.1 ++ tRd u.1) t ∧ va_D A (wX11 hT aT yT u.2.2.1 ++ (wTP (aT 0) aT_0 yT_0 gT_0 ++ (wX6 (aT 2) aT_2 yT_2 gT_2 ++ (wX4 hT_8 aT_8 yT_8 gT_8 ++ (wCo (u.2.1.1, u.2.1.2.1, u.2.2.2.1) ++ (wRd (aT 0) (aT 2) (u.1.1, u.1.2.1, (u.2.2.2.2.1, u.2.2.2.2.2.1, u.2.2.2.2.2.2.1, u.2.2.2.2.2.2.2))))))))) A) #[.ref hT] s 25 9209 A) (F0 m 22 ls []) := by
    intro a H locs ls cells slots ho hc1 hc2 X hl
    obtain ⟨gT, hgT⟩ : ∃ g : Gs, g = sR gT0 10 (some a.1) := ⟨_, rfl⟩
    have h8e : gR gT 8 = some hT_8 := by subst hgT; exact h8e0
    have hrd : gR gT 11 = rd.map (fun u => u.1) := by subst hgT; exact hrd0
    rw [← hgT] at X
    refine W.widen (k := 16) (n := 7383) hc1 hc2 ?_
    refine lv_aload_n hx hb dX11_readAsked_22 rfl (lv_at hl 1 rfl) ?_
    refine lv_aload_n hx hb dX11_readAsked_23 rfl (lv_at hl 1 rfl) ?_
    have X : Hx D ((tX11 yT ++ (tX4 yT_8 ++ (oT tRd rd))) ++ (tTP yT_0 ++ (tX6 yT_2 ++ (tCo a)))) A s H locs ((wX11 hT aT yT gT ++ (wX4 hT_8 aT_8 yT_8 gT_8 ++ (oW (wRd (aT 0) (aT 2)) rd))) ++ (wTP (aT 0) aT_0 yT_0 gT_0 ++ (wX6 (aT 2) aT_2 yT_2 gT_2 ++ (wCo a)))) := Hx_perm X (by
      refine perm_cnt (fun c hc => ?_)
      simp only [oW_some, oW_none, wPl, wRd, wCo, wSt, hc, cnt_nil hc]
      all_goals omega) (fun q hq => by
      simp only [oT_some, oT_none, tPl, tRd, tCo, tSt, List.mem_append] at hq ⊢
      (repeat' (refine Or.elim hq ?_ ?_ <;> intro hq)) <;> simp [hq])
    have hpr := Hx_pre X
    have hFc := Hx_free X
    refine va_callr (va_runV (As := []) (rest := [.ref hT]) ⟨hx, hb, hml, hown, hts⟩ (g_X11_readerOfTape n5 l D hT aT yT hT_8 aT_8 yT_8 gT gT_8 rd h8e hrd _) (cwV 0 hts (good_V q2_206 q2_208 q0_1 q1_1 q2_209) rfl rfl rfl (by decide +kernel) ⟨Nat.le_of_ble_eq_true rfl, Nat.le_of_ble_eq_true rfl⟩) ⟨PC_blind, va_recv X.1 X.2.1 (ci := 11) (q0 := 0) rfl rfl, PC_at (va_K_mem X.1 (fun q hq => List.mem_append_left _ hq)) hpr.1 hpr.2 X.2.2.2.2.2 X.2.2.2.1 hFc⟩ rfl rfl hl.1 rfl (lv_room (Nat.le_of_ble_eq_true rfl)) dX11_readAsked_24 ⟨Nat.le_of_ble_eq_true rfl, Nat.le_of_ble_eq_true rfl⟩) X.2.2.2.1 (fun q _ h => hFc q h) hFc (fun r ra t H locs ht hvm hw hB hz1 hk1 hS => ?_)
    obtain ⟨rfl, hP1, hK1, hD1⟩ := hB
    rw [ht] at hP1
    have hK1 := va_K.moved hvm.symm hK1
    have X := Hx_frame X hK1 hP1 hD1 hk1 hS
    have X : Hx D (tX11 yT ++ (tTP yT_0 ++ (tX6 yT_2 ++ (tX4 yT_8 ++ (tCo a ++ (tRd r)))))) A s H locs (wX11 hT aT yT (sR gT 11 (some r.1)) ++ (wTP (aT 0) aT_0 yT_0 gT_0 ++ (wX6 (aT 2) aT_2 yT_2 gT_2 ++ (wX4 hT_8 aT_8 yT_8 gT_8 ++ (wCo a ++ (wRd (aT 0) (aT 2) r)))))) := Hx_perm X (by
      refine perm_cnt (fun c hc => ?_)
      simp only [oW_some, oW_none, wPl, wRd, wCo, wSt, hc, cnt_nil hc]
      all_goals omega) (fun q hq => by
      simp only [oT_some, oT_none, tPl, tRd, tCo, tSt, List.mem_append] at hq ⊢
      (repeat' (refine Or.elim hq ?_ ?_ <;> intro hq)) <;> simp [hq])
    obtain ⟨q, hq, hpost⟩ := hF r a hw ho
    rw [← hgT] at hq
    refine W_mono (MQ_mono (fun o1 t ha hq1 => ?_)) ((k27 l D hT aT yT aT_0 yT_0 aT_2 yT_2 hT_8 aT_8 yT_8 a.1 a.2.1.1 a.2.1.2 r.1 r.2.1.1.1 r.2.1.1.2 r.2.1.2.1.1 r.2.1.2.1.2 r.2.1.2.2.1.1 r.2.1.2.2.1.2 r.2.1.2.2.2.1 r.2.1.2.2.2.2 n) ⟨Nat.le_of_ble_eq_true rfl, Nat.le_of_ble_eq_true rfl⟩ ⟨Nat.le_of_ble_eq_true rfl, Nat.le_of_ble_eq_true rfl⟩ C X (lv_sub hl [1, 0] rfl) (asked_b27 hq))
    obtain ⟨⟨_, v, e1, _, e2, e3⟩, e4⟩ := hq1
    exact ⟨⟨(r, a, q), v, e1, hpost, e2, e3.1, va_K.moved ha (va_K_mem X.1 (fun q hq => by
      simp only [List.mem_append] at hq ⊢
      rcases hq with h | h <;> simp [h])), e3.2⟩, e4⟩
  have X := X
  obtain ⟨gT, hgT⟩ : ∃ g : Gs, g = gT0 := ⟨_, rfl⟩
  rw [← hgT] at X hak
  refine lv_aload_n hx hb dX11_readAsked_0 rfl (lv_at hl 0 rfl) ?_
  cases ak with
  | some a =>
    have h10 : gR gT 10 = some a.1 := hak
    refine va_get (D := D.1) (ci := 11) (v := .ref a.1) (C := RX11) (T := TX11) (N := 14) hx hb hts wi_X11 hown X.1 X.2.1 0 rfl rfl 10 (by decide) (hts _ q2_157) (fun _ h9 => h9) ((fl_get (by decide)).trans (rf_e h10)) dX11_readAsked_1 ?_
    refine lv_astore_n (lv' := [(1, .ref a.1), (0, .ref hT)]) hx hb dX11_readAsked_4 rfl hl (by decide) rfl (fun ls hl => ?_)
    refine lv_aload_n hx hb dX11_readAsked_5 rfl (lv_at hl 0 rfl) ?_
    refine lv_ifnonnull (tgt := 22) hx hb dX11_readAsked_6 (by decide) ?_
    refine key a _ _ ls _ _ (Or.inl rfl) (Nat.le_of_ble_eq_true rfl) (Nat.le_of_ble_eq_true rfl) ?_ hl
    rw [← hgT, sR_eq h10]
    exact Hx_perm X (by
      refine perm_cnt (fun c hc => ?_)
      simp only [oW_some, oW_none, wPl, wRd, wCo, wSt, hc, cnt_nil hc]
      all_goals omega) (fun q hq => by
      simp only [oT_some, oT_none, tPl, tRd, tCo, tSt, List.mem_append] at hq ⊢
      (repeat' (refine Or.elim hq ?_ ?_ <;> intro hq)) <;> simp [hq])
  | none =>
    have h10 : gR gT 10 = none := hak
    refine va_get (D := D.1) (ci := 11) (v := .null) (C := RX11) (T := TX11) (N := 14) hx hb hts wi_X11 hown X.1 X.2.1 0 rfl rfl 10 (by decide) (hts _ q2_157) (fun _ h9 => h9) ((fl_get (by decide)).trans (rn_e h10)) dX11_readAsked_1 ?_
    refine lv_astore_nN (lv' := [(1, .null), (0, .ref hT)]) hx hb dX11_readAsked_4 rfl hl (by decide) rfl (fun ls hl => ?_)
    refine lv_aload_nN hx hb dX11_readAsked_5 rfl (lv_at hl 0 rfl) ?_
    refine lv_ifnonnullN hx hb dX11_readAsked_6 ?_
    refine va_new (ci := 0) (fs := (List.range 19).map (dfl kdX0)) (C := RX0) (T := TX0) (N := 19) hx hb hts wi_X0 tyX0 tyX0_ok hown (hts _ q6_22) (hts _ q1_202) (hts _ q1_8) X.1 X.2.1 X.2.2.1 X.2.2.2.1 X.2.2.2.2.1 rfl dfX0 (Nat.le_of_ble_eq_true rfl) (Nat.le_of_ble_eq_true rfl) dX11_readAsked_9 (fun w9 H hP hD hS => ?_)
    refine lv_dup hx hb dX11_readAsked_12 rfl ?_
    have X : Hx D (tX11 yT ++ (tTP yT_0 ++ (tX6 yT_2 ++ (tX4 yT_8 ++ (oT tRd rd))))) A s H [] ([(w9, .inr (0, (List.range 19).map (dfl kdX0)))] ++ (wX11 hT aT yT gT ++ (wTP (aT 0) aT_0 yT_0 gT_0 ++ (wX6 (aT 2) aT_2 yT_2 gT_2 ++ (wX4 hT_8 aT_8 yT_8 gT_8 ++ (oW (wRd (aT 0) (aT 2)) rd)))))) := by
      have X : Hx D _ A s H [] _ := ⟨X.1, hP, hD, hS, X.2.2.2.2⟩
      exact Hx_perm X (by
      refine perm_cnt (fun c hc => ?_)
      simp only [oW_some, oW_none, wPl, wRd, wCo, wSt, hc, cnt_nil hc]
      all_goals omega) (fun q hq => by
      simp only [oT_some, oT_none, tPl, tRd, tCo, tSt, List.mem_append] at hq ⊢
      (repeat' (refine Or.elim hq ?_ ?_ <;> intro hq)) <;> simp [hq])
    have hpr := Hx_pre X
    have hFc := Hx_free X
    refine va_callv (va_runIN (As := []) (rest := [.ref w9]) ⟨hx, hb, hml, hown, hts⟩ (n0 l D w9 _) ⟨va_cnB 0 hts (good_ws q1_205) rfl rfl rfl (X.2.2.2.2.2.1 _ q6_23 rfl) (hts _ q1_8) (by decide +kernel) ⟨Nat.le_of_ble_eq_true rfl, Nat.le_of_ble_eq_true rfl⟩, rfl, hts _ q1_204⟩ ⟨PC_blind, PC_at (eK X) hpr.1 hpr.2 X.2.2.2.2.2 X.2.2.2.1 hFc⟩ rfl rfl hl.1 rfl (lv_room (Nat.le_of_ble_eq_true rfl)) dX11_readAsked_13 ⟨Nat.le_of_ble_eq_true rfl, Nat.le_of_ble_eq_true rfl⟩) X.2.2.2.1 (fun q _ h => hFc q h) hFc (fun u t H locs ht hvm hw4 hB hz1 hk1 hS => ?_)
    obtain ⟨hP1, hK1, hD1⟩ := hB
    rw [ht] at hP1
    have hK1 := va_K.moved hvm.symm hK1
    have X := Hx_frame X hK1 hP1 hD1 hk1 hS
    obtain ⟨a, ha⟩ : ∃ a : COT, a = (w9, u, g0X0) := ⟨_, rfl⟩
    have X9 : Hx D (tX11 yT ++ (tTP yT_0 ++ (tX6 yT_2 ++ (tX4 yT_8 ++ (tCo a ++ (oT tRd rd)))))) A s H locs (wX11 hT aT yT gT ++ (wTP (aT 0) aT_0 yT_0 gT_0 ++ (wX6 (aT 2) aT_2 yT_2 gT_2 ++ (wX4 hT_8 aT_8 yT_8 gT_8 ++ (wCo a ++ (oW (wRd (aT 0) (aT 2)) rd)))))) := by
      subst ha
      exact Hx_perm X (by
      refine perm_cnt (fun c hc => ?_)
      simp only [oW_some, oW_none, wPl, wRd, wCo, wSt, hc, cnt_nil hc]
      all_goals omega) (fun q hq => by
      simp only [oT_some, oT_none, tPl, tRd, tCo, tSt, List.mem_append] at hq ⊢
      (repeat' (refine Or.elim hq ?_ ?_ <;> intro hq)) <;> simp [hq])
    have hCo : CoOf none a := Or.inr ⟨rfl, by rw [ha]⟩
    have e9 : a.1 = w9 := by rw [ha]
    clear ha
    subst e9
    have X := X9
    refine lv_astore_n (lv' := [(1, .ref a.1), (0, .ref hT)]) hx hb dX11_readAsked_16 rfl hl (by decide) rfl (fun ls hl => ?_)
    refine lv_aload_n hx hb dX11_readAsked_17 rfl (lv_at hl 1 rfl) ?_
    refine lv_aload_n hx hb dX11_readAsked_18 rfl (lv_at hl 0 rfl) ?_
    have hX1 : va_K D.1 vwCl (tX11 yT ++ (tTP yT_0 ++ (tX6 yT_2 ++ (tX4 yT_8 ++ (tCo a ++ (oT tRd rd)))))) s := X.1
    have hX2 : va_P D.1 vwCl (wX11 hT aT yT gT ++ (wTP (aT 0) aT_0 yT_0 gT_0 ++ (wX6 (aT 2) aT_2 yT_2 gT_2 ++ (wX4 hT_8 aT_8 yT_8 gT_8 ++ (wCo a ++ (oW (wRd (aT 0) (aT 2)) rd)))))) H := X.2.1
    have hX3 : va_D A (wX11 hT aT yT gT ++ (wTP (aT 0) aT_0 yT_0 gT_0 ++ (wX6 (aT 2) aT_2 yT_2 gT_2 ++ (wX4 hT_8 aT_8 yT_8 gT_8 ++ (wCo a ++ (oW (wRd (aT 0) (aT 2)) rd)))))) := X.2.2.1
    have hX4 : va_S A s.heap H locs := X.2.2.2.1
    refine va_put (D := D.1) (ci := 11) (v := .ref a.1) (ty := tyX11 10) (C := RX11) (T := TX11) (N := 14) hx hb hts wi_X11 tyX11 tyX11_ok nmX11 hown hX1 hX2 hX3 hX4 0 rfl rfl 10 (show 10 < 14 by decide) (hts _ q2_157) (fun _ h9 => h9) rfl (by decide +kernel) rfl rfl (by rw [List.length_map, List.length_range]; decide) dX11_readAsked_19 (fun H locs hP hD hS => ?_)
    have X : Hx D (tX11 yT ++ (tTP yT_0 ++ (tX6 yT_2 ++ (tX4 yT_8 ++ (tCo a ++ (oT tRd rd)))))) A s H locs (wX11 hT aT yT (sR gT 10 (some a.1)) ++ (wTP (aT 0) aT_0 yT_0 gT_0 ++ (wX6 (aT 2) aT_2 yT_2 gT_2 ++ (wX4 hT_8 aT_8 yT_8 gT_8 ++ (wCo a ++ (oW (wRd (aT 0) (aT 2)) rd)))))) := Hx_set X (set_l (by rw [wG_len (m := ksX11.length + 1) rfl]; decide) (wG_sR (k := 10) (v := some a.1) rfl)) hP hD hS
    rw [hgT] at X
    exact key a H locs ls _ _ hCo (Nat.le_of_ble_eq_true rfl) (Nat.le_of_ble_eq_true rfl) X hl
