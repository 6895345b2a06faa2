
abbrev QST : Type := Int32 × Gs × Gs × Gs × Gs × Gs × Gs × Gs
theorem g_X11_ask (n0 : T_n_X0_init) (n5 : T_n_X5_init) (k27 : T_k_X11_readAsked_27) (k4 : T_k_X11_ask_4) (l : Launch) (D : Dx) (hT : Nat) (aT : Nat → Nat) (yT : Nat → ClassId) (aT_0 : Nat → Nat) (yT_0 : Nat → ClassId) (aT_2 : Nat → Nat) (yT_2 : Nat → ClassId) (aT_3 : Nat → Nat) (yT_3 : Nat → ClassId) (aT_5 : Nat → Nat) (yT_5 : Nat → ClassId) (hT_8 : Nat) (aT_8 : Nat → Nat) (yT_8 : Nat → ClassId) (n : Nat) (gT gT_0 gT_2 gT_3 gT_5 gT_8 : Gs) (ak : Option COT) (rd : Option RDT) (h8e : gR gT 8 = some hT_8) (hak : gR gT 10 = ak.map (fun u => u.1)) (hrd : gR gT 11 = rd.map (fun u => u.1)) (Post : RDT → COT → QST → Prop) (hF : ∀ r a, RdOf rd hT_8 (aT_8 0) r → CoOf ak a → ∃ q, f_X11_ask n hT_8 a.1 r.1 (sR (sR gT 10 (some a.1)) 11 (some r.1)) gT_0 gT_2 gT_3 gT_5 gT_8 a.2.2 r.2.2.1 r.2.2.2.1 r.2.2.2.2.1 r.2.2.2.2.2 = some q ∧ Post r a q) (sz : Nat) : Met l yX11_ask (ws_ yX11_ask cX11_ask 3 (some .int)) { frames := 13, cells := 25, slots := 9209, locals := 400 } (PC D (tX11 yT ++ (tTP yT_0 ++ (tX6 yT_2 ++ (tX9 yT_3 ++ (tX1 yT_5 ++ (tX4 yT_8 ++ (oT tCo ak ++ (oT tRd rd)))))))) [.ref hT] (wX11 hT aT yT gT ++ (wTP (aT 0) aT_0 yT_0 gT_0 ++ (wX6 (aT 2) aT_2 yT_2 gT_2 ++ (wX9 (aT 3) aT_3 yT_3 gT_3 ++ (wX1 (aT 5) (va_up (va_up aT_5 0 (aT 2)) 1 (aT 3)) yT_5 gT_5 ++ (wX4 hT_8 aT_8 yT_8 gT_8 ++ (oW wCo ak ++ (oW (wRd (aT 0) (aT 2)) rd)))))))) sz) (va_Qi (fun v (u : RDT × COT × QST) => v = u.2.2.1 ∧ Post u.1 u.2.1 u.2.2) (fun u t => va_P D.1 vwCl (wX11 hT aT yT u.2.2.2.1 ++ (wTP (aT 0) aT_0 yT_0 gT_0 ++ (wX6 (aT 2) aT_2 yT_2 gT_2 ++ (wX9 (aT 3) aT_3 yT_3 gT_3 ++ (wX1 (aT 5) (va_up (va_up aT_5 0 (aT 2)) 1 (aT 3)) yT_5 u.2.2.2.2.1 ++ (wX4 hT_8 aT_8 yT_8 gT_8 ++ (wCo (u.2.1.1, u.2.1.2.1, u.2.2.2.2.2.1) ++ (wRd (aT 0) (aT 2) (u.1.1, u.1.2.1, (u.2.2.2.2.2.2.1, u.2.2.2.2.2.2.2.1, u.2.2.2.2.2.2.2.2.1, u.2.2.2.2.2.2.2.2.2)))))))))) t.heap ∧ va_K D.1 vwCl (tCo u.2.1 ++ tRd u.1) t ∧ va_D (va_A (wX11 hT aT yT gT ++ (wTP (aT 0) aT_0 yT_0 gT_0 ++ (wX6 (aT 2) aT_2 yT_2 gT_2 ++ (wX9 (aT 3) aT_3 yT_3 gT_3 ++ (wX1 (aT 5) (va_up (va_up aT_5 0 (aT 2)) 1 (aT 3)) yT_5 gT_5 ++ (wX4 hT_8 aT_8 yT_8 gT_8 ++ (oW wCo ak ++ (oW (wRd (aT 0) (aT 2)) rd)))))))) sz) (wX11 hT aT yT u.2.2.2.1 ++ (wTP (aT 0) aT_0 yT_0 gT_0 ++ (wX6 (aT 2) aT_2 yT_2 gT_2 ++ (wX9 (aT 3) aT_3 yT_3 gT_3 ++ (wX1 (aT 5) (va_up (va_up aT_5 0 (aT 2)) 1 (aT 3)) yT_5 u.2.2.2.2.1 ++ (wX4 hT_8 aT_8 yT_8 gT_8 ++ (wCo (u.2.1.1, u.2.1.2.1, u.2.2.2.2.2.1) ++ (wRd (aT 0) (aT 2) (u.1.1, u.1.2.1, (u.2.2.2.2.2.2.1, u.2.2.2.2.2.2.2.1, u.2.2.2.2.2.2.2.2.1, u.2.2.2.2.2.2.2.2.2))))))))))) (va_A (wX11 hT aT yT gT ++ (wTP (aT 0) aT_0 yT_0 gT_0 ++ (wX6 (aT 2) aT_2 yT_2 gT_2 ++ (wX9 (aT 3) aT_3 yT_3 gT_3 ++ (wX1 (aT 5) (va_up (va_up aT_5 0 (aT 2)) 1 (aT 3)) yT_5 gT_5 ++ (wX4 hT_8 aT_8 yT_8 gT_8 ++ (oW wCo ak ++ (oW (wRd (aT 0) (aT 2)) rd)))))))) sz)) 25 9209 (va_A (wX11 hT aT yT gT ++ (wTP (aT 0) aT_0 yT_0 gT_0 ++ (wX6 (aT 2) aT_2 yT_2 gT_2 ++ (wX9 (aT 3) aT_3 yT_3 gT_3 ++ (wX1 (aT 5) (va_up (va_up aT_5 0 (aT 2)) 1 (aT 3)) yT_5 gT_5 ++ (wX4 hT_8 aT_8 yT_8 gT_8 ++ (oW wCo ak ++ (oW (wRd (aT 0) (aT 2)) rd)))))))) sz) := by
  refine Met.ofW (cc := cX11_ask) (maxL := 3) (ret := (some .int)) (by decide) rfl ?_
  intro p e s m args below meth c s₁ B hml hv
  obtain ⟨rfl, hsz, hP, hK, hD, hN⟩ := hv
  subst hsz
  have C : Cx p s m _ meth c cX11_ask (some .int) 3 RX11 lw_all := Cx_of B hml
  have X := Hx_start hP hK hD hN
  obtain ⟨hx, hb, hr, -, hown, hts, hlk⟩ := id C
  generalize va_A (wX11 hT aT yT gT ++ (wTP (aT 0) aT_0 yT_0 gT_0 ++ (wX6 (aT 2) aT_2 yT_2 gT_2 ++ (wX9 (aT 3) aT_3 yT_3 gT_3 ++ (wX1 (aT 5) (va_up (va_up aT_5 0 (aT 2)) 1 (aT 3)) yT_5 gT_5 ++ (wX4 hT_8 aT_8 yT_8 gT_8 ++ (oW wCo ak ++ (oW (wRd (aT 0) (aT 2)) rd)))))))) s.heap.size = A at X ⊢
  have hl := lv_entry ([.ref hT]) (n := 3) (Nat.le_of_ble_eq_true rfl)
  rw [lg_entry_eq]
  generalize (lg_sl ([.ref hT]) ++ List.replicate (3 - (lg_sl ([.ref hT])).length) Slot.unset).toArray = ls at hl ⊢
  have hl : lv_has ls 3 [(0, .ref hT)] := hl
  have hml := C.2.2.2.1
  refine lv_aload_n hx hb dX11_ask_0 rfl (lv_at hl 0 rfl) ?_
  have X : Hx D ((tX11 yT ++ (tTP yT_0 ++ (tX6 yT_2 ++ (tX4 yT_8 ++ (oT tCo ak ++ (oT tRd rd)))))) ++ (tX9 yT_3 ++ (tX1 yT_5))) A s s.heap [] ((wX11 hT aT yT gT ++ (wTP (aT 0) aT_0 yT_0 gT_0 ++ (wX6 (aT 2) aT_2 yT_2 gT_2 ++ (wX4 hT_8 aT_8 yT_8 gT_8 ++ (oW wCo ak ++ (oW (wRd (aT 0) (aT 2)) rd)))))) ++ (wX9 (aT 3) aT_3 yT_3 gT_3 ++ (wX1 (aT 5) (va_up (va_up aT_5 0 (aT 2)) 1 (aT 3)) yT_5 gT_5))) := Hx_perm X (by
    refine perm_cnt (fun c hc => ?_)
    simp only [oW_some, oW_none, wPl, wRd, wCo, wSt, hc, cnt_nil hc]
    all_goals omega) (fun q hq => by
    simp only [oT_some, oT_none, tPl, tRd, tCo, tSt, List.mem_append] at hq ⊢
    (repeat' (refine Or.elim hq ?_ ?_ <;> intro hq)) <;> simp [hq])
  have hpr := Hx_pre X
  have hFc := Hx_free X
  refine va_callr (va_runV (As := []) (rest := []) ⟨hx, hb, hml, hown, hts⟩ (g_X11_readAsked n0 n5 k27 l D hT aT yT aT_0 yT_0 aT_2 yT_2 hT_8 aT_8 yT_8 n gT gT_0 gT_2 gT_8 ak rd h8e hak hrd (fun r a q1 => ∃ q, b_X11_ask_4 n hT_8 a.1 r.1 q1.1 gT_0 gT_2 gT_3 gT_5 gT_8 q1.2.1 q1.2.2.1 q1.2.2.2.1 q1.2.2.2.2.1 q1.2.2.2.2.2 = some q ∧ Post r a q) (fun r a h1 h2 => by obtain ⟨q, hq, hp⟩ := hF r a h1 h2; unfold f_X11_ask at hq; obtain ⟨q1, e1, e2⟩ := bnd_some hq; exact ⟨q1, e1, q, e2, hp⟩) _) (cwV 0 hts (good_V q6_18 q6_20 q0_62 q1_1 q6_21) rfl rfl rfl (by decide +kernel) ⟨Nat.le_of_ble_eq_true rfl, Nat.le_of_ble_eq_true rfl⟩) ⟨PC_blind, va_recv X.1 X.2.1 (ci := 11) (q0 := 0) rfl rfl, PC_at (va_K_mem X.1 (fun q hq => List.mem_append_left _ hq)) hpr.1 hpr.2 X.2.2.2.2.2 X.2.2.2.1 hFc⟩ rfl rfl hl.1 rfl (lv_room (Nat.le_of_ble_eq_true rfl)) dX11_ask_1 ⟨Nat.le_of_ble_eq_true rfl, Nat.le_of_ble_eq_true rfl⟩) X.2.2.2.1 (fun q _ h => hFc q h) hFc (fun u ra t H locs ht hvm hw hB hz1 hk1 hS => ?_)
  obtain ⟨rfl, hP1, hK1, hD1⟩ := hB
  rw [ht] at hP1
  have hK1 := va_K.moved hvm.symm hK1
  have X := Hx_frame X hK1 hP1 hD1 hk1 hS
  obtain ⟨r, a, q1⟩ := u
  obtain ⟨q, hq, hpost⟩ := hw
  have X : Hx D (tX11 yT ++ (tTP yT_0 ++ (tX6 yT_2 ++ (tX9 yT_3 ++ (tX1 yT_5 ++ (tX4 yT_8 ++ (tCo a ++ (tRd r)))))))) A s H locs (wX11 hT aT yT q1.1 ++ (wTP (aT 0) aT_0 yT_0 gT_0 ++ (wX6 (aT 2) aT_2 yT_2 gT_2 ++ (wX9 (aT 3) aT_3 yT_3 gT_3 ++ (wX1 (aT 5) (va_up (va_up aT_5 0 (aT 2)) 1 (aT 3)) yT_5 gT_5 ++ (wX4 hT_8 aT_8 yT_8 gT_8 ++ (wCo (a.1, a.2.1, q1.2.1) ++ (wRd (aT 0) (aT 2) (r.1, r.2.1, (q1.2.2.1, q1.2.2.2.1, q1.2.2.2.2.1, q1.2.2.2.2.2)))))))))) := Hx_perm X (by
    refine perm_cnt (fun c hc => ?_)
    simp only [oW_some, oW_none, wPl, wRd, wCo, wSt, hc, cnt_nil hc]
    all_goals omega) (fun q hq => by
    simp only [oT_some, oT_none, tPl, tRd, tCo, tSt, List.mem_append] at hq ⊢
    (repeat' (refine Or.elim hq ?_ ?_ <;> intro hq)) <;> simp [hq])
  refine W_mono (MQ_mono (fun o1 t ha hq1 => ?_)) ((k4 l D hT aT yT aT_0 yT_0 aT_2 yT_2 aT_3 yT_3 aT_5 yT_5 hT_8 aT_8 yT_8 a.1 a.2.1.1 a.2.1.2 r.1 r.2.1.1.1 r.2.1.1.2 r.2.1.2.1.1 r.2.1.2.1.2 r.2.1.2.2.1.1 r.2.1.2.2.1.2 r.2.1.2.2.2.1 r.2.1.2.2.2.2 n) ⟨Nat.le_of_ble_eq_true rfl, Nat.le_of_ble_eq_true rfl⟩ ⟨Nat.le_of_ble_eq_true rfl, Nat.le_of_ble_eq_true rfl⟩ C X hl hq)
  obtain ⟨⟨v, _, e1, e2, e3⟩, e4⟩ := hq1
  exact ⟨⟨v, (r, a, q), e1, ⟨e2, hpost⟩, e3.1, va_K.moved ha (va_K_mem X.1 (fun q hq => by
      simp only [List.mem_append] at hq ⊢
      rcases hq with h | h <;> simp [h])), e3.2⟩, e4⟩
abbrev QWT : Type := Int32 × Gs × Gs × Gs × Gs × Gs × Gs × Gs × Gs
theorem g_X11_await (n0 : T_n_X0_init) (n5 : T_n_X5_init) (k27 : T_k_X11_readAsked_27) (k22 : T_k_X11_await_22) (kL : T_kL_X11_await) (l : Launch) (D : Dx) (hT : Nat) (aT : Nat → Nat) (yT : Nat → ClassId) (aT_0 : Nat → Nat) (yT_0 : Nat → ClassId) (aT_2 : Nat → Nat) (yT_2 : Nat → ClassId) (aT_3 : Nat → Nat) (yT_3 : Nat → ClassId) (aT_5 : Nat → Nat) (yT_5 : Nat → ClassId) (hT_8 : Nat) (aT_8 : Nat → Nat) (yT_8 : Nat → ClassId) (aT_8_0 : Nat → Nat) (yT_8_0 : Nat → ClassId) (n : Nat) (gT gT_0 gT_2 gT_3 gT_5 gT_8 gT_8_0 : Gs) (x0 : Int32) (hx1 : ¬ x0 < 0) (hx2 : x0 ≤ (500 : Int32)) (ak : Option COT) (rd : Option RDT) (h8e : gR gT 8 = some hT_8) (hak : gR gT 10 = ak.map (fun u => u.1)) (hrd : gR gT 11 = rd.map (fun u => u.1)) (Post : RDT → COT → QWT → Prop) (hF : ∀ r a, RdOf rd hT_8 (aT_8 0) r → CoOf ak a → ∃ q, f_X11_await n hT_8 a.1 r.1 (sR (sR gT 10 (some a.1)) 11 (some r.1)) gT_0 gT_2 gT_3 gT_5 gT_8 gT_8_0 a.2.2 r.2.2.1 r.2.2.2.1 r.2.2.2.2.1 r.2.2.2.2.2 x0 = some q ∧ Post r a q) (sz : Nat) : Met l yX11_await (ws_ yX11_await cX11_await 4 (some .int)) { frames := 13, cells := 25, slots := 9209, locals := 400 } (PC D (tX11 yT ++ (tTP yT_0 ++ (tX6 yT_2 ++ (tX9 yT_3 ++ (tX1 yT_5 ++ (tX4 yT_8 ++ (tX0 yT_8_0 ++ (oT tCo ak ++ (oT tRd rd))))))))) [.ref hT, .int x0] (wX11 hT aT yT gT ++ (wTP (aT 0) aT_0 yT_0 gT_0 ++ (wX6 (aT 2) aT_2 yT_2 gT_2 ++ (wX9 (aT 3) aT_3 yT_3 gT_3 ++ (wX1 (aT 5) (va_up (va_up aT_5 0 (aT 2)) 1 (aT 3)) yT_5 gT_5 ++ (wX4 hT_8 aT_8 yT_8 gT_8 ++ (wX0 (aT_8 0) aT_8_0 yT_8_0 gT_8_0 ++ (oW wCo ak ++ (oW (wRd (aT 0) (aT 2)) rd))))))))) sz) (va_Qi (fun v (u : RDT × COT × QWT) => v = u.2.2.1 ∧ Post u.1 u.2.1 u.2.2) (fun u t => va_P D.1 vwCl (wX11 hT aT yT u.2.2.2.1 ++ (wTP (aT 0) aT_0 yT_0 gT_0 ++ (wX6 (aT 2) aT_2 yT_2 gT_2 ++ (wX9 (aT 3) aT_3 yT_3 u.2.2.2.2.1 ++ (wX1 (aT 5) (va_up (va_up aT_5 0 (aT 2)) 1 (aT 3)) yT_5 u.2.2.2.2.2.1 ++ (wX4 hT_8 aT_8 yT_8 gT_8 ++ (wX0 (aT_8 0) aT_8_0 yT_8_0 gT_8_0 ++ (wCo (u.2.1.1, u.2.1.2.1, u.2.2.2.2.2.2.1) ++ (wRd (aT 0) (aT 2) (u.1.1, u.1.2.1, (u.2.2.2.2.2.2.2.1, u.2.2.2.2.2.2.2.2.1, u.2.2.2.2.2.2.2.2.2.1, u.2.2.2.2.2.2.2.2.2.2))))))))))) t.heap ∧ va_K D.1 vwCl (tCo u.2.1 ++ tRd u.1) t ∧ va_D (va_A (wX11 hT aT yT gT ++ (wTP (aT 0) aT_0 yT_0 gT_0 ++ (wX6 (aT 2) aT_2 yT_2 gT_2 ++ (wX9 (aT 3) aT_3 yT_3 gT_3 ++ (wX1 (aT 5) (va_up (va_up aT_5 0 (aT 2)) 1 (aT 3)) yT_5 gT_5 ++ (wX4 hT_8 aT_8 yT_8 gT_8 ++ (wX0 (aT_8 0) aT_8_0 yT_8_0 gT_8_0 ++ (oW wCo ak ++ (oW (wRd (aT 0) (aT 2)) rd))))))))) sz) (wX11 hT aT yT u.2.2.2.1 ++ (wTP (aT 0) aT_0 yT_0 gT_0 ++ (wX6 (aT 2) aT_2 yT_2 gT_2 ++ (wX9 (aT 3) aT_3 yT_3 u.2.2.2.2.1 ++ (wX1 (aT 5) (va_up (va_up aT_5 0 (aT 2)) 1 (aT 3)) yT_5 u.2.2.2.2.2.1 ++ (wX4 hT_8 aT_8 yT_8 gT_8 ++ (wX0 (aT_8 0) aT_8_0 yT_8_0 gT_8_0 ++ (wCo (u.2.1.1, u.2.1.2.1, u.2.2.2.2.2.2.1) ++ (wRd (aT 0) (aT 2) (u.1.1, u.1.2.1, (u.2.2.2.2.2.2.2.1, u.2.2.2.2.2.2.2.2.1, u.2.2.2.2.2.2.2.2.2.1, u.2.2.2.2.2.2.2.2.2.2)))))))))))) (va_A (wX11 hT aT yT gT ++ (wTP (aT 0) aT_0 yT_0 gT_0 ++ (wX6 (aT 2) aT_2 yT_2 gT_2 ++ (wX9 (aT 3) aT_3 yT_3 gT_3 ++ (wX1 (aT 5) (va_up (va_up aT_5 0 (aT 2)) 1 (aT 3)) yT_5 gT_5 ++ (wX4 hT_8 aT_8 yT_8 gT_8 ++ (wX0 (aT_8 0) aT_8_0 yT_8_0 gT_8_0 ++ (oW wCo ak ++ (oW (wRd (aT 0) (aT 2)) rd))))))))) sz)) 25 9209 (va_A (wX11 hT aT yT gT ++ (wTP (aT 0) aT_0 yT_0 gT_0 ++ (wX6 (aT 2) aT_2 yT_2 gT_2 ++ (wX9 (aT 3) aT_3 yT_3 gT_3 ++ (wX1 (aT 5) (va_up (va_up aT_5 0 (aT 2)) 1 (aT 3)) yT_5 gT_5 ++ (wX4 hT_8 aT_8 yT_8 gT_8 ++ (wX0 (aT_8 0) aT_8_0 yT_8_0 gT_8_0 ++ (oW wCo ak ++ (oW (wRd (aT 0) (aT 2)) rd))))))))) sz) := by
  refine Met.ofW (cc := cX11_await) (maxL := 4) (ret := (some .int)) (by decide) rfl ?_
  intro p e s m args below meth c s₁ B hml hv
  obtain ⟨rfl, hsz, hP, hK, hD, hN⟩ := hv
  subst hsz
  have C : Cx p s m _ meth c cX11_await (some .int) 4 RX11 lw_all := Cx_of B hml
  have X := Hx_start hP hK hD hN
  obtain ⟨hx, hb, hr, -, hown, hts, hlk⟩ := id C
  generalize va_A (wX11 hT aT yT gT ++ (wTP (aT 0) aT_0 yT_0 gT_0 ++ (wX6 (aT 2) aT_2 yT_2 gT_2 ++ (wX9 (aT 3) aT_3 yT_3 gT_3 ++ (wX1 (aT 5) (va_up (va_up aT_5 0 (aT 2)) 1 (aT 3)) yT_5 gT_5 ++ (wX4 hT_8 aT_8 yT_8 gT_8 ++ (wX0 (aT_8 0) aT_8_0 yT_8_0 gT_8_0 ++ (oW wCo ak ++ (oW (wRd (aT 0) (aT 2)) rd))))))))) s.heap.size = A at X ⊢
  have hl := lv_entry ([.ref hT, .int x0]) (n := 4) (Nat.le_of_ble_eq_true rfl)
  rw [lg_entry_eq]
  generalize (lg_sl ([.ref hT, .int x0]) ++ List.replicate (4 - (lg_sl ([.ref hT, .int x0])).length) Slot.unset).toArray = ls at hl ⊢
  have hl : lv_has ls 4 [(0, .ref hT), (1, .int x0)] := hl
  have hml := C.2.2.2.1
  refine lv_iload_n hx hb dX11_await_0 rfl (lv_at hl 1 rfl) ?_
  refine lv_if_lt (tgt := 11) hx hb dX11_await_1 (by decide) (fun c => absurd c hx1) (fun _ => ?_)
  refine lv_iload_n hx hb dX11_await_4 rfl (lv_at hl 1 rfl) ?_
  refine lv_sipush (v := (500 : Int32)) hx hb dX11_await_5 (by decide) ?_
  refine lv_icmp_le (tgt := 18) hx hb dX11_await_8 (by decide) (fun _ => ?_) (fun c => absurd hx2 c)
  refine lv_aload_n hx hb dX11_await_18 rfl (lv_at hl 0 rfl) ?_
  have X : Hx D ((tX11 yT ++ (tTP yT_0 ++ (tX6 yT_2 ++ (tX4 yT_8 ++ (oT tCo ak ++ (oT tRd rd)))))) ++ (tX9 yT_3 ++ (tX1 yT_5 ++ (tX0 yT_8_0)))) A s s.heap [] ((wX11 hT aT yT gT ++ (wTP (aT 0) aT_0 yT_0 gT_0 ++ (wX6 (aT 2) aT_2 yT_2 gT_2 ++ (wX4 hT_8 aT_8 yT_8 gT_8 ++ (oW wCo ak ++ (oW (wRd (aT 0) (aT 2)) rd)))))) ++ (wX9 (aT 3) aT_3 yT_3 gT_3 ++ (wX1 (aT 5) (va_up (va_up aT_5 0 (aT 2)) 1 (aT 3)) yT_5 gT_5 ++ (wX0 (aT_8 0) aT_8_0 yT_8_0 gT_8_0)))) := Hx_perm X (by
    refine perm_cnt (fun c hc => ?_)
    simp only [oW_some, oW_none, wPl, wRd, wCo, wSt, hc, cnt_nil hc]
    all_goals omega) (fun q hq => by
    simp only [oT_some, oT_none, tPl, tRd, tCo, tSt, List.mem_append] at hq ⊢
    (repeat' (refine Or.elim hq ?_ ?_ <;> intro hq)) <;> simp [hq])
  have hpr := Hx_pre X
  have hFc := Hx_free X
  refine va_callr (va_runV (As := []) (rest := []) ⟨hx, hb, hml, hown, hts⟩ (g_X11_readAsked n0 n5 k27 l D hT aT yT aT_0 yT_0 aT_2 yT_2 hT_8 aT_8 yT_8 n gT gT_0 gT_2 gT_8 ak rd h8e hak hrd (fun r a q1 => ∃ q, b_X11_await_22 n hT_8 a.1 r.1 (L_X11_await n hT_8 a.1 r.1 n) q1.1 gT_0 gT_2 gT_3 gT_5 gT_8 gT_8_0 q1.2.1 q1.2.2.1 q1.2.2.2.1 q1.2.2.2.2.1 q1.2.2.2.2.2 x0 = some q ∧ Post r a q) (fun r a h1 h2 => by obtain ⟨q, hq, hp⟩ := hF r a h1 h2; unfold f_X11_await at hq; rw [if_neg hx1, if_pos hx2] at hq; obtain ⟨q1, e1, e2⟩ := bnd_some hq; exact ⟨q1, e1, q, e2, hp⟩) _) (cwV 0 hts (good_V q6_18 q6_20 q0_62 q1_1 q6_21) rfl rfl rfl (by decide +kernel) ⟨Nat.le_of_ble_eq_true rfl, Nat.le_of_ble_eq_true rfl⟩) ⟨PC_blind, va_recv X.1 X.2.1 (ci := 11) (q0 := 0) rfl rfl, PC_at (va_K_mem X.1 (fun q hq => List.mem_append_left _ hq)) hpr.1 hpr.2 X.2.2.2.2.2 X.2.2.2.1 hFc⟩ rfl rfl hl.1 rfl (lv_room (Nat.le_of_ble_eq_true rfl)) dX11_await_19 ⟨Nat.le_of_ble_eq_true rfl, Nat.le_of_ble_eq_true rfl⟩) X.2.2.2.1 (fun q _ h => hFc q h) hFc (fun u ra t H locs ht hvm hw hB hz1 hk1 hS => ?_)
  obtain ⟨rfl, hP1, hK1, hD1⟩ := hB
  rw [ht] at hP1
  have hK1 := va_K.moved hvm.symm hK1
  have X := Hx_frame X hK1 hP1 hD1 hk1 hS
  obtain ⟨r, a, q1⟩ := u
  obtain ⟨q, hq, hpost⟩ := hw
  have X : Hx D (tX11 yT ++ (tTP yT_0 ++ (tX6 yT_2 ++ (tX9 yT_3 ++ (tX1 yT_5 ++ (tX4 yT_8 ++ (tX0 yT_8_0 ++ (tCo a ++ (tRd r))))))))) A s H locs (wX11 hT aT yT q1.1 ++ (wTP (aT 0) aT_0 yT_0 gT_0 ++ (wX6 (aT 2) aT_2 yT_2 gT_2 ++ (wX9 (aT 3) aT_3 yT_3 gT_3 ++ (wX1 (aT 5) (va_up (va_up aT_5 0 (aT 2)) 1 (aT 3)) yT_5 gT_5 ++ (wX4 hT_8 aT_8 yT_8 gT_8 ++ (wX0 (aT_8 0) aT_8_0 yT_8_0 gT_8_0 ++ (wCo (a.1, a.2.1, q1.2.1) ++ (wRd (aT 0) (aT 2) (r.1, r.2.1, (q1.2.2.1, q1.2.2.2.1, q1.2.2.2.2.1, q1.2.2.2.2.2))))))))))) := Hx_perm X (by
    refine perm_cnt (fun c hc => ?_)
    simp only [oW_some, oW_none, wPl, wRd, wCo, wSt, hc, cnt_nil hc]
    all_goals omega) (fun q hq => by
    simp only [oT_some, oT_none, tPl, tRd, tCo, tSt, List.mem_append] at hq ⊢
    (repeat' (refine Or.elim hq ?_ ?_ <;> intro hq)) <;> simp [hq])
  refine W_mono (MQ_mono (fun o1 t ha hq1 => ?_)) ((k22 l D hT aT yT aT_0 yT_0 aT_2 yT_2 aT_3 yT_3 aT_5 yT_5 hT_8 aT_8 yT_8 aT_8_0 yT_8_0 a.1 a.2.1.1 a.2.1.2 r.1 r.2.1.1.1 r.2.1.1.2 r.2.1.2.1.1 r.2.1.2.1.2 r.2.1.2.2.1.1 r.2.1.2.2.1.2 r.2.1.2.2.2.1 r.2.1.2.2.2.2 n (L_X11_await n hT_8 a.1 r.1 n) (kL l D hT aT yT aT_0 yT_0 aT_2 yT_2 aT_3 yT_3 aT_5 yT_5 hT_8 aT_8 yT_8 aT_8_0 yT_8_0 a.1 a.2.1.1 a.2.1.2 r.1 r.2.1.1.1 r.2.1.1.2 r.2.1.2.1.1 r.2.1.2.1.2 r.2.1.2.2.1.1 r.2.1.2.2.1.2 r.2.1.2.2.2.1 r.2.1.2.2.2.2 n n)) ⟨Nat.le_of_ble_eq_true rfl, Nat.le_of_ble_eq_true rfl⟩ ⟨Nat.le_of_ble_eq_true rfl, Nat.le_of_ble_eq_true rfl⟩ C X hl hq)
  obtain ⟨⟨v, _, e1, e2, e3⟩, e4⟩ := hq1
  exact ⟨⟨v, (r, a, q), e1, ⟨e2, hpost⟩, e3.1, va_K.moved ha (va_K_mem X.1 (fun q hq => by
      simp only [List.mem_append] at hq ⊢
      rcases hq with h | h <;> simp [h])), e3.2⟩, e4⟩
theorem g_X11_await_bad (l : Launch) (D : Dx) (hT : Nat) (aT : Nat → Nat) (yT : Nat → ClassId) (gT : Gs) (x0 : Int32) (hb0 : x0 < 0 ∨ ¬ x0 ≤ (500 : Int32)) (sz : Nat) : Met l yX11_await (ws_ yX11_await cX11_await 4 (some .int)) { frames := 0, cells := 0, slots := 0, locals := 0 } (PC D (tX11 yT) [.ref hT, .int x0] (wX11 hT aT yT gT) sz) (QI D (va_A (wX11 hT aT yT gT) sz) (wX11 hT aT yT (sI gT 1 (0 : Int32))) (-1 : Int32)) 0 0 (va_A (wX11 hT aT yT gT) sz) := by
  refine Met.ofW (cc := cX11_await) (maxL := 4) (ret := (some .int)) (by decide) rfl ?_
  intro p e s m args below meth c s₁ B hml hv
  obtain ⟨rfl, hsz, hP, hK, hD, hN⟩ := hv
  subst hsz
  have C : Cx p s m _ meth c cX11_await (some .int) 4 RX11 lw_all := Cx_of B hml
  have X := Hx_start hP hK hD hN
  obtain ⟨hx, hb, hr, -, hown, hts, hlk⟩ := id C
  generalize va_A (wX11 hT aT yT gT) s.heap.size = A at X ⊢
  have hl := lv_entry ([.ref hT, .int x0]) (n := 4) (Nat.le_of_ble_eq_true rfl)
  rw [lg_entry_eq]
  generalize (lg_sl ([.ref hT, .int x0]) ++ List.replicate (4 - (lg_sl ([.ref hT, .int x0])).length) Slot.unset).toArray = ls at hl ⊢
  have hl : lv_has ls 4 [(0, .ref hT), (1, .int x0)] := hl
  refine lv_iload_n hx hb dX11_await_0 rfl (lv_at hl 1 rfl) ?_
  refine lv_if_lt (tgt := 11) hx hb dX11_await_1 (by decide) (fun c => ?_) (fun c => ?_)
  · clear hb0
    refine lv_aload_n hx hb dX11_await_11 rfl (lv_at hl 0 rfl) ?_
    refine lv_iconst (v := (0 : Int32)) hx hb dX11_await_12 (by decide) ?_
    refine va_put (D := D.1) (ci := 11) (v := .int (0 : Int32)) (ty := tyX11 1) (C := RX11) (T := TX11) (N := 14) hx hb hts wi_X11 tyX11 tyX11_ok nmX11 hown X.1 X.2.1 X.2.2.1 X.2.2.2.1 0 rfl rfl 1 (by decide) (hts _ q2_148) (fun _ h9 => h9) rfl (by decide +kernel) rfl rfl (by rw [List.length_map, List.length_range]; decide) dX11_await_13 (fun H locs hP hD hS => ?_)
    have X : Hx D (tX11 yT) A s H locs (wX11 hT aT yT (sI gT 1 (0 : Int32))) := Hx_set X (wG_sI (k := 1) rfl) hP hD hS
    refine lv_iconst (v := (-1 : Int32)) hx hb dX11_await_16 (by decide) ?_
    exact rt_i C X dX11_await_17
  · have h5 : ¬ x0 ≤ (500 : Int32) := hb0.resolve_left c
    refine lv_iload_n hx hb dX11_await_4 rfl (lv_at hl 1 rfl) ?_
    refine lv_sipush (v := (500 : Int32)) hx hb dX11_await_5 (by decide) ?_
    refine lv_icmp_le (tgt := 18) hx hb dX11_await_8 (by decide) (fun c => absurd c h5) (fun _ => ?_)
    refine lv_aload_n hx hb dX11_await_11 rfl (lv_at hl 0 rfl) ?_
    refine lv_iconst (v := (0 : Int32)) hx hb dX11_await_12 (by decide) ?_
    refine va_put (D := D.1) (ci := 11) (v := .int (0 : Int32)) (ty := tyX11 1) (C := RX11) (T := TX11) (N := 14) hx hb hts wi_X11 tyX11 tyX11_ok nmX11 hown X.1 X.2.1 X.2.2.1 X.2.2.2.1 0 rfl rfl 1 (by decide) (hts _ q2_148) (fun _ h9 => h9) rfl (by decide +kernel) rfl rfl (by rw [List.length_map, List.length_range]; decide) dX11_await_13 (fun H locs hP hD hS => ?_)
    have X : Hx D (tX11 yT) A s H locs (wX11 hT aT yT (sI gT 1 (0 : Int32))) := Hx_set X (wG_sI (k := 1) rfl) hP hD hS
    refine lv_iconst (v := (-1 : Int32)) hx hb dX11_await_16 (by decide) ?_
    exact rt_i C X dX11_await_17
