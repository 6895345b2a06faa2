theorem q2_210 : Cond.classLink RX11 98 RX5 ∈ lw_all := lw_in (tc_2 (List.mem_of_getElem? (i := 210) rfl)) rfl
theorem q2_211 : Cond.instantiable RX5 18 ∈ lw_all := lw_in (tc_2 (List.mem_of_getElem? (i := 211) rfl)) rfl
theorem q2_214 : Cond.code yX5_init cX5_init 4 none ∈ lw_all := lw_in (tc_2 (List.mem_of_getElem? (i := 214) rfl)) rfl
theorem q2_213 : Cond.instanceMethod yX5_init ∈ lw_all := lw_in (tc_2 (List.mem_of_getElem? (i := 213) rfl)) rfl
theorem q2_212 : Cond.methodLink RX11 119 yX5_init ∈ lw_all := lw_in (tc_2 (List.mem_of_getElem? (i := 212) rfl)) rfl
/-! optional blocks: what is made at the first use -/
theorem perm_cnt {α : Type} {a b : List α} (h : ∀ (c : List α → Nat), (∀ x y, c (x ++ y) = c x + c y) → c a = c b) : a.Perm b := by
  letI : DecidableEq α := fun a b => Classical.propDecidable (a = b)
  exact (@List.perm_iff_count α instBEqOfDecidableEq inferInstance a b).mpr (fun x => h (@List.count α instBEqOfDecidableEq x) (fun _ _ => List.count_append))
theorem rf_e {r : Option Nat} {a : Nat} (h : r = some a) : some (va_rf r) = some (Value.ref a) := by rw [h]; rfl
theorem rn_e {r : Option Nat} (h : r = none) : some (va_rf r) = some Value.null := by rw [h]; rfl
theorem va_up_eq {α : Type} {f : Nat → α} {k : Nat} {v : α} (h : f k = v) : va_up f k v = f := by
  funext j
  by_cases hj : j = k
  · subst hj; simp [va_up, h]
  · simp [va_up, hj]
theorem sR_eq {g : Gs} {k : Nat} {v : Option Nat} (h : gR g k = v) : sR g k v = g := by
  obtain ⟨a, b, c, d, e, f, r⟩ := g
  have e1 : r k = v := h
  show (a, b, c, d, e, f, va_up r k v) = _
  rw [va_up_eq e1]
theorem W_mono {p : Program} {l : Launch} {e : Env} {R : Room} {s : State} {m : MethodId} {args : Array Value} {below : List Frame} {meth : Method} {c : Code} {H : Heap} {locs : List Loc} {cells slots : Nat} {Q1 Q2 : State → Prop} {g : JFrame} (h : ∀ t, Q1 t → Q2 t) (w : W p l e R s m args below meth c H locs cells slots Q1 g) : W p l e R s m args below meth c H locs cells slots Q2 g := by
  intro T hT X
  obtain ⟨t, a, b⟩ := w T hT X
  exact ⟨t, a, h t b⟩
theorem MQ_mono {below : List Frame} {Qc1 Qc2 : Array Value → State → Outcome → State → Prop} {a : Array Value} {s : State} {mc ms : Nat} {free : Addr → Prop} (h : ∀ o t, s.vm.Alike t.vm → Qc1 a s o t → Qc2 a s o t) : ∀ t, MQ below Qc1 a s mc ms free t → MQ below Qc2 a s mc ms free t := by
  rintro t ⟨o, h1, h2, h3, L, h4, h5⟩
  exact ⟨o, h1, h2, h o t h4.2.1.alike h3, L, h4, h5⟩
theorem sR_sR {g : Gs} {k : Nat} {a b : Option Nat} : sR (sR g k a) k b = sR g k b := by
  obtain ⟨x1, x2, x3, x4, x5, x6, r⟩ := g
  show (_, _, _, _, _, _, va_up (va_up r k a) k b) = (x1, x2, x3, x4, x5, x6, va_up r k b)
  have e : va_up (va_up r k a) k b = va_up r k b := by
    funext j
    unfold va_up
    by_cases h : j = k <;> simp [h]
  rw [← e]
  rfl
theorem plan_b26 {n hT_8 hT_9 hT_11 : Nat} {aT_9 : Nat → Nat} {gT gT_0 gT_2 gT_3 gT_5 gT_8 gT_8_0 gT_9 gT_9_0 gT_11 gT_11_1 gT_11_2 gT_11_3 : Gs} {q : Int32 × Gs × Gs × Gs × Gs × Gs × Gs × Gs × Gs × Gs} (h : f_X11_plan n hT_8 hT_9 aT_9 hT_11 (sR gT 9 (some hT_9)) gT_0 gT_2 gT_3 gT_5 gT_8 gT_8_0 gT_9 gT_9_0 gT_11 gT_11_1 gT_11_2 gT_11_3 = some q) : b_X11_plan_26 n hT_8 hT_9 aT_9 hT_11 gT gT_0 gT_2 gT_3 gT_5 gT_8 gT_8_0 gT_9 gT_9_0 gT_11 gT_11_1 gT_11_2 gT_11_3 = some q := by
  unfold f_X11_plan at h
  obtain ⟨_, _, h⟩ := bnd_some h
  unfold b_X11_plan_4 at h
  obtain ⟨_, h⟩ := grd_some h
  obtain ⟨_, h⟩ := grd_some h
  unfold b_X11_plan_26 at h ⊢
  rw [sR_sR] at h
  exact h
abbrev QPT : Type := Int32 × Gs × Gs × Gs × Gs × Gs × Gs × Gs × Gs × Gs
abbrev RDT : Type := Nat × (AY × AY × AY × AY) × (Gs × Gs × Gs × Gs)
abbrev PLT : Type := Nat × (AY × AY) × (Gs × Gs)
abbrev COT : Type := Nat × AY × Gs
def wRd (t r : Nat) (u : RDT) : va_W := wX5 u.1 (va_up u.2.1.1.1 0 t) u.2.1.1.2 u.2.2.1 ++ (wX7 ((va_up u.2.1.1.1 0 t) 1) (va_up (va_up u.2.1.2.1.1 0 t) 1 r) u.2.1.2.1.2 u.2.2.2.1 ++ (wX2 ((va_up u.2.1.1.1 0 t) 2) (va_up u.2.1.2.2.1.1 0 t) u.2.1.2.2.1.2 u.2.2.2.2.1 ++ (wX8 ((va_up u.2.1.1.1 0 t) 3) u.2.1.2.2.2.1 u.2.1.2.2.2.2 u.2.2.2.2.2)))
def tRd (u : RDT) : List (ClassId × FieldType) := tX5 u.2.1.1.2 ++ (tX7 u.2.1.2.1.2 ++ (tX2 u.2.1.2.2.1.2 ++ (tX8 u.2.1.2.2.2.2)))
def wPl (u : PLT) : va_W := wX4 u.1 u.2.1.1.1 u.2.1.1.2 u.2.2.1 ++ (wX0 (u.2.1.1.1 0) u.2.1.2.1 u.2.1.2.2 u.2.2.2)
def tPl (u : PLT) : List (ClassId × FieldType) := tX4 u.2.1.1.2 ++ (tX0 u.2.1.2.2)
def wCo (u : COT) : va_W := wX0 u.1 u.2.1.1 u.2.1.2 u.2.2
def tCo (u : COT) : List (ClassId × FieldType) := tX0 u.2.1.2
def wSt (u : COT) : va_W := wX9 u.1 u.2.1.1 u.2.1.2 u.2.2
def tSt (u : COT) : List (ClassId × FieldType) := tX9 u.2.1.2
def oW {α : Type} (f : α → va_W) : Option α → va_W
  | none => []
  | some a => f a
def oT {α : Type} (f : α → List (ClassId × FieldType)) : Option α → List (ClassId × FieldType)
  | none => []
  | some a => f a
theorem oW_some {α : Type} {f : α → va_W} {a : α} : oW f (some a) = f a := rfl
theorem oW_none {α : Type} {f : α → va_W} : oW f none = [] := rfl
theorem oT_some {α : Type} {f : α → List (ClassId × FieldType)} {a : α} : oT f (some a) = f a := rfl
theorem oT_none {α : Type} {f : α → List (ClassId × FieldType)} : oT f none = [] := rfl
theorem cnt_nil {α : Type} {c : List α → Nat} (hc : ∀ x y, c (x ++ y) = c x + c y) : c [] = 0 := by
  have := hc [] []
  rw [List.append_nil] at this
  omega
/-- what is there stays; what isn't is made -/
def RdOf (rd : Option RDT) (p c : Nat) (u : RDT) : Prop := rd = some u ∨ (rd = none ∧ u.2.2 = (g0X5 p c, g0X7, g0X2, g0X8))
def PlOf (o : Option PLT) (u : PLT) : Prop := o = some u ∨ (o = none ∧ u.2.2 = (g0X4, g0X0))
def CoOf (o : Option COT) (u : COT) : Prop := o = some u ∨ (o = none ∧ u.2.2 = g0X0)
def StOf (o : Option COT) (u : COT) : Prop := o = some u ∨ (o = none ∧ u.2.2 = g0X9)
theorem g_X11_readerOfTape (n5 : T_n_X5_init) (l : Launch) (D : Dx) (hT : Nat) (aT : Nat → Nat) (yT : Nat → ClassId) (h8 : Nat) (a8 : Nat → Nat) (y8 : Nat → ClassId) (gT g8 : Gs) (rd : Option RDT) (h8e : gR gT 8 = some h8) (hrd : gR gT 11 = rd.map (fun u => u.1)) (sz : Nat) : Met l yX11_readerOfTape (ws_ yX11_readerOfTape cX11_readerOfTape 2 (some (.object "TurningHall$Reader"))) { frames := 3, cells := 9, slots := 1826, locals := 120 } (PC D (tX11 yT ++ (tX4 y8 ++ (oT tRd rd))) [.ref hT] (wX11 hT aT yT gT ++ (wX4 h8 a8 y8 g8 ++ (oW (wRd (aT 0) (aT 2)) rd))) sz) (va_Qr (fun u : RDT => RdOf rd h8 (a8 0) u) (fun u ra t => ra = u.1 ∧ va_P D.1 vwCl (wX11 hT aT yT (sR gT 11 (some u.1)) ++ (wX4 h8 a8 y8 g8 ++ (wRd (aT 0) (aT 2) u))) t.heap ∧ va_K D.1 vwCl (tRd u) t ∧ va_D (va_A (wX11 hT aT yT gT ++ (wX4 h8 a8 y8 g8 ++ (oW (wRd (aT 0) (aT 2)) rd))) sz) (wX11 hT aT yT (sR gT 11 (some u.1)) ++ (wX4 h8 a8 y8 g8 ++ (wRd (aT 0) (aT 2) u)))) (va_A (wX11 hT aT yT gT ++ (wX4 h8 a8 y8 g8 ++ (oW (wRd (aT 0) (aT 2)) rd))) sz)) 9 1826 (va_A (wX11 hT aT yT gT ++ (wX4 h8 a8 y8 g8 ++ (oW (wRd (aT 0) (aT 2)) rd))) sz) := by
  refine Met.ofW (cc := cX11_readerOfTape) (maxL := 2) (ret := (some (.object "TurningHall$Reader"))) (by decide) rfl ?_
  intro p e s m args below meth c s₁ B hml hv
  obtain ⟨rfl, hsz, hP, hK, hD, hN⟩ := hv
  subst hsz
  have C : Cx p s m _ meth c cX11_readerOfTape (some (.object "TurningHall$Reader")) 2 RX11 lw_all := Cx_of B hml
  have X := Hx_start hP hK hD hN
  obtain ⟨hx, hb, hr, -, hown, hts, hlk⟩ := id C
  generalize va_A (wX11 hT aT yT gT ++ (wX4 h8 a8 y8 g8 ++ (oW (wRd (aT 0) (aT 2)) rd))) s.heap.size = A at X ⊢
  have hl := lv_entry ([.ref hT]) (n := 2) (Nat.le_of_ble_eq_true rfl)
  rw [lg_entry_eq]
  generalize (lg_sl ([.ref hT]) ++ List.replicate (2 - (lg_sl ([.ref hT])).length) Slot.unset).toArray = ls at hl ⊢
  have hl : lv_has ls 2 [(0, .ref hT)] := hl
  cases rd with
  | some v =>
    have h11 : gR gT 11 = some v.1 := hrd
    have X : Hx D (tX11 yT ++ (tX4 y8 ++ tRd v)) A s s.heap [] (wX11 hT aT yT gT ++ (wX4 h8 a8 y8 g8 ++ (wRd (aT 0) (aT 2) v))) := X
    refine lv_aload_n hx hb dX11_readerOfTape_0 rfl (lv_at hl 0 rfl) ?_
    refine va_get (D := D.1) (ci := 11) (v := .ref v.1) (C := RX11) (T := TX11) (N := 14) hx hb hts wi_X11 hown X.1 X.2.1 0 rfl rfl 11 (by decide) (hts _ q2_158) (fun _ h9 => h9) ((fl_get (by decide)).trans (rf_e h11)) dX11_readerOfTape_1 ?_
    refine lv_astore_n (lv' := [(1, .ref v.1), (0, .ref hT)]) hx hb dX11_readerOfTape_4 rfl hl (by decide) rfl (fun ls hl => ?_)
    refine lv_aload_n hx hb dX11_readerOfTape_5 rfl (lv_at hl 0 rfl) ?_
    refine lv_ifnonnull (tgt := 34) hx hb dX11_readerOfTape_6 (by decide) ?_
    refine lv_aload_n hx hb dX11_readerOfTape_34 rfl (lv_at hl 0 rfl) ?_
    refine W.widen (k := 9) (n := 1826) (Nat.zero_le _) (Nat.zero_le _) ?_
    have hKv : va_K D.1 vwCl (tRd v) s := va_K_mem X.1 (fun q hq => List.mem_append_right _ (List.mem_append_right _ hq))
    have X2 := X
    rw [← sR_eq (g := gT) h11] at X2
    exact W.aret (v := .ref v.1) C.1 C.2.1 C.2.2.1 (Or.inl ⟨_, rfl⟩) (Or.inr ⟨_, rfl⟩) (fun t ht hW => ⟨⟨v, v.1, rfl, Or.inl rfl, rfl, by rw [ht]; exact X2.2.1, va_K.moved hW.alike hKv, X2.2.2.1⟩, X2.2.2.2.1.F ht⟩) X2.2.2.2.1.2.2 dX11_readerOfTape_35 C.2.2.2.2.2.2
  | none =>
    have h11 : gR gT 11 = none := hrd
    refine lv_aload_n hx hb dX11_readerOfTape_0 rfl (lv_at hl 0 rfl) ?_
    refine va_get (D := D.1) (ci := 11) (v := .null) (C := RX11) (T := TX11) (N := 14) hx hb hts wi_X11 hown X.1 X.2.1 0 rfl rfl 11 (by decide) (hts _ q2_158) (fun _ h9 => h9) ((fl_get (by decide)).trans (rn_e h11)) dX11_readerOfTape_1 ?_
    refine lv_astore_nN (lv' := [(1, .null), (0, .ref hT)]) hx hb dX11_readerOfTape_4 rfl hl (by decide) rfl (fun ls hl => ?_)
    refine lv_aload_nN hx hb dX11_readerOfTape_5 rfl (lv_at hl 0 rfl) ?_
    refine lv_ifnonnullN hx hb dX11_readerOfTape_6 ?_
    have X : Hx D (tX11 yT ++ (tX4 y8)) A s s.heap [] (wX11 hT aT yT gT ++ (wX4 h8 a8 y8 g8)) := Hx_perm X (by unfold oW; rw [List.append_nil]) (fun q hq => by rw [oT, List.append_nil]; exact hq)
    refine va_new (ci := 5) (fs := (List.range 18).map (dfl kdX5)) (C := RX5) (T := TX5) (N := 18) hx hb hts wi_X5 tyX5 tyX5_ok hown (hts _ q2_210) (hts _ q2_211) (hts _ q1_10) X.1 X.2.1 X.2.2.1 X.2.2.2.1 X.2.2.2.2.1 rfl dfX5 (Nat.le_of_ble_eq_true rfl) (Nat.le_of_ble_eq_true rfl) dX11_readerOfTape_9 (fun w9 H hP hD hS => ?_)
    have X : Hx D (tX11 yT ++ (tX4 y8)) A s H [] ((wX11 hT aT yT gT ++ (wX4 h8 a8 y8 g8)) ++ [(w9, .inr (5, (List.range 18).map (dfl kdX5)))]) := ⟨X.1, hP, hD, hS, X.2.2.2.2⟩
    refine lv_dup hx hb dX11_readerOfTape_12 rfl ?_
    refine lv_aload_n hx hb dX11_readerOfTape_13 rfl (lv_at hl 1 rfl) ?_
    refine va_get (D := D.1) (ci := 11) (v := .ref (aT 0)) (C := RX11) (T := TX11) (N := 14) hx hb hts wi_X11 hown X.1 X.2.1 0 rfl rfl 0 (by decide) (hts _ q2_147) (fun _ h9 => h9) (fl_get (by decide)) dX11_readerOfTape_14 ?_
    refine lv_aload_n hx hb dX11_readerOfTape_17 rfl (lv_at hl 1 rfl) ?_
    refine va_get (D := D.1) (ci := 11) (v := .ref (aT 2)) (C := RX11) (T := TX11) (N := 14) hx hb hts wi_X11 hown X.1 X.2.1 0 rfl rfl 2 (by decide) (hts _ q2_149) (fun _ h9 => h9) (fl_get (by decide)) dX11_readerOfTape_18 ?_
    refine lv_aload_n hx hb dX11_readerOfTape_21 rfl (lv_at hl 1 rfl) ?_
    refine va_get (D := D.1) (ci := 11) (v := .ref h8) (C := RX11) (T := TX11) (N := 14) hx hb hts wi_X11 hown X.1 X.2.1 0 rfl rfl 8 (by decide) (hts _ q2_155) (fun _ h9 => h9) ((fl_get (by decide)).trans (rf_e h8e)) dX11_readerOfTape_22 ?_
    have X : Hx D (tX11 yT ++ (tX4 y8)) A s H [] ([(w9, .inr (5, (List.range 18).map (dfl kdX5))), (h8, .inr (4, (List.range 14).map (fld kdX4 a8 g8)))] ++ (wX11 hT aT yT gT ++ (ksX4.map (arF akX4 lnX4 a8 y8 g8)))) := Hx_perm X (by
      have e1 : wX4 h8 a8 y8 g8 = [(h8, .inr (4, (List.range 14).map (fld kdX4 a8 g8)))] ++ (ksX4.map (arF akX4 lnX4 a8 y8 g8)) := rfl
      rw [e1, show ∀ (a b : Nat × va_E), [a, b] = [a] ++ [b] from fun _ _ => rfl]
      refine perm_cnt (fun c hc => ?_)
      simp only [hc]
      omega) (fun q hq => hq)
    have hpr := Hx_pre X
    have hFc := Hx_free X
    refine va_callv (va_runI (As := [.ref (aT 0), .ref (aT 2), .ref h8]) (rest := [.ref w9]) ⟨hx, hb, hml, hown, hts⟩ (n5 l D w9 (aT 0) (aT 2) h8 a8 g8 _) (cwI 3 hts (good_ws q2_214) rfl rfl rfl (hts _ q1_10) (hts _ q2_212) (hts _ q2_213) rfl (by decide +kernel) ⟨Nat.le_of_ble_eq_true rfl, Nat.le_of_ble_eq_true rfl⟩) ⟨PC_blind, PC_at (eK X) hpr.1 hpr.2 X.2.2.2.2.2 X.2.2.2.1 hFc⟩ rfl rfl hl.1 rfl (lv_room (Nat.le_of_ble_eq_true rfl)) dX11_readerOfTape_25 ⟨Nat.le_of_ble_eq_true rfl, Nat.le_of_ble_eq_true rfl⟩) X.2.2.2.1 (fun q _ h => hFc q h) hFc (fun u t H locs ht hvm hw hB hz1 hk1 hS => ?_)
    obtain ⟨hP1, hK1, hD1⟩ := hB
    rw [ht] at hP1
    have hK1 := va_K.moved hvm.symm hK1
    have X := Hx_frame X hK1 hP1 hD1 hk1 hS
    obtain ⟨z1, z2, z3, z4⟩ := hw
    obtain ⟨v, hv⟩ : ∃ v : RDT, v = (w9, (u.1, u.2.2.1, u.2.2.2, u.2.1), (g0X5 h8 (a8 0), g0X7, g0X2, g0X8)) := ⟨_, rfl⟩
    have X : Hx D (tX11 yT ++ (tX4 y8 ++ tRd v)) A s H locs (wX11 hT aT yT gT ++ (wX4 h8 a8 y8 g8 ++ (wRd (aT 0) (aT 2) v))) := Hx_perm X (by
      subst hv
      unfold wRd
      rw [va_up_eq z1, va_up_eq z2, va_up_eq z3, va_up_eq z4]
      have e1 : wX4 h8 a8 y8 g8 = [(h8, .inr (4, (List.range 14).map (fld kdX4 a8 g8)))] ++ (ksX4.map (arF akX4 lnX4 a8 y8 g8)) := rfl
      rw [e1]
      refine perm_cnt (fun c hc => ?_)
      simp only [hc]
      omega) (fun q hq => by
      subst hv
      unfold tRd at hq
      simp only [List.mem_append] at hq ⊢
      rcases hq with h | h | h | h | h | h <;> simp [h])
    refine lv_astore_n (lv' := [(1, .ref w9), (0, .ref hT)]) hx hb dX11_readerOfTape_28 rfl hl (by decide) rfl (fun ls hl => ?_)
    refine lv_aload_n hx hb dX11_readerOfTape_29 rfl (lv_at hl 1 rfl) ?_
    refine lv_aload_n hx hb dX11_readerOfTape_30 rfl (lv_at hl 0 rfl) ?_
    refine va_put (D := D.1) (ci := 11) (v := .ref w9) (ty := tyX11 11) (C := RX11) (T := TX11) (N := 14) hx hb hts wi_X11 tyX11 tyX11_ok nmX11 hown X.1 X.2.1 X.2.2.1 X.2.2.2.1 0 rfl rfl 11 (by decide) (hts _ q2_158) (fun _ h9 => h9) rfl (by decide +kernel) rfl rfl (by rw [List.length_map, List.length_range]; decide) dX11_readerOfTape_31 (fun H locs hP hD hS => ?_)
    have X : Hx D (tX11 yT ++ (tX4 y8 ++ tRd v)) A s H locs (wX11 hT aT yT (sR gT 11 (some w9)) ++ (wX4 h8 a8 y8 g8 ++ (wRd (aT 0) (aT 2) v))) := Hx_set X (set_l (by rw [wG_len (m := ksX11.length + 1) rfl]; decide) (wG_sR (k := 11) (v := some w9) rfl)) hP hD hS
    refine lv_aload_n hx hb dX11_readerOfTape_34 rfl (lv_at hl 0 rfl) ?_
    have hKv : va_K D.1 vwCl (tRd v) s := va_K_mem X.1 (fun q hq => List.mem_append_right _ (List.mem_append_right _ hq))
    have e9 : v.1 = w9 := by rw [hv]
    have e8 : v.2.2 = (g0X5 h8 (a8 0), g0X7, g0X2, g0X8) := by rw [hv]
    clear hv
    subst e9
    refine W.widen (k := 9) (n := 1826) (Nat.le_of_ble_eq_true rfl) (Nat.le_of_ble_eq_true rfl) ?_
    exact W.aret (v := .ref v.1) C.1 C.2.1 C.2.2.1 (Or.inl ⟨_, rfl⟩) (Or.inr ⟨_, rfl⟩) (fun t ht hW => ⟨⟨v, v.1, rfl, Or.inr ⟨rfl, e8⟩, rfl, by rw [ht]; exact X.2.1, va_K.moved hW.alike hKv, X.2.2.1⟩, X.2.2.2.1.F ht⟩) X.2.2.2.1.2.2 dX11_readerOfTape_35 C.2.2.2.2.2.2
theorem g_X11_plan (n4 : T_n_X4_init) (n5 : T_n_X5_init) (k26 : T_k_X11_plan_26) (l : Launch) (D : Dx) (hT : Nat) (aT : Nat → Nat) (yT : Nat → ClassId) (aT_0 : Nat → Nat) (yT_0 : Nat → ClassId) (aT_2 : Nat → Nat) (yT_2 : Nat → ClassId) (aT_3 : Nat → Nat) (yT_3 : Nat → ClassId) (aT_5 : Nat → Nat) (yT_5 : Nat → ClassId) (hT_8 : Nat) (aT_8 : Nat → Nat) (yT_8 : Nat → ClassId) (aT_8_0 : Nat → Nat) (yT_8_0 : Nat → ClassId) (n : Nat) (gT gT_0 gT_2 gT_3 gT_5 gT_8 gT_8_0 : Gs) (sp : Option PLT) (rd : Option RDT) (h8e : gR gT 8 = some hT_8) (hsp : gR gT 9 = sp.map (fun u => u.1)) (hrd : gR gT 11 = rd.map (fun u => u.1)) (Post : RDT → PLT → QPT → Prop) (hF : ∀ r o, RdOf rd hT_8 (aT_8 0) r → PlOf sp o → ∃ q, f_X11_plan n hT_8 o.1 o.2.1.1.1 r.1 (sR (sR gT 11 (some r.1)) 9 (some o.1)) gT_0 gT_2 gT_3 gT_5 gT_8 gT_8_0 o.2.2.1 o.2.2.2 r.2.2.1 r.2.2.2.1 r.2.2.2.2.1 r.2.2.2.2.2 = some q ∧ Post r o q) (sz : Nat) : Met l yX11_plan (ws_ yX11_plan cX11_plan 3 (some .int)) { frames := 12, cells := 36, slots := 10367, locals := 300 } (PC D (tX11 yT ++ (tTP yT_0 ++ (tX6 yT_2 ++ (tX9 yT_3 ++ (tX1 yT_5 ++ (tX4 yT_8 ++ (tX0 yT_8_0 ++ (oT tPl sp ++ (oT tRd rd))))))))) [.ref hT] (wX11 hT aT yT gT ++ (wTP (aT 0) aT_0 yT_0 gT_0 ++ (wX6 (aT 2) aT_2 yT_2 gT_2 ++ (wX9 (aT 3) aT_3 yT_3 gT_3 ++ (wX1 (aT 5) (va_up (va_up aT_5 0 (aT 2)) 1 (aT 3)) yT_5 gT_5 ++ (wX4 hT_8 aT_8 yT_8 gT_8 ++ (wX0 (aT_8 0) aT_8_0 yT_8_0 gT_8_0 ++ (oW wPl sp ++ (oW (wRd (aT 0) (aT 2)) rd))))))))) sz) (va_Qi (fun v (u : RDT × PLT × QPT) => v = u.2.2.1 ∧ Post u.1 u.2.1 u.2.2) (fun u t => va_P D.1 vwCl (wX11 hT aT yT u.2.2.2.1 ++ (wTP (aT 0) aT_0 yT_0 gT_0 ++ (wX6 (aT 2) aT_2 yT_2 gT_2 ++ (wX9 (aT 3) aT_3 yT_3 u.2.2.2.2.1 ++ (wX1 (aT 5) (va_up (va_up aT_5 0 (aT 2)) 1 (aT 3)) yT_5 u.2.2.2.2.2.1 ++ (wX4 hT_8 aT_8 yT_8 gT_8 ++ (wX0 (aT_8 0) aT_8_0 yT_8_0 gT_8_0 ++ (wPl (u.2.1.1, u.2.1.2.1, (u.2.2.2.2.2.2.1, u.2.2.2.2.2.2.2.1)) ++ (wRd (aT 0) (aT 2) (u.1.1, u.1.2.1, (u.2.2.2.2.2.2.2.2.1, u.2.2.2.2.2.2.2.2.2.1, u.2.2.2.2.2.2.2.2.2.2.1, u.2.2.2.2.2.2.2.2.2.2.2))))))))))) t.heap ∧ va_K D.1 vwCl (tPl u.2.1 ++ tRd u.1) t ∧ va_D (va_A (wX11 hT aT yT gT ++ (wTP (aT 0) aT_0 yT_0 gT_0 ++ (wX6 (aT 2) aT_2 yT_2 gT_2 ++ (wX9 (aT 3) aT_3 yT_3 gT_3 ++ (wX1 (aT 5) (va_up (va_up aT_5 0 (aT 2)) 1 (aT 3)) yT_5 gT_5 ++ (wX4 hT_8 aT_8 yT_8 gT_8 ++ (wX0 (aT_8 0) aT_8_0 yT_8_0 gT_8_0 ++ (oW wPl sp ++ (oW (wRd (aT 0) (aT 2)) rd))))))))) sz) (wX11 hT aT yT u.2.2.2.1 ++ (wTP (aT 0) aT_0 yT_0 gT_0 ++ (wX6 (aT 2) aT_2 yT_2 gT_2 ++ (wX9 (aT 3) aT_3 yT_3 u.2.2.2.2.1 ++ (wX1 (aT 5) (va_up (va_up aT_5 0 (aT 2)) 1 (aT 3)) yT_5 u.2.2.2.2.2.1 ++ (wX4 hT_8 aT_8 yT_8 gT_8 ++ (wX0 (aT_8 0) aT_8_0 yT_8_0 gT_8_0 ++ (wPl (u.2.1.1, u.2.1.2.1, (u.2.2.2.2.2.2.1, u.2.2.2.2.2.2.2.1)) ++ (wRd (aT 0) (aT 2) (u.1.1, u.1.2.1, (u.2.2.2.2.2.2.2.2.1, u.2.2.2.2.2.2.2.2.2.1, u.2.2.2.2.2.2.2.2.2.2.1, u.2.2.2.2.2.2.2.2.2.2.2)))))))))))) (va_A (wX11 hT aT yT gT ++ (wTP (aT 0) aT_0 yT_0 gT_0 ++ (wX6 (aT 2) aT_2 yT_2 gT_2 ++ (wX9 (aT 3) aT_3 yT_3 gT_3 ++ (wX1 (aT 5) (va_up (va_up aT_5 0 (aT 2)) 1 (aT 3)) yT_5 gT_5 ++ (wX4 hT_8 aT_8 yT_8 gT_8 ++ (wX0 (aT_8 0) aT_8_0 yT_8_0 gT_8_0 ++ (oW wPl sp ++ (oW (wRd (aT 0) (aT 2)) rd))))))))) sz)) 36 10367 (va_A (wX11 hT aT yT gT ++ (wTP (aT 0) aT_0 yT_0 gT_0 ++ (wX6 (aT 2) aT_2 yT_2 gT_2 ++ (wX9 (aT 3) aT_3 yT_3 gT_3 ++ (wX1 (aT 5) (va_up (va_up aT_5 0 (aT 2)) 1 (aT 3)) yT_5 gT_5 ++ (wX4 hT_8 aT_8 yT_8 gT_8 ++ (wX0 (aT_8 0) aT_8_0 yT_8_0 gT_8_0 ++ (oW wPl sp ++ (oW (wRd (aT 0) (aT 2)) rd))))))))) sz) := by
  refine Met.ofW (cc := cX11_plan) (maxL := 3) (ret := (some .int)) (by decide) rfl ?_
  intro p e s m args below meth c s₁ B hml hv
  obtain ⟨rfl, hsz, hP, hK, hD, hN⟩ := hv
  subst hsz
  have C : Cx p s m _ meth c cX11_plan (some .int) 3 RX11 lw_all := Cx_of B hml
  have X := Hx_start hP hK hD hN
  obtain ⟨hx, hb, hr, -, hown, hts, hlk⟩ := id C
  generalize va_A (wX11 hT aT yT gT ++ (wTP (aT 0) aT_0 yT_0 gT_0 ++ (wX6 (aT 2) aT_2 yT_2 gT_2 ++ (wX9 (aT 3) aT_3 yT_3 gT_3 ++ (wX1 (aT 5) (va_up (va_up aT_5 0 (aT 2)) 1 (aT 3)) yT_5 gT_5 ++ (wX4 hT_8 aT_8 yT_8 gT_8 ++ (wX0 (aT_8 0) aT_8_0 yT_8_0 gT_8_0 ++ (oW wPl sp ++ (oW (wRd (aT 0) (aT 2)) rd))))))))) s.heap.size = A at X ⊢
  have hl := lv_entry ([.ref hT]) (n := 3) (Nat.le_of_ble_eq_true rfl)
  rw [lg_entry_eq]
  generalize (lg_sl ([.ref hT]) ++ List.replicate (3 - (lg_sl ([.ref hT])).length) Slot.unset).toArray = ls at hl ⊢
  have hl : lv_has ls 3 [(0, .ref hT)] := hl
  have hml := C.2.2.2.1
  refine lv_aload_n hx hb dX11_plan_0 rfl (lv_at hl 0 rfl) ?_
  have X : Hx D ((tX11 yT ++ (tX4 yT_8 ++ (oT tRd rd))) ++ (tTP yT_0 ++ (tX6 yT_2 ++ (tX9 yT_3 ++ (tX1 yT_5 ++ (tX0 yT_8_0 ++ (oT tPl sp))))))) A s s.heap [] ((wX11 hT aT yT gT ++ (wX4 hT_8 aT_8 yT_8 gT_8 ++ (oW (wRd (aT 0) (aT 2)) rd))) ++ (wTP (aT 0) aT_0 yT_0 gT_0 ++ (wX6 (aT 2) aT_2 yT_2 gT_2 ++ (wX9 (aT 3) aT_3 yT_3 gT_3 ++ (wX1 (aT 5) (va_up (va_up aT_5 0 (aT 2)) 1 (aT 3)) yT_5 gT_5 ++ (wX0 (aT_8 0) aT_8_0 yT_8_0 gT_8_0 ++ (oW wPl sp))))))) := Hx_perm X (by
    refine perm_cnt (fun c hc => ?_)
    simp only [oW_some, oW_none, wPl, wRd, wCo, wSt, hc, cnt_nil hc]
    all_goals omega) (fun q hq => by
    simp only [oT_some, oT_none, tPl, tRd, tCo, tSt, List.mem_append] at hq ⊢
    (repeat' (refine Or.elim hq ?_ ?_ <;> intro hq)) <;> simp [hq])
  have hpr := Hx_pre X
  have hFc := Hx_free X
  refine va_callr (va_runV (As := []) (rest := []) ⟨hx, hb, hml, hown, hts⟩ (g_X11_readerOfTape n5 l D hT aT yT hT_8 aT_8 yT_8 gT gT_8 rd h8e hrd _) (cwV 0 hts (good_V q2_206 q2_208 q0_1 q1_1 q2_209) rfl rfl rfl (by decide +kernel) ⟨Nat.le_of_ble_eq_true rfl, Nat.le_of_ble_eq_true rfl⟩) ⟨PC_blind, va_recv X.1 X.2.1 (ci := 11) (q0 := 0) rfl rfl, PC_at (va_K_mem X.1 (fun q hq => List.mem_append_left _ hq)) hpr.1 hpr.2 X.2.2.2.2.2 X.2.2.2.1 hFc⟩ rfl rfl hl.1 rfl (lv_room (Nat.le_of_ble_eq_true rfl)) dX11_plan_1 ⟨Nat.le_of_ble_eq_true rfl, Nat.le_of_ble_eq_true rfl⟩) X.2.2.2.1 (fun q _ h => hFc q h) hFc (fun r ra t H locs ht hvm hw hB hz1 hk1 hS => ?_)
  obtain ⟨rfl, hP1, hK1, hD1⟩ := hB
  rw [ht] at hP1
  have hK1 := va_K.moved hvm.symm hK1
  have X := Hx_frame X hK1 hP1 hD1 hk1 hS
  refine lv_astore_n (lv' := [(1, .ref r.1), (0, .ref hT)]) hx hb dX11_plan_4 rfl hl (by decide) rfl (fun ls hl => ?_)
  have key : ∀ (o : PLT) (H : Heap) (locs : List Loc) (ls : Array Slot) (cells slots : Nat), PlOf sp o → cells ≤ 36 → slots ≤ 10367 → Hx D (tX11 yT ++ (tTP yT_0 ++ (tX6 yT_2 ++ (tX9 yT_3 ++ (tX1 yT_5 ++ (tX4 yT_8 ++ (tX0 yT_8_0 ++ (tPl o ++ (tRd r))))))))) A s H locs (wX11 hT aT yT (sR gT 11 (some r.1)) ++ (wTP (aT 0) aT_0 yT_0 gT_0 ++ (wX6 (aT 2) aT_2 yT_2 gT_2 ++ (wX9 (aT 3) aT_3 yT_3 gT_3 ++ (wX1 (aT 5) (va_up (va_up aT_5 0 (aT 2)) 1 (aT 3)) yT_5 gT_5 ++ (wX4 hT_8 aT_8 yT_8 gT_8 ++ (wX0 (aT_8 0) aT_8_0 yT_8_0 gT_8_0 ++ (wPl o ++ (wRd (aT 0) (aT 2) r))))))))) → lv_has ls 3 [(1, .ref r.1), (0, .ref hT)] → W p l e ({ frames := 12, cells := 36, slots := 10367, locals := 300 } : Room) s m #[.ref hT] below meth c H locs cells slots (MQ below (va_Qi (fun v (u : RDT × PLT × QPT) => v = u.2.2.1 ∧ Post u.1 u.2.1 u.2.2) (fun u t => va_P D.1 vwCl (wX11 hT aT yT u.2.2.2.1 ++ (wTP (aT 0) aT_0 yT_0 gT_0 ++ (wX6 (aT 2) aT_2 yT_2 gT_2 ++ (wX9 (aT 3) aT_3 yT_3 u.2.2.2.2.1 ++ (wX1 (aT 5) (va_up (va_up aT_5 0 (aT 2)) 1 (aT 3)) yT_5 u.2.2.2.2.2.1 ++ (wX4 hT_8 aT_8 yT_8 gT_8 ++ (wX0 (aT_8 0) aT_8_0 yT_8_0 gT_8_0 ++ (wPl (u.2.1.1, u.2.1.2.1, (u.2.2.2.2.2.2.1, u.2.2.2.2.2.2.2.1)) ++ (wRd (aT 0) (aT 2) (u.1.1, u.1.2.1, (u.2.2.2.2.2.2.2.2.1, u.2.2.2.2.2.2.2.2.2.1, u.2.2.2.2.2.2.2.2.2.2.1, u.2.2.2.2.2.2.2.2.2.2.2))))))))))) t.heap ∧ va_K D.1 vwCl (tPl u.2.1 ++ tRd u.1) t ∧ va_D A (wX11 hT aT yT u.2.2.2.1 ++ (wTP (aT 0) aT_0 yT_0 gT_0 ++ (wX6 (aT 2) aT_2 yT_2 gT_2 ++ (wX9 (aT 3) aT_3 yT_3 u.2.2.2.2.1 ++ (wX1 (aT 5) (va_up (va_up aT_5 0 (aT 2)) 1 (aT 3)) yT_5 u.2.2.2.2.2.1 ++ (wX4 hT_8 aT_8 yT_8 gT_8 ++ (wX0 (aT_8 0) aT_8_0 yT_8_0 gT_8_0 ++ (wPl (u.2.1.1, u.2.1.2.1, (u.2.2.2.2.2.2.1, u.2.2.2.2.2.2.2.1)) ++ (wRd (aT 0) (aT 2) (u.1.1, u.1.2.1, (u.2.2.2.2.2.2.2.2.1, u.2.2.2.2.2.2.2.2.2.1, u.2.2.2.2.2.2.2.2.2.2.1, u.2.2.2.2.2.2.2.2.2.2.2)))))))))))) A) #[.ref hT] s 36 10367 A) (F0 m 26 ls [.ref o.1]) := by
    intro o H locs ls cells slots ho hc1 hc2 X hl
    obtain ⟨q, hq, hpost⟩ := hF r o hw ho
    refine W.widen (k := 36) (n := 10367) hc1 hc2 ?_
    refine W_mono (MQ_mono (fun o1 t ha hq1 => ?_)) ((k26 l D hT aT yT aT_0 yT_0 aT_2 yT_2 aT_3 yT_3 aT_5 yT_5 hT_8 aT_8 yT_8 aT_8_0 yT_8_0 o.1 o.2.1.1.1 o.2.1.1.2 o.2.1.2.1 o.2.1.2.2 r.1 r.2.1.1.1 r.2.1.1.2 r.2.1.2.1.1 r.2.1.2.1.2 r.2.1.2.2.1.1 r.2.1.2.2.1.2 r.2.1.2.2.2.1 r.2.1.2.2.2.2 n) ⟨Nat.le_of_ble_eq_true rfl, Nat.le_of_ble_eq_true rfl⟩ ⟨Nat.le_of_ble_eq_true rfl, Nat.le_of_ble_eq_true rfl⟩ C X (lv_sub hl [1, 0] rfl) (plan_b26 hq))
    obtain ⟨⟨v, _, e1, e2, e3⟩, e4⟩ := hq1
    exact ⟨⟨v, (r, o, q), e1, ⟨e2, hpost⟩, e3.1, va_K.moved ha (va_K_mem X.1 (fun q hq => by
      simp only [List.mem_append] at hq ⊢
      rcases hq with h | h <;> simp [h])), e3.2⟩, e4⟩
  refine lv_aload_n hx hb dX11_plan_5 rfl (lv_at hl 1 rfl) ?_
  cases sp with
  | some o =>
    have h9 : gR gT 9 = some o.1 := hsp
    refine va_get (D := D.1) (ci := 11) (v := .ref o.1) (C := RX11) (T := TX11) (N := 14) hx hb hts wi_X11 hown X.1 X.2.1 0 rfl rfl 9 (by decide) (hts _ q2_156) (fun _ h9 => h9) ((fl_get (by decide)).trans (rf_e h9)) dX11_plan_6 ?_
    refine lv_ifnonnull (tgt := 22) hx hb dX11_plan_9 (by decide) ?_
    refine lv_aload_n hx hb dX11_plan_22 rfl (lv_at hl 1 rfl) ?_
    refine va_get (D := D.1) (ci := 11) (v := .ref o.1) (C := RX11) (T := TX11) (N := 14) hx hb hts wi_X11 hown X.1 X.2.1 0 rfl rfl 9 (by decide) (hts _ q2_156) (fun _ h9 => h9) ((fl_get (by decide)).trans (rf_e h9)) dX11_plan_23 ?_
    exact key o H locs ls _ _ (Or.inl rfl) (Nat.le_of_ble_eq_true rfl) (Nat.le_of_ble_eq_true rfl) (Hx_perm X (by
      refine perm_cnt (fun c hc => ?_)
      simp only [oW_some, oW_none, wPl, wRd, wCo, wSt, hc, cnt_nil hc]
      all_goals omega) (fun q hq => by
      simp only [oT_some, oT_none, tPl, tRd, tCo, tSt, List.mem_append] at hq ⊢
      (repeat' (refine Or.elim hq ?_ ?_ <;> intro hq)) <;> simp [hq])) hl
  | none =>
    have h9 : gR gT 9 = none := hsp
    refine va_get (D := D.1) (ci := 11) (v := .null) (C := RX11) (T := TX11) (N := 14) hx hb hts wi_X11 hown X.1 X.2.1 0 rfl rfl 9 (by decide) (hts _ q2_156) (fun _ h9 => h9) ((fl_get (by decide)).trans (rn_e h9)) dX11_plan_6 ?_
    refine lv_ifnonnullN hx hb dX11_plan_9 ?_
    refine va_new (ci := 4) (fs := (List.range 14).map (dfl kdX4)) (C := RX4) (T := TX4) (N := 14) hx hb hts wi_X4 tyX4 tyX4_ok hown (hts _ q1_195) (hts _ q1_196) (hts _ q1_7) X.1 X.2.1 X.2.2.1 X.2.2.2.1 X.2.2.2.2.1 rfl dfX4 (Nat.le_of_ble_eq_true rfl) (Nat.le_of_ble_eq_true rfl) dX11_plan_12 (fun w12 H hP hD hS => ?_)
    refine lv_dup hx hb dX11_plan_15 rfl ?_
    have X : Hx D ((tX11 yT ++ (tTP yT_0 ++ (tX6 yT_2 ++ (tX9 yT_3 ++ (tX1 yT_5 ++ (tX4 yT_8 ++ (tX0 yT_8_0 ++ (tRd r))))))))) A s H locs ([(w12, .inr (4, (List.range 14).map (dfl kdX4)))] ++ (wX11 hT aT yT (sR gT 11 (some r.1)) ++ (wTP (aT 0) aT_0 yT_0 gT_0 ++ (wX6 (aT 2) aT_2 yT_2 gT_2 ++ (wX9 (aT 3) aT_3 yT_3 gT_3 ++ (wX1 (aT 5) (va_up (va_up aT_5 0 (aT 2)) 1 (aT 3)) yT_5 gT_5 ++ (wX4 hT_8 aT_8 yT_8 gT_8 ++ (wX0 (aT_8 0) aT_8_0 yT_8_0 gT_8_0 ++ (wRd (aT 0) (aT 2) r))))))))) := by
      have X : Hx D _ A s H locs _ := ⟨X.1, hP, hD, hS, X.2.2.2.2⟩
      exact Hx_perm X (by
      refine perm_cnt (fun c hc => ?_)
      simp only [oW_some, oW_none, wPl, wRd, wCo, wSt, hc, cnt_nil hc]
      all_goals omega) (fun q hq => by
      simp only [oT_some, oT_none, tPl, tRd, tCo, tSt, List.mem_append] at hq ⊢
      (repeat' (refine Or.elim hq ?_ ?_ <;> intro hq)) <;> simp [hq])
    have hpr := Hx_pre X
    have hFc := Hx_free X
    refine va_callv (va_runIN (As := []) (rest := [.ref w12]) ⟨hx, hb, hml, hown, hts⟩ (n4 l D w12 _) ⟨va_cnB 0 hts (good_ws q1_199) rfl rfl rfl (X.2.2.2.2.2.1 _ q1_197 rfl) (hts _ q1_7) (by decide +kernel) ⟨Nat.le_of_ble_eq_true rfl, Nat.le_of_ble_eq_true rfl⟩, rfl, hts _ q1_198⟩ ⟨PC_blind, PC_at (eK X) hpr.1 hpr.2 X.2.2.2.2.2 X.2.2.2.1 hFc⟩ rfl rfl hl.1 rfl (lv_room (Nat.le_of_ble_eq_true rfl)) dX11_plan_16 ⟨Nat.le_of_ble_eq_true rfl, Nat.le_of_ble_eq_true rfl⟩) X.2.2.2.1 (fun q _ h => hFc q h) hFc (fun u t H locs ht hvm hw4 hB hz1 hk1 hS => ?_)
    obtain ⟨hP1, hK1, hD1⟩ := hB
    rw [ht] at hP1
    have hK1 := va_K.moved hvm.symm hK1
    have X := Hx_frame X hK1 hP1 hD1 hk1 hS
    refine lv_goto (tgt := 26) hx hb dX11_plan_19 (by decide) ?_
    exact key (w12, u, (g0X4, g0X0)) H locs ls _ _ (Or.inr ⟨rfl, rfl⟩) (Nat.le_of_ble_eq_true rfl) (Nat.le_of_ble_eq_true rfl) (Hx_perm X (by
      refine perm_cnt (fun c hc => ?_)
      simp only [oW_some, oW_none, wPl, wRd, wCo, wSt, hc, cnt_nil hc]
      all_goals omega) (fun q hq => by
      simp only [oT_some, oT_none, tPl, tRd, tCo, tSt, List.mem_append] at hq ⊢
      (repeat' (refine Or.elim hq ?_ ?_ <;> intro hq)) <;> simp [hq])) hl
