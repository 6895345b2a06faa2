/-! parsing: whole formulas on both sides -/
theorem lv_all {n hP L T : Nat} {g2 G gt : Gs} {B : Nat → Nat} (hS : ScR n g2 L B G T) (hn : 20000 ≤ n) : ∀ D, LVq n hP L T g2 G gt B (fun j => tk G j = 2) 7 1 D (RC n D).1 ∧ LVq n hP L T g2 G gt B (nPre G) 7 2 D (RC n D).2.1 ∧ LV n hP L T g2 G gt B 7 3 D (RC n D).2.2.1 ∧ LV n hP L T g2 G gt B 6 4 D (RC n D).2.2.2.1 ∧ LV n hP L T g2 G gt B 5 5 D (RC n D).2.2.2.2.1 ∧ LV n hP L T g2 G gt B 4 6 D (RC n D).2.2.2.2.2.1 ∧ LV n hP L T g2 G gt B 3 7 D (RC n D).2.2.2.2.2.2.1 ∧ LV n hP L T g2 G gt B 2 8 D (fun g => (RC n D).2.2.2.2.2.2.2.1 g 166) ∧ LV n hP L T g2 G gt B 1 9 D (fun g => (RC n D).2.2.2.2.2.2.2.1 g 252) ∧ LV n hP L T g2 G gt B 0 10 D (RC n D).2.2.2.2.2.2.2.2 := by
  intro D
  induction D with
  | zero =>
    refine ⟨?_, ?_, ?_, ?_, ?_, ?_, ?_, ?_, ?_, ?_⟩
    · intro g gr gs gc j h d N A M E _ _ _ _ hD; omega
    · intro g gr gs gc j h d N A M E _ _ _ _ hD; omega
    all_goals (intro g gr gs gc j h d N A M E _ _ _ hD; omega)
  | succ D ih =>
    obtain ⟨i1, i2, i3, i4, i5, i6, i7, i8, i9, i10⟩ := ih
    exact ⟨lv_named hS hn i10, lv_primary hS hn i1 i10, lv_single hS i3 i2, lv_product hS hn i3, lv_sum hS hn i4, lv_compares hS hn i5, lv_equals hS hn i6, lv_and hS hn i7, lv_or hS hn i8, lv_formula hS hn i9 i10⟩
theorem lv_whole {n hP L T : Nat} {g2 G gt : Gs} {B : Nat → Nat} (hS : ScR n g2 L B G T) (hn : 20000 ≤ n) : LV n hP L T g2 G gt B 0 10 420 (ff_X12_formula n) := (lv_all hS hn 420).2.2.2.2.2.2.2.2.2
/-- a formula is told -/
def formG (gc : Gs) (f : Nat) (fr v1 v2 v3 v4 : Int32) : Gs := sI (sIA (sIA (sIA (sIA (sIA (sIA gc 11 (upd (gIA gc 11) f fr)) 12 (upd (gIA gc 12) f (gI gc 8))) 13 (upd (gIA gc 13) f v1)) 14 (upd (gIA gc 14) f v2)) 15 (upd (gIA gc 15) f v3)) 16 (upd (gIA gc 16) f v4)) 18 (nI (f + 1))
theorem formG_fr (gc : Gs) (f : Nat) (fr v1 v2 v3 v4 : Int32) : Fr [11, 12, 13, 14, 15, 16, 18] gc (formG gc f fr v1 v2 v3 v4) := ((((((Fr.sIA (by decide) _ _).trans (Fr.sIA (by decide) _ _)).trans (Fr.sIA (by decide) _ _)).trans (Fr.sIA (by decide) _ _)).trans (Fr.sIA (by decide) _ _)).trans (Fr.sIA (by decide) _ _)).trans (Fr.sI (by decide) _ _)
theorem formG_at (gc : Gs) (f : Nat) (fr v1 v2 v3 v4 : Int32) : (gIA (formG gc f fr v1 v2 v3 v4) 11 f = fr ∧ gIA (formG gc f fr v1 v2 v3 v4) 12 f = gI gc 8 ∧ gIA (formG gc f fr v1 v2 v3 v4) 13 f = v1 ∧ gIA (formG gc f fr v1 v2 v3 v4) 14 f = v2 ∧ gIA (formG gc f fr v1 v2 v3 v4) 15 f = v3 ∧ gIA (formG gc f fr v1 v2 v3 v4) 16 f = v4) ∧ ∀ i, i < f → gIA (formG gc f fr v1 v2 v3 v4) 11 i = gIA gc 11 i ∧ gIA (formG gc f fr v1 v2 v3 v4) 12 i = gIA gc 12 i ∧ gIA (formG gc f fr v1 v2 v3 v4) 13 i = gIA gc 13 i ∧ gIA (formG gc f fr v1 v2 v3 v4) 14 i = gIA gc 14 i ∧ gIA (formG gc f fr v1 v2 v3 v4) 15 i = gIA gc 15 i ∧ gIA (formG gc f fr v1 v2 v3 v4) 16 i = gIA gc 16 i := by
  refine ⟨⟨?_, ?_, ?_, ?_, ?_, ?_⟩, fun i hi => ⟨?_, ?_, ?_, ?_, ?_, ?_⟩⟩
  · show upd _ f _ f = _; rw [pk_us]
  · show upd _ f _ f = _; rw [pk_us]
  · show upd _ f _ f = _; rw [pk_us]
  · show upd _ f _ f = _; rw [pk_us]
  · show upd _ f _ f = _; rw [pk_us]
  · show upd _ f _ f = _; rw [pk_us]
  · show upd _ f _ i = _; rw [pk_un (by omega)]
  · show upd _ f _ i = _; rw [pk_un (by omega)]
  · show upd _ f _ i = _; rw [pk_un (by omega)]
  · show upd _ f _ i = _; rw [pk_un (by omega)]
  · show upd _ f _ i = _; rw [pk_un (by omega)]
  · show upd _ f _ i = _; rw [pk_un (by omega)]
/-- the class's loop ends -/
theorem form_end {n hP m f : Nat} {gt g2 gr0 gs0 gc0 gr gs gc : Gs} {st v1 v2 v3 v4 : Int32} (hR : gR gr0 15 = some hP) (hR' : gR gr 15 = some hP) (hg : Gos n hP gt g2 m (sI (sI gr0 8 0) 9 0, gs0, gc0, 2) (gr, gs, gc, st)) (hm : m ≤ 9000) (hn : m < n) (hst : st ≤ 1) (hf : gI gc 18 = nI f ∧ f ≤ 92) : f_X5_readFormula n hP gr0 gt gs0 g2 gc0 v1 v2 v3 v4 = some (if st = 1 then 1 else 0, gr, gs, if gI gc 10 = 0 ∧ f < 92 then formG gc f (gI gc0 8) v1 v2 v3 v4 else gc) := by
  have r0 : rEq (gR gr0 15) hP = true := decide_eq_true hR
  have r1 : rEq (gR gr 15) hP = true := decide_eq_true hR'
  obtain ⟨k, rfl⟩ : ∃ k, n = k + 1 + m := ⟨n - 1 - m, by omega⟩
  have e219 : ∀ gX, b_X5_readFormula_219 (k + 1 + m) hP (L_X5_readFormula (k + 1 + m) hP k) gr gt gs g2 gX st = some (if st = 1 then 1 else 0, gr, gs, gX) := by
    intro gX
    unfold b_X5_readFormula_219
    by_cases h1 : st = 1
    · rw [if_pos h1, if_pos h1]
    · rw [if_neg h1, if_neg h1]
  have e106 : b_X5_readFormula_106 (k + 1 + m) hP (L_X5_readFormula (k + 1 + m) hP k) gr gt gs g2 gc v1 v2 v3 v4 (gI gc0 8) st = some (if st = 1 then 1 else 0, gr, gs, if gI gc 10 = 0 ∧ f < 92 then formG gc f (gI gc0 8) v1 v2 v3 v4 else gc) := by
    unfold b_X5_readFormula_106
    rw [grd_t r1, grd_t r1]
    by_cases h10 : gI gc 10 = 0
    · obtain ⟨f1, f2⟩ := hf
      by_cases f3 : f < 92
      · rw [if_pos h10, if_pos (show gI gc 10 = 0 ∧ f < 92 from ⟨h10, f3⟩), f1, if_neg (show ¬ (92 : Int32) ≤ nI f from nI_ge (b := 92) f3 (by decide))]
        simp only [grd_t r1, grd_t (inB_nI f3 (by decide)), nI_clamp (show f < 2 ^ 31 by omega), nI_1, e219]
        rfl
      · rw [if_pos h10, if_neg (show ¬ (gI gc 10 = 0 ∧ f < 92) from fun z => f3 z.2), f1, if_pos (show (92 : Int32) ≤ nI f from nI_le (a := 92) (by omega) (by omega)), e219]
    · rw [if_neg h10, if_neg (show ¬ (gI gc 10 = 0 ∧ f < 92) from fun z => h10 z.1), e219]
  unfold f_X5_readFormula
  rw [grd_t r0]
  have := hg.loop (k := k + 1) (c := 0) (v1 := v1) (v2 := v2) (v3 := v3) (v4 := v4) (v5 := gI gc0 8) (by omega)
  show L_X5_readFormula (k + 1 + m) hP (k + 1 + m) (sI (sI gr0 8 0) 9 0) gt gs0 g2 gc0 v1 v2 v3 v4 (gI gc0 8) 2 (nI 0) = _
  rw [this, Nat.zero_add]
  show h_X5_readFormula_25 (k + 1 + m) hP (L_X5_readFormula (k + 1 + m) hP k) gr gt gs g2 gc v1 v2 v3 v4 (gI gc0 8) st (nI m) = _
  unfold h_X5_readFormula_25
  rw [if_neg (show ¬ (9000 : Int32) < nI m from nI_nlt (a := 9000) hm (by decide)), if_pos hst, e106]
abbrev cfA : List Nat := [0, 1, 2, 3, 4, 5, 6, 7, 8, 9, 10, 11, 12, 13, 14, 15, 16, 18]
/-- what reading a formula comes to -/
def FoOut (n hP L T : Nat) (g2 G gt : Gs) (B : Nat → Nat) (g gr gs gc : Gs) (j N A M f : Nat) (E : Nat → Nat × Nat × Nat) (v1 v2 v3 v4 b : Int32) (g' : Gs) : Prop :=
  (b = 1 ∧ ∃ j' gr' gs' gc' N' A' M' mm E', f_X5_readFormula n hP gr gt gs g2 gc v1 v2 v3 v4 = some (1, gr', gs', gc') ∧ MS n hP L T g2 G gt B g' gr' gs' gc' j' 0 0 N' A' M' E' ∧ j < j' ∧ Fr rdA gr gr' ∧ Fr scA gs gs' ∧ Fr cfA gc gc' ∧ (gI gc' 10 = 0 → gI gc 10 = 0) ∧ Nk g g' 0 M ∧ (3 * A' + 5 * N + 2 ≤ 5 * N' + 3 * A ∧ N' + j ≤ N + j' ∧ M' + j ≤ M + j' ∧ A ≤ A' ∧ M ≤ M') ∧ (∀ i, i < A → E' i = E i) ∧ Nm G g' E' A A' M M' j j' ∧ Eg E' mm A A' ∧ (∃ f', gI gc' 18 = nI f' ∧ f' ≤ 92) ∧ (gI gc' 10 = 0 → gI gc' 18 = nI (f + 1) ∧ (gIA gc' 11 f = nI A ∧ gIA gc' 12 f = nI A' ∧ gIA gc' 13 f = v1 ∧ gIA gc' 14 f = v2 ∧ gIA gc' 15 f = v3 ∧ gIA gc' 16 f = v4) ∧ ∀ i, i < f → gIA gc' 11 i = gIA gc 11 i ∧ gIA gc' 12 i = gIA gc 12 i ∧ gIA gc' 13 i = gIA gc 13 i ∧ gIA gc' 14 i = gIA gc 14 i ∧ gIA gc' 15 i = gIA gc 15 i ∧ gIA gc' 16 i = gIA gc 16 i)) ∨
  (∃ j' gr' gs' gc', f_X5_readFormula n hP gr gt gs g2 gc v1 v2 v3 v4 = some (0, gr', gs', gc') ∧ j ≤ j' ∧ j' < T ∧ TokAt L B G gt j' gs' ∧ Fr rdA gr gr' ∧ Fr scA gs gs' ∧ Fr cfA gc gc' ∧ (∃ f', gI gc' 18 = nI f' ∧ f' ≤ 92) ∧ Fr parA G g' ∧ ((b = 0 ∧ gI g' 21 = 1 ∧ gI g' 22 = nI (ta G j')) ∨ (b = 1 ∧ gI g' 20 = nI j' ∧ rk (kc (tk G j')) ≠ 0)))
theorem formula_both {n hP L T : Nat} {g2 G gt : Gs} {B : Nat → Nat} {g gr gs gc : Gs} {j N A M f : Nat} {E : Nat → Nat × Nat × Nat} {v1 v2 v3 v4 : Int32} (hS : ScR n g2 L B G T) (hn : 20000 ≤ n) (hm : MS n hP L T g2 G gt B g (sI (sI gr 8 0) 9 0) gs gc j 0 0 N A M E) (hf : gI gc 18 = nI f ∧ f ≤ 92) (hf2 : gI gc 10 = 0 → f < 92) : ∃ b g', ff_X12_formula n g = some (b, g') ∧ FoOut n hP L T g2 G gt B g gr gs gc j N A M f E v1 v2 v3 v4 b g' := by
  have hT := hS.2.2.1
  obtain ⟨m1, m2, m3, m4, m5, m6, m7, m8, m9, m10⟩ := id hm
  have hR : gR gr 15 = some hP := m2.2.2.1
  obtain ⟨b, g', f1, f2⟩ := lv_whole hS hn g (sI (sI gr 8 0) 9 0) gs gc j 0 0 N A M E hm (fun z => absurd z (by omega)) (by omega) (by omega)
  have fr0 : Fr rdA gr (sI (sI gr 8 0) 9 0) := (Fr.sI (by decide) _ _).trans (Fr.sI (by decide) _ _)
  refine ⟨b, g', f1, ?_⟩
  -- refused by the class
  have fR : ∀ {j' : Nat}, Rfd n hP L T g2 G gt B (sI (sI gr 8 0) 9 0) gs gc j j' → ∃ gr' gs' gc', f_X5_readFormula n hP gr gt gs g2 gc v1 v2 v3 v4 = some (0, gr', gs', gc') ∧ j ≤ j' ∧ j' < T ∧ TokAt L B G gt j' gs' ∧ Fr rdA gr gr' ∧ Fr scA gs gs' ∧ Fr cfA gc gc' ∧ (∃ f', gI gc' 18 = nI f' ∧ f' ≤ 92) := by
    intro j' ⟨q1, q2, c, gr', gs', gc', q3, q4, q5, q6, q7, q8⟩
    have h18 : gI gc' 18 = gI gc 18 := (q8 18 (by decide)).1
    have e := form_end (v1 := v1) (v2 := v2) (v3 := v3) (v4 := v4) (f := f) hR (by rw [(q6 15 (by decide)).2.2.2.2.2.2]; exact hR) q3 (by omega) (by omega) (by decide) ⟨h18.trans hf.1, hf.2⟩
    rw [if_neg (show ¬ (0 : Int32) = 1 by decide)] at e
    refine ⟨gr', gs', _, e, q1, q2, q5, fr0.trans q6, q7, ?_, ?_⟩
    · by_cases h : gI gc' 10 = 0 ∧ f < 92
      · rw [if_pos h]; exact (q8.mono (by decide)).trans ((formG_fr _ _ _ _ _ _ _).mono (by decide))
      · rw [if_neg h]; exact q8.mono (by decide)
    · by_cases h : gI gc' 10 = 0 ∧ f < 92
      · rw [if_pos h]; exact ⟨f + 1, rfl, by omega⟩
      · rw [if_neg h]; exact ⟨f, h18.trans hf.1, hf.2⟩
  rcases f2 with ⟨rfl, j', o1, o2⟩ | ⟨rfl, _, j', N', A', a1, a2, a3, a4, a5, a6⟩ | ⟨rfl, j', o1, o2, o3, o4⟩
  · obtain ⟨t1, t2⟩ := TC0 o2
    obtain ⟨c, m, N', A', M', mm', E', gr0, gs0, gc0, gr1, gc1, p1, p2, p3, p4, p5, p6, p7, p8, p9, p10, p15, p16, p17⟩ := o1
    obtain ⟨r1, r2, r3, r4, r5, r6, r7, r8, r9, r10⟩ := id p8
    have cl := pend_close (r := 0) (ρ := 0) (e := true) hn (by omega) p4 p5 p6 p7 (fun o _ => PF_cl0) (fun z => absurd z (by omega))
    have hK := kc_lt (hS.tok r5).2.2.1
    have rs : f_X5_readSign n hP (sI gr0 10 1) gs0 gc0 = some (1, gr1, gc1) := by
      unfold f_X5_readSign b_X5_readSign_43
      rw [r4.2.1, bnd_s (rank7 hK), t1, if_pos (show nI 0 ≤ 0 by decide), ifN (c := 44) (b := 44) rfl (by omega) (by decide) t2, bnd_s (show f_X5_closeParts n hP (sI gr0 10 1) gc0 0 1 = some (gr1, gc1) from cl), ifN (c := 44) (b := 44) rfl (by omega) (by decide) t2, if_pos (show gI gr1 8 = 0 from r2.1)]
    have st : stp n hP gt g2 (gr0, gs0, gc0, 3) = some (gr1, gs0, gc1, 1) := stp_leave (by rw [if_pos rfl]; exact rs) (.inr (by decide))
    have h18 : gI gc1 18 = gI gc 18 := (p9.2.2.2.1.1 18 (by decide)).1
    have e := form_end (v1 := v1) (v2 := v2) (v3 := v3) (v4 := v4) (f := f) hR r2.2.2.1 (Gos.add (Gos.one (show ¬ (3 : Int32) ≤ 1 by decide) st) p1) (by omega) (by omega) (by decide) ⟨h18.trans hf.1, hf.2⟩
    rw [if_pos rfl] at e
    by_cases h10 : gI gc1 10 = 0
    · have hf92 : f < 92 := hf2 (p9.2.2.2.1.2 h10)
      rw [if_pos ⟨h10, hf92⟩] at e
      obtain ⟨⟨x1, x2, x3, x4, x5, x6⟩, x7⟩ := formG_at gc1 f (gI gc 8) v1 v2 v3 v4
      have g8 : gI gc1 8 = nI A' := (r2.2.2.2.2.2 h10).2.1
      have g80 : gI gc 8 = nI A := (m2.2.2.2.2.2 (p9.2.2.2.1.2 h10)).2.1
      have fG := formG_fr gc1 f (gI gc 8) v1 v2 v3 v4
      have rows : ∀ k, k = 11 ∨ k = 12 ∨ k = 13 ∨ k = 14 ∨ k = 15 ∨ k = 16 → gIA gc1 k = gIA gc k := fun k hk => (p9.2.2.2.1.1 k (by rcases hk with rfl | rfl | rfl | rfl | rfl | rfl <;> decide)).2.2.2.1
      refine .inl ⟨rfl, j', gr1, gs0, _, N', A', M', mm', E', e, ⟨r1, ?_, r3, r4, r5, r6, r7, r8, r9, r10⟩, p3, fr0.trans p9.1, p9.2.2.1, (p9.2.2.2.1.1.mono (by decide)).trans (fG.mono (by decide)), fun z => p9.2.2.2.1.2 z, p9.2.2.2.2, p10, p15, p16, p17, ⟨f + 1, rfl, by omega⟩, fun _ => ⟨rfl, ⟨x1.trans g80, x2.trans g8, x3, x4, x5, x6⟩, fun i hi => ?_⟩⟩
      · obtain ⟨c1, c2, c3, c4, c5, c6⟩ := r2
        exact ⟨c1, c2, c3, c4, c5, fun z => ⟨(c6 z).1, (c6 z).2.1, fun i hi => ((c6 z).2.2 i hi).fr fG (by decide)⟩⟩
      · obtain ⟨y1, y2, y3, y4, y5, y6⟩ := x7 i hi
        exact ⟨y1.trans (by rw [rows 11 (by omega)]), y2.trans (by rw [rows 12 (by omega)]), y3.trans (by rw [rows 13 (by omega)]), y4.trans (by rw [rows 14 (by omega)]), y5.trans (by rw [rows 15 (by omega)]), y6.trans (by rw [rows 16 (by omega)])⟩
    · rw [if_neg (fun z => h10 z.1)] at e
      exact .inl ⟨rfl, j', gr1, gs0, gc1, N', A', M', mm', E', e, p8, p3, fr0.trans p9.1, p9.2.2.1, p9.2.2.2.1.1.mono (by decide), p9.2.2.2.1.2, p9.2.2.2.2, p10, p15, p16, p17, ⟨f, h18.trans hf.1, hf.2⟩, fun z => absurd z h10⟩
  · obtain ⟨gr', gs', gc', e1, e2, e3, e4, e5, e6, e7, e8⟩ := fR a6
    exact .inr ⟨j', gr', gs', gc', e1, e2, e3, e4, e5, e6, e7, e8, a3, .inr ⟨rfl, a1, by omega⟩⟩
  · obtain ⟨gr', gs', gc', e1, e2, e3, e4, e5, e6, e7, e8⟩ := fR o4
    exact .inr ⟨j', gr', gs', gc', e1, e2, e3, e4, e5, e6, e7, e8, o3, .inl ⟨rfl, o1, o2⟩⟩
