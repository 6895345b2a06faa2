/-! plans' texts: what both sides hold while a plan is read -/
abbrev nTk (X : List Nat) : Prop := 8 ∉ X ∧ 9 ∉ X ∧ 10 ∉ X ∧ 11 ∉ X ∧ 12 ∉ X ∧ 13 ∉ X
abbrev parP : List Nat := [0, 1, 2, 14, 15, 16, 17, 18, 19, 20, 21, 22, 23, 24, 25, 26, 27, 28, 29, 30, 31, 32, 33, 34, 35, 36, 37, 38, 39, 40, 41, 42, 43, 44, 45, 48, 49, 50, 51, 52, 53, 54, 55, 56]
abbrev plA : List Nat := [1, 2, 3, 4, 5, 6, 7, 8, 9, 10, 11, 12, 13]
/-- the two readers at token j -/
def MR (n hQ hP L T : Nat) (g2 gt : Gs) (B : Nat → Nat) (g gr gs gc : Gs) (j N A M f : Nat) (E : Nat → Nat × Nat × Nat) : Prop :=
  (ScR n g2 L B g T ∧ TokAt L B g gt j gs ∧ j < T) ∧
  (gI g 20 = nI j ∧ gI g 25 = nI 0 ∧ gI g 24 = nI N ∧ gI g 19 = nI (2000 + A) ∧ gI g 27 = nI M) ∧ (∀ i, i < A → RE g g i (E i)) ∧
  (gR gr 14 = some hQ ∧ gR gr 15 = some hP) ∧ Tm g gr ∧ (gI gr 16 = -1 ↔ gI gc 10 = 0) ∧
  (gI gc 9 = nI N ∧ gI gc 18 = nI f ∧ f ≤ 92) ∧
  (N ≤ j ∧ 3 * A ≤ 5 * N ∧ M ≤ j) ∧
  (gI gc 10 = 0 → N ≤ 500 ∧ gI gc 8 = nI A ∧ ∀ i, i < A → CE g gc i (E i))
/-- only the formulas' part of the reference's state changed -/
theorem form_step {n hQ hP L T : Nat} {g2 gt : Gs} {B : Nat → Nat} {g gr gs gc : Gs} {j N A M f : Nat} {E : Nat → Nat × Nat × Nat} (v1 v2 v3 v4 : Int32) (hn : 20000 ≤ n) (hM : MR n hQ hP L T g2 gt B g gr gs gc j N A M f E) (hf : gI gc 10 = 0 → f < 92) : ∃ b g', ff_X12_formula n g = some (b, g') ∧
    ((b = 1 ∧ ∃ j' gr' gs' gc' N' A' M' f' mm E', f_X5_readFormula n hP gr gt gs g2 gc v1 v2 v3 v4 = some (1, gr', gs', gc') ∧ MR n hQ hP L T g2 gt B g' gr' gs' gc' j' N' A' M' f' E' ∧ j < j' ∧ Fr parA g g' ∧ Fr rdA gr gr' ∧ Fr scA gs gs' ∧ Fr cfA gc gc' ∧ (gI gc' 10 = 0 → gI gc 10 = 0) ∧ Nk g g' 0 M ∧ (A ≤ A' ∧ M ≤ M') ∧ (∀ i, i < A → E' i = E i) ∧ Nm g g' E' A A' M M' j j' ∧ Eg E' mm A A' ∧ (gI gc' 10 = 0 → f' = f + 1 ∧ (gIA gc' 11 f = nI A ∧ gIA gc' 12 f = nI A' ∧ gIA gc' 13 f = v1 ∧ gIA gc' 14 f = v2 ∧ gIA gc' 15 f = v3 ∧ gIA gc' 16 f = v4) ∧ ∀ i, i < f → gIA gc' 11 i = gIA gc 11 i ∧ gIA gc' 12 i = gIA gc 12 i ∧ gIA gc' 13 i = gIA gc 13 i ∧ gIA gc' 14 i = gIA gc 14 i ∧ gIA gc' 15 i = gIA gc 15 i ∧ gIA gc' 16 i = gIA gc 16 i)) ∨
    (∃ j' gr' gs' gc', f_X5_readFormula n hP gr gt gs g2 gc v1 v2 v3 v4 = some (0, gr', gs', gc') ∧ j' < T ∧ TokAt L B g gt j' gs' ∧ Fr rdA gr gr' ∧ Fr scA gs gs' ∧ Fr cfA gc gc' ∧ Fr parA g g' ∧ ((b = 0 ∧ gI g' 21 = 1 ∧ gI g' 22 = nI (ta g j')) ∨ (b = 1 ∧ gI g' 20 = nI j' ∧ rk (kc (tk g j')) ≠ 0)))) := by
  obtain ⟨⟨s1, s2, s3⟩, ⟨a1, a2, a3, a4, a5⟩, c1, ⟨d1, d2⟩, e1, e2, ⟨q1, q2, q3⟩, ⟨r1, r2, r3⟩, o1⟩ := hM
  have hm : MS n hP L T g2 g gt B g (sI (sI gr 8 0) 9 0) gs gc j 0 0 N A M E := ⟨⟨Fr.refl _ _, a1, a2, a3, a4, a5, c1⟩, ⟨rfl, rfl, d2, q1, e2, o1⟩, e1, s2, s3, by omega, by omega, r1, r2, r3⟩
  obtain ⟨b, g', f1, f2⟩ := formula_both (v1 := v1) (v2 := v2) (v3 := v3) (v4 := v4) s1 hn hm ⟨q2, q3⟩ hf
  refine ⟨b, g', f1, ?_⟩
  rcases f2 with ⟨rfl, j', gr', gs', gc', N', A', M', mm, E', x1, x2, x3, x4, x5, x6, x7, x8, ⟨x9, x10, x11, x12, x13⟩, x14, x15, x16, ⟨f', x17, x18⟩, x19⟩ | ⟨j', gr', gs', gc', x1, x2, x3, x4, x5, x6, x7, _, x8, x9⟩
  · obtain ⟨⟨m1, m2, m3, m4, m5, m6, m7⟩, ⟨n1, n2, n3, n4, n5, n6⟩, t1, t2, t3, _, _, t4, t5, t6⟩ := x2
    have hX : nTk parA := by decide
    refine .inl ⟨rfl, j', gr', gs', gc', N', A', M', f', mm, E', x1, ⟨⟨s1.base m1 hX, t2.base m1 hX, t3⟩, ⟨m2, m3, m4, m5, m6⟩, fun i hi => (m7 i hi).base m1 hX, ⟨by rw [(x4 14 (by decide)).2.2.2.2.2.2]; exact d1, n3⟩, t1, n5, ⟨n4, x17, x18⟩, ⟨t4, t5, t6⟩, fun z => ⟨(n6 z).1, (n6 z).2.1, fun i hi => ((n6 z).2.2 i hi).base m1 hX⟩⟩, x3, m1, x4, x5, x6, x7, x8, ⟨x12, x13⟩, x14, x15, x16, fun z => ?_⟩
    obtain ⟨y1, y2, y3⟩ := x19 z
    have : f' = f + 1 := by
      have := x17.symm.trans y1
      exact (nI_eq (by omega) (by omega)).mp this
    exact ⟨this, y2, y3⟩
  · exact .inr ⟨j', gr', gs', gc', x1, x3, x4, x5, x6, x7, x8, x9⟩
/-- NAMEs and formulas told so far -/
def Nd (T : Nat) (g gt gp : Gs) (k row : Nat) (i : Nat) : Prop := ∃ t, gIA g k i = nI t ∧ t < T ∧ tk g t = 2 ∧ gIA gp 3 row = nI (ta g t) ∧ gIA gp 2 row = nI (te g t - ta g t) ∧ ∀ q, q < te g t - ta g t → gIA gp 1 (10 * row + q) = gIA gt 0 (ta g t + q)
def NU (T : Nat) (g gc : Gs) (E : Nat → Nat × Nat × Nat) (FA : Nat → Nat) (f m : Nat) : Prop := ∃ F a x y, F < f ∧ FA F ≤ a ∧ a < FA (F + 1) ∧ opN (E a).1 ∧ (E a).2.2 = nt g m ∧ gIA g 32 m = nI (2000 + a) ∧ gIA g 28 m = (if (E a).1 = 64 then 2 else 1) ∧ x ≤ 40 ∧ y ≤ 8 ∧ gIA gc 15 F = nI x ∧ gIA gc 16 F = nI y ∧ ((gIA g 30 m = 9999 ∧ gIA g 31 m = 9999 ∧ x = 40 ∧ y = 8) ∨ (gIA g 30 m = nI x ∧ gIA g 31 m = nI y))
def NT (g : Gs) (th be ca m : Nat) : Prop := gIA g 28 m = 0 ∧ ((∃ i, i < th ∧ gIA g 37 i = nI (nt g m)) ∨ (∃ b, b < be ∧ gIA g 48 b = nI (nt g m)) ∨ (∃ c, c < ca ∧ gIA g 53 c = nI (nt g m)))
def rtk (g : Gs) (k i : Nat) : Nat := (gIA g k i).toNatClampNeg
def Inc (g : Gs) (k m : Nat) : Prop := ∀ i i', i < i' → i' < m → rtk g k i < rtk g k i'
def PN (T : Nat) (g gt gp gc : Gs) (j th be ca f A M : Nat) (E : Nat → Nat × Nat × Nat) (FA : Nat → Nat) : Prop :=
  (FA 0 = 0 ∧ FA f = A ∧ ∀ F, F < f → gIA gc 11 F = nI (FA F) ∧ gIA gc 12 F = nI (FA (F + 1)) ∧ FA F ≤ FA (F + 1) ∧ FA (F + 1) ≤ A ∧ ∃ mm, Eg E mm (FA F) (FA (F + 1)) ∧ ∃ z, z ≤ 3000 ∧ gIA gc 14 F = nI z) ∧
  ((∀ i, i < th → Nd T g gt gp 37 i i) ∧ (∀ b, b < be → Nd T g gt gp 48 (40 + b) b) ∧ (∀ c, c < ca → Nd T g gt gp 53 (52 + c) c) ∧ Inc g 37 th ∧ Inc g 48 be ∧ Inc g 53 ca) ∧
  ((∀ m, m < M → gIA g 29 m = nI (nt g m) ∧ nt g m < j ∧ (NT g th be ca m ∨ NU T g gc E FA f m)) ∧ (∀ m m', m < m' → m' < M → nt g m < nt g m') ∧
   (∀ F a, F < f → FA F ≤ a → a < FA (F + 1) → opN (E a).1 → ∃ m, m < M ∧ nt g m = (E a).2.2 ∧ gIA g 32 m = nI (2000 + a) ∧ gIA g 28 m ≠ 0) ∧
   (∀ i, i < th → ∃ m, m < M ∧ gIA g 28 m = 0 ∧ gIA g 37 i = nI (nt g m)) ∧ (∀ b, b < be → ∃ m, m < M ∧ gIA g 28 m = 0 ∧ gIA g 48 b = nI (nt g m)) ∧ (∀ c, c < ca → ∃ m, m < M ∧ gIA g 28 m = 0 ∧ gIA g 53 c = nI (nt g m)))
/-- rows of things, bells and cams told so far are the same -/
def Rw (g g' : Gs) (th be ca : Nat) : Prop := (∀ i, i < th → gIA g' 37 i = gIA g 37 i) ∧ (∀ i, i < be → gIA g' 48 i = gIA g 48 i) ∧ (∀ i, i < ca → gIA g' 53 i = gIA g 53 i)
theorem Rw.fr {X : List Nat} {g g' : Gs} (hf : Fr X g g') (hX : 37 ∉ X ∧ 48 ∉ X ∧ 53 ∉ X) (th be ca : Nat) : Rw g g' th be ca := ⟨fun i _ => by rw [(hf 37 hX.1).2.2.2.1], fun i _ => by rw [(hf 48 hX.2.1).2.2.2.1], fun i _ => by rw [(hf 53 hX.2.2).2.2.2.1]⟩
theorem Nd.keep {T : Nat} {X : List Nat} {g g' gt gp : Gs} {k row i : Nat} (h : Nd T g gt gp k row i) (hf : Fr X g g') (hX : nTk X) (hk : gIA g' k i = gIA g k i) : Nd T g' gt gp k row i := by
  obtain ⟨e1, e2, e3, e4, e5⟩ := tok_same hf hX
  unfold Nd at *
  rw [e1, e2, e3, hk]; exact h
theorem NT.keep {g g' : Gs} {th be ca m K K' : Nat} (h : NT g th be ca m) (hr : Rw g g' th be ca) (hk : Nk g g' K K') (h1 : K ≤ m) (h2 : m < K') : NT g' th be ca m := by
  obtain ⟨a1, a2⟩ := h
  have e := hk.ntE h1 h2
  refine ⟨by rw [(hk m h1 h2).1]; exact a1, ?_⟩
  rw [e]
  rcases a2 with ⟨i, i1, i2⟩ | ⟨i, i1, i2⟩ | ⟨i, i1, i2⟩
  · exact .inl ⟨i, i1, by rw [hr.1 i i1]; exact i2⟩
  · exact .inr (.inl ⟨i, i1, by rw [hr.2.1 i i1]; exact i2⟩)
  · exact .inr (.inr ⟨i, i1, by rw [hr.2.2 i i1]; exact i2⟩)
/-- a formula more -/
theorem PN.form {T : Nat} {g g' gt gp gc gc' : Gs} {j j' th be ca f A A' M M' mm x y : Nat} {E E' : Nat → Nat × Nat × Nat} {FA : Nat → Nat} (h : PN T g gt gp gc j th be ca f A M E FA) (hf : Fr parA g g') (hk : Nk g g' 0 M) (hA : A ≤ A' ∧ M ≤ M') (hj : j < j') (hE : ∀ i, i < A → E' i = E i) (hN : Nm g g' E' A A' M M' j j') (he : Eg E' mm A A') (hrow : gIA gc' 11 f = nI A ∧ gIA gc' 12 f = nI A' ∧ gIA gc' 15 f = nI x ∧ gIA gc' 16 f = nI y ∧ ∃ z, z ≤ 3000 ∧ gIA gc' 14 f = nI z) (hold : ∀ i, i < f → gIA gc' 11 i = gIA gc 11 i ∧ gIA gc' 12 i = gIA gc 12 i ∧ gIA gc' 15 i = gIA gc 15 i ∧ gIA gc' 16 i = gIA gc 16 i ∧ gIA gc' 14 i = gIA gc 14 i) (hxy : x ≤ 40 ∧ y ≤ 8 ∧ ((gI g 26 = 0 ∧ x = 40 ∧ y = 8) ∨ (¬ gI g 26 = 0 ∧ gI g 33 - 1 = nI x ∧ gI g 35 = nI y))) : PN T g' gt gp gc' j' th be ca (f + 1) A' M' E' (fun F => if F ≤ f then FA F else A') := by
  obtain ⟨⟨f1, f2, f3⟩, ⟨n1, n2, n3, n4, n5, n6⟩, m1, m2, m3, m4, m5, m6⟩ := h
  obtain ⟨k1, k2, k3⟩ := hN
  have hX : nTk parA := by decide
  have hr : Rw g g' th be ca := Rw.fr hf (by decide) _ _ _
  have nu : ∀ {m}, m < M → NU T g gc E FA f m → NU T g' gc' E' (fun F => if F ≤ f then FA F else A') (f + 1) m := by
    intro m hm ⟨F, a, x, y, x1, x2, x3, x4, x5, x6, x7, x8, x9, x10, x11, x12⟩
    obtain ⟨r1, r2, r3, r4, r5⟩ := hk m (by omega) hm
    obtain ⟨u1, u2, u3, u4, u5⟩ := f3 F x1
    have ea := hE a (by omega)
    obtain ⟨o1, o2, o3, o4, _⟩ := hold F x1
    refine ⟨F, a, x, y, by omega, by show (if F ≤ f then FA F else A') ≤ a; rw [if_pos (by omega)]; exact x2, by show a < (if F + 1 ≤ f then FA (F + 1) else A'); rw [if_pos (by omega)]; exact x3, by rw [ea]; exact x4, by rw [ea, hk.ntE (by omega) hm]; exact x5, by rw [r5]; exact x6, by rw [r1, ea]; exact x7, x8, x9, by rw [o3]; exact x10, by rw [o4]; exact x11, by rw [r3, r4]; exact x12⟩
  refine ⟨⟨?_, ?_, fun F hF => ?_⟩, ⟨fun i hi => (n1 i hi).keep hf hX (hr.1 i hi), fun i hi => (n2 i hi).keep hf hX (hr.2.1 i hi), fun i hi => (n3 i hi).keep hf hX (hr.2.2 i hi), fun i i' h1 h2 => by unfold rtk; rw [hr.1 i (by omega), hr.1 i' h2]; exact n4 i i' h1 h2, fun i i' h1 h2 => by unfold rtk; rw [hr.2.1 i (by omega), hr.2.1 i' h2]; exact n5 i i' h1 h2, fun i i' h1 h2 => by unfold rtk; rw [hr.2.2 i (by omega), hr.2.2 i' h2]; exact n6 i i' h1 h2⟩, fun m hm => ?_, fun m m' h1 h2 => ?_, fun F a h1 h2 h3 h4 => ?_, fun i hi => ?_, fun i hi => ?_, fun i hi => ?_⟩
  · show (if 0 ≤ f then FA 0 else A') = 0
    rw [if_pos (by omega)]; exact f1
  · show (if f + 1 ≤ f then FA (f + 1) else A') = A'
    rw [if_neg (by omega)]
  · show gIA gc' 11 F = nI (if F ≤ f then FA F else A') ∧ gIA gc' 12 F = nI (if F + 1 ≤ f then FA (F + 1) else A') ∧ (if F ≤ f then FA F else A') ≤ (if F + 1 ≤ f then FA (F + 1) else A') ∧ (if F + 1 ≤ f then FA (F + 1) else A') ≤ A' ∧ ∃ mm, Eg E' mm (if F ≤ f then FA F else A') (if F + 1 ≤ f then FA (F + 1) else A') ∧ ∃ z, z ≤ 3000 ∧ gIA gc' 14 F = nI z
    by_cases hF' : F < f
    · rw [if_pos (by omega), if_pos (by omega)]
      obtain ⟨u1, u2, u3, u4, mm, u5, u6⟩ := f3 F hF'
      obtain ⟨o1, o2, o3, o4, o5⟩ := hold F hF'
      exact ⟨by rw [o1]; exact u1, by rw [o2]; exact u2, u3, by omega, mm, u5.ext (fun i _ i2 => hE i (by omega)), by rw [o5]; exact u6⟩
    · have : F = f := by omega
      rw [if_pos (by omega), if_neg (by omega), this, f2]
      exact ⟨hrow.1, hrow.2.1, hA.1, Nat.le_refl _, mm, he, hrow.2.2.2.2⟩
  · by_cases h : m < M
    · obtain ⟨y1, y2, y3⟩ := m1 m h
      have e := hk.ntE (g := g) (g' := g') (Nat.zero_le m) h
      rw [e, (hk m (by omega) h).2.1]
      refine ⟨y1, by omega, ?_⟩
      rcases y3 with z | z
      · exact .inl (z.keep hr hk (by omega) h)
      · exact .inr (nu h z)
    · obtain ⟨x1, x2, x3, x4, x5, a, a1, a2, a3, a4, a5, a6⟩ := k1 m (by omega) hm
      refine ⟨x1, x3, .inr ⟨f, a, x, y, by omega, by show (if f ≤ f then FA f else A') ≤ a; rw [if_pos (by omega), f2]; exact a1, by show a < (if f + 1 ≤ f then FA (f + 1) else A'); rw [if_neg (by omega)]; exact a2, a4, a5, a3, a6, hxy.1, hxy.2.1, hrow.2.2.1, hrow.2.2.2.1, ?_⟩⟩
      rcases hxy.2.2 with ⟨z1, z2, z3⟩ | ⟨z1, z2, z3⟩
      · rw [if_pos z1] at x4 x5
        exact .inl ⟨x4, x5, z2, z3⟩
      · rw [if_neg z1] at x4 x5
        exact .inr ⟨x4.trans z2, x5.trans z3⟩
  · by_cases h : m' < M
    · rw [hk.ntE (g := g) (Nat.zero_le m) (by omega), hk.ntE (g := g) (Nat.zero_le m') h]
      exact m2 m m' h1 h
    · by_cases h' : m < M
      · rw [hk.ntE (g := g) (Nat.zero_le m) h']
        have := (m1 m h').2.1
        have := (k1 m' (by omega) h2).2.1
        omega
      · exact k2 m m' (by omega) h1 h2
  · have h2 : (if F ≤ f then FA F else A') ≤ a := h2
    have h3 : a < (if F + 1 ≤ f then FA (F + 1) else A') := h3
    by_cases hF' : F < f
    · rw [if_pos (by omega)] at h2 h3
      obtain ⟨u1, u2, u3, u4, _⟩ := f3 F hF'
      rw [hE a (by omega)] at h4 ⊢
      obtain ⟨m, y1, y2, y3, y4⟩ := m3 F a hF' h2 h3 h4
      obtain ⟨r1, r2, r3, r4, r5⟩ := hk m (by omega) y1
      exact ⟨m, by omega, by rw [hk.ntE (g := g) (Nat.zero_le m) y1]; exact y2, by rw [r5]; exact y3, by rw [r1]; exact y4⟩
    · have : F = f := by omega
      rw [this, if_pos (by omega), f2] at h2
      rw [this, if_neg (by omega)] at h3
      obtain ⟨m, y1, y2, y3, y4⟩ := k3 a h2 h3 h4
      obtain ⟨x1, x2, x3, x4, x5, a', b1, b2, b3, b4, b5, b6⟩ := k1 m y1 y2
      refine ⟨m, y2, y3, y4, ?_⟩
      rw [b6]
      split <;> decide
  · obtain ⟨m, y1, y2, y3⟩ := m4 i hi
    exact ⟨m, by omega, by rw [(hk m (by omega) y1).1]; exact y2, by rw [hr.1 i hi, hk.ntE (g := g) (Nat.zero_le m) y1]; exact y3⟩
  · obtain ⟨m, y1, y2, y3⟩ := m5 i hi
    exact ⟨m, by omega, by rw [(hk m (by omega) y1).1]; exact y2, by rw [hr.2.1 i hi, hk.ntE (g := g) (Nat.zero_le m) y1]; exact y3⟩
  · obtain ⟨m, y1, y2, y3⟩ := m6 i hi
    exact ⟨m, by omega, by rw [(hk m (by omega) y1).1]; exact y2, by rw [hr.2.2 i hi, hk.ntE (g := g) (Nat.zero_le m) y1]; exact y3⟩
/-- both go on in the text -/
theorem MR.go {n hQ hP L T : Nat} {g2 gt : Gs} {B : Nat → Nat} {X : List Nat} {g g' gr gs gs' gc : Gs} {j j' N A M f : Nat} {E : Nat → Nat × Nat × Nat} (h : MR n hQ hP L T g2 gt B g gr gs gc j N A M f E) (hf : Fr X g g') (hX : ∀ k, k ∈ X → k ∉ [8, 9, 10, 11, 12, 13, 14, 15, 17, 18, 19, 23, 24, 25, 27]) (h20 : gI g' 20 = nI j') (ht : TokAt L B g gt j' gs') (hj' : j' < T) (hjj : j ≤ j') : MR n hQ hP L T g2 gt B g' gr gs' gc j' N A M f E := by
  obtain ⟨⟨s1, s2, s3⟩, ⟨a1, a2, a3, a4, a5⟩, c1, d1, ⟨e1, e1'⟩, e2, q1, ⟨r1, r2, r3⟩, o1⟩ := h
  have nX : ∀ k, k ∈ [8, 9, 10, 11, 12, 13, 14, 15, 17, 18, 19, 23, 24, 25, 27] → k ∉ X := fun k hk z => hX k z hk
  have hT : nTk X := ⟨nX 8 (by decide), nX 9 (by decide), nX 10 (by decide), nX 11 (by decide), nX 12 (by decide), nX 13 (by decide)⟩
  have i : ∀ k, k ∈ [8, 9, 10, 11, 12, 13, 14, 15, 17, 18, 19, 23, 24, 25, 27] → gI g' k = gI g k := fun k hk => (hf k (nX k hk)).1
  exact ⟨⟨s1.base hf hT, ht.base hf hT, hj'⟩, ⟨h20, by rw [i 25 (by decide)]; exact a2, by rw [i 24 (by decide)]; exact a3, by rw [i 19 (by decide)]; exact a4, by rw [i 27 (by decide)]; exact a5⟩, fun q hq => ((c1 q hq).fr hf ⟨nX 14 (by decide), nX 15 (by decide), nX 17 (by decide), nX 18 (by decide)⟩).base hf hT, d1, ⟨by rw [i 23 (by decide)]; exact e1, by rw [i 23 (by decide)]; exact e1'⟩, e2, q1, ⟨by omega, r2, by omega⟩, fun z => ⟨(o1 z).1, (o1 z).2.1, fun q hq => ((o1 z).2.2 q hq).base hf hT⟩⟩
theorem PN.same {T : Nat} {X Y Z : List Nat} {g g' gt gp gp' gc gc' : Gs} {j j' th be ca f A M : Nat} {E : Nat → Nat × Nat × Nat} {FA : Nat → Nat} (h : PN T g gt gp gc j th be ca f A M E FA) (hf : Fr X g g') (hX : nTk X ∧ 28 ∉ X ∧ 29 ∉ X ∧ 30 ∉ X ∧ 31 ∉ X ∧ 32 ∉ X ∧ 37 ∉ X ∧ 48 ∉ X ∧ 53 ∉ X) (hp : Fr Y gp gp') (hY : 1 ∉ Y ∧ 2 ∉ Y ∧ 3 ∉ Y) (hc : Fr Z gc gc') (hZ : 11 ∉ Z ∧ 12 ∉ Z ∧ 15 ∉ Z ∧ 16 ∉ Z ∧ 14 ∉ Z) (hj : j ≤ j') : PN T g' gt gp' gc' j' th be ca f A M E FA := by
  obtain ⟨e1, e2, e3, e4, e5⟩ := tok_same hf hX.1
  have i : ∀ k, k ∉ X → gIA g' k = gIA g k := fun k hk => (hf k hk).2.2.2.1
  have q : PN T g' gt gp' gc' j th be ca f A M E FA := by
    unfold PN NU NT Nd Inc rtk nt at *
    rw [e1, e2, e3, i 28 hX.2.1, i 29 hX.2.2.1, i 30 hX.2.2.2.1, i 31 hX.2.2.2.2.1, i 32 hX.2.2.2.2.2.1, i 37 hX.2.2.2.2.2.2.1, i 48 hX.2.2.2.2.2.2.2.1, i 53 hX.2.2.2.2.2.2.2.2, (hp 1 hY.1).2.2.2.1, (hp 2 hY.2.1).2.2.2.1, (hp 3 hY.2.2).2.2.2.1, (hc 11 hZ.1).2.2.2.1, (hc 12 hZ.2.1).2.2.2.1, (hc 15 hZ.2.2.1).2.2.2.1, (hc 16 hZ.2.2.2.1).2.2.2.1, (hc 14 hZ.2.2.2.2).2.2.2.1]
    exact h
  obtain ⟨q1, q2, q3, q4⟩ := q
  exact ⟨q1, q2, fun m hm => ⟨(q3 m hm).1, by have := (q3 m hm).2.1; omega, (q3 m hm).2.2⟩, q4⟩
