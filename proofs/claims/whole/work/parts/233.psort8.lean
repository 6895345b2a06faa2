/-! sorts: a part's code is settled alike -/
theorem Ch.same {P : Nat → Prop} {g gT gc g' gT' gc' : Gs} (h : Ch P g gT gc g' gT' gc') : gIA gc' 0 = gIA gc 0 ∧ gIA gc' 1 = gIA gc 1 ∧ gIA gc' 5 = gIA gc 5 ∧ gLA gc' 6 = gLA gc 6 ∧ gDA gc' 7 = gDA gc 7 ∧ gIA g' 14 = gIA g 14 ∧ gIA g' 15 = gIA g 15 ∧ gIA g' 17 = gIA g 17 ∧ gLA g' 18 = gLA g 18 ∧ gIA gc' 12 = gIA gc 12 := by
  obtain ⟨a1, a2, a3, a4, a5⟩ := h
  exact ⟨(a3 0 (by decide)).2.2.2.1, (a3 1 (by decide)).2.2.2.1, (a3 5 (by decide)).2.2.2.1, (a3 6 (by decide)).2.2.2.2.1, (a3 7 (by decide)).2.2.2.2.2.1, (a1 14 (by decide)).2.2.2.1, (a1 15 (by decide)).2.2.2.1, (a1 17 (by decide)).2.2.2.1, (a1 18 (by decide)).2.2.2.2.1, (a3 12 (by decide)).2.2.2.1⟩
theorem Ps.ch {P : Nat → Prop} {g gT gc g' gT' gc' : Gs} {srt : Nat → Nat} {many K j t : Nat} (h : Ps g gc srt many K j t) (hc : Ch P g gT gc g' gT' gc') : Ps g' gc' srt many K j t := by
  obtain ⟨e0, e1, e5, e6, e7, e14, e15, e17, e18, _⟩ := hc.same
  unfold Ps at *
  rw [e0, e5, e6, e7, e14, e15, e18]
  exact h
theorem Un.ch {P : Nat → Prop} {g gT gc g' gT' gc' : Gs} {cams j s t : Nat} (h : Un g gc cams (2000 + j) j s t) (hc : Ch P g gT gc g' gT' gc') (hj : ¬ P j) : Un g' gc' cams (2000 + j) j s t := by
  obtain ⟨e0, e1, e5, e6, e7, e14, e15, e17, e18, _⟩ := hc.same
  obtain ⟨x1, x2, x3, x4⟩ := hc.2.2.2.2 j hj
  unfold Un at *
  rw [e0, e5, e14, e15, x1, x2, x3]
  exact h
theorem Bi.ch {P : Nat → Prop} {g gT gc g' gT' gc' : Gs} {j l r t : Nat} (h : Bi g gc (2000 + j) j l r t) (hc : Ch P g gT gc g' gT' gc') (hj : ¬ P j) : Bi g' gc' (2000 + j) j l r t := by
  obtain ⟨e0, e1, e5, e6, e7, e14, e15, e17, e18, _⟩ := hc.same
  obtain ⟨x1, x2, x3, x4⟩ := hc.2.2.2.2 j hj
  unfold Bi at *
  rw [e0, e14, e15, x1, x2, x3, x4]
  exact h
theorem Ex.ch {P : Nat → Prop} {g gT gc g' gT' gc' : Gs} {srt : Nat → Nat} {many cams : Nat} (hc : Ch P g gT gc g' gT' gc') : ∀ {m j j' t d : Nat}, Ex g gc 2000 srt many cams m j j' t d → (∀ i, j ≤ i → i < j' → ¬ P i) → Ex g' gc' 2000 srt many cams m j j' t d := by
  obtain ⟨e0, e1, e5, e6, e7, e14, e15, e17, e18, _⟩ := hc.same
  intro m
  induction m with
  | zero => intro j j' t d h; exact h.elim
  | succ m ih =>
    intro j j' t d h hP
    rcases h with ⟨h1, h2, h3⟩ | ⟨i, s, h1, h2, h3, h4⟩ | ⟨i, k, l, r, d1, d2, h1, h2, h3, h4, h5, h6⟩ | ⟨o, i, k, d1, d2, h1, h2, h3, h4, h5, h6, h7⟩ | ⟨i, p, k, a, b, d1, d2, d3, h1, h2, h3, h4, h5, h6, h7, h8, h9⟩
    · exact .inl ⟨h1, h2, h3.ch hc⟩
    · have := h2.lt.1
      exact .inr (.inl ⟨i, s, h1, ih h2 (fun q q1 q2 => hP q q1 (by omega)), h3.ch hc (hP i (by omega) (by omega)), by rw [e1, e17]; exact h4⟩)
    · have := h3.lt.1; have := h4.lt.1
      exact .inr (.inr (.inl ⟨i, k, l, r, d1, d2, h1, h2, ih h3 (fun q q1 q2 => hP q q1 (by omega)), ih h4 (fun q q1 q2 => hP q (by omega) (by omega)), h5.ch hc (hP k (by omega) (by omega)), by rw [e1, e17]; exact h6⟩))
    · have := h4.lt.1; have := h6.lt.1
      exact .inr (.inr (.inr (.inl ⟨o, i, k, d1, d2, h1, h2, h3, ih h4 (fun q q1 q2 => hP q q1 (by omega)), by rw [e0, e14, e5, e15]; exact h5, ih h6 (fun q q1 q2 => hP q (by omega) (by omega)), by rw [e0, e14]; exact h7⟩)))
    · have := h3.lt.1; have := h5.lt.1; have := h7.lt.1
      obtain ⟨x1, x2, x3, x4⟩ := hc.2.2.2.2 p (hP p (by omega) (by omega))
      obtain ⟨y1, y2, y3, y4⟩ := hc.2.2.2.2 k (hP k (by omega) (by omega))
      exact .inr (.inr (.inr (.inr ⟨i, p, k, a, b, d1, d2, d3, h1, h2, ih h3 (fun q q1 q2 => hP q q1 (by omega)), by rw [e0, e14, e5, e15]; exact h4, ih h5 (fun q q1 q2 => hP q (by omega) (by omega)), by rw [e0, e14, e5, e15, x1, x2, x3]; exact h6, ih h7 (fun q q1 q2 => hP q (by omega) (by omega)), by rw [e0, e14, y1, y2, y4]; exact h8, h9⟩)))
/-- both loops at entry i -/
def JS (n F last : Nat) (gp : Gs) (fr fm : Nat) (g gT gc : Gs) (i : Nat) : Option (Int32 × Gs) × Option (Int32 × Gs × Gs) := (L_X12_judged n fr g (nI (2000 + last)) (nI (2000 + i)), (L_X8_firstFault n fm).2 gT gp gc (nI F) (nI i))
def SoN (n F last : Nat) (gp : Gs) (fr fm : Nat) (g gT gc : Gs) (j j' : Nat) : Prop := ∃ i g' gT' gc', j ≤ i ∧ i < j' ∧ JS n F last gp fr fm g gT gc j = (some (-1, g'), some (gIA gc 1 i, gT', gc')) ∧ gI g' 21 = 4 ∧ gI g' 22 = gIA g 17 (2000 + i) ∧ Fr [16, 21, 22, 57, 58] g g' ∧ (∀ q, q < 2000 → gIA g' 16 q = gIA g 16 q) ∧ Fr [0, 1] gT gT' ∧ Fr [2, 3, 4] gc gc'
theorem js_eq {n F last fr fm i : Nat} {gp g gT gc : Gs} (hF : F < 92) (h12 : f_X0_endOf gc (nI F) = some (nI last)) (hi : i < last) (hl : last ≤ 840) : JS n F last gp (fr + 1) (fm + 1) g gT gc i = (bnd (f_X12_sorted g (nI (2000 + i))) (fun q_2 => if q_2.1 = 0 then (some ((-1 : Int32), q_2.2)) else (L_X12_judged n fr q_2.2 (nI (2000 + last)) (nI (2000 + (i + 1))))), bnd (f_X8_settle gT gp gc (nI i)) (fun q_10 => if q_10.1 = 0 then (some (gIA q_10.2.2 1 i, q_10.2.1, q_10.2.2)) else ((L_X8_firstFault n fm).2 q_10.2.1 gp q_10.2.2 (nI F) (nI (i + 1))))) := by
  unfold JS
  congr 1
  · show h_X12_judged_7 n (L_X12_judged n fr) g (nI (2000 + last)) (nI (2000 + i)) = _
    unfold h_X12_judged_7
    rw [if_neg (nI_ge (a := 2000 + i) (b := 2000 + last) (by omega) (by omega)), nI_1]
    rfl
  · show h_X8_firstFault_22 n (L_X8_firstFault n fm) gT gp gc (nI F) (nI i) = _
    unfold h_X8_firstFault_22
    rw [bnd_s h12, if_neg (nI_ge (a := i) (b := last) hi (by omega)), nI_1, nI_clamp (show i < 2 ^ 31 by omega)]
    simp only [grd_t (inB_nI (show i < 840 by omega) (by decide))]
theorem js_no {n F last fr fm i : Nat} {gp g gT gc : Gs} (hF : F < 92) (h12 : f_X0_endOf gc (nI F) = some (nI last)) (hi : i < last) (hl : last ≤ 840) (h : SoF g gT gc i (f_X12_sorted g (nI (2000 + i))) (f_X8_settle gT gp gc (nI i))) : SoN n F last gp (fr + 1) (fm + 1) g gT gc i (i + 1) := by
  obtain ⟨g', gT', gc', h1, h2, h3, h4, h5, h6, h7, h8⟩ := h
  refine ⟨i, g', gT', gc', Nat.le_refl _, by omega, ?_, h3, h4, h5, h6, h7, h8⟩
  rw [js_eq hF h12 hi hl, bnd_s h1, bnd_s h2, if_pos rfl, if_pos rfl, (h8 1 (by decide)).2.2.2.1]
theorem js_go {n F last fr fm i : Nat} {gp g gT gc g' gT' gc' : Gs} (hF : F < 92) (h12 : f_X0_endOf gc (nI F) = some (nI last)) (hi : i < last) (hl : last ≤ 840) (h1 : f_X12_sorted g (nI (2000 + i)) = some (1, g')) (h2 : f_X8_settle gT gp gc (nI i) = some (1, gT', gc')) : JS n F last gp (fr + 1) (fm + 1) g gT gc i = JS n F last gp fr fm g' gT' gc' (i + 1) := by
  rw [js_eq hF h12 hi hl, bnd_s h1, bnd_s h2]
  rfl
theorem SoN.after {n F last fr fm fr' fm' j i i' j' : Nat} {gp g gT gc g' gT' gc' : Gs} {P : Nat → Prop} (h : SoN n F last gp fr' fm' g' gT' gc' i i') (hc : Ch P g gT gc g' gT' gc') (he : JS n F last gp fr fm g gT gc j = JS n F last gp fr' fm' g' gT' gc' i) (h1 : j ≤ i) (h2 : i' ≤ j') : SoN n F last gp fr fm g gT gc j j' := by
  obtain ⟨q, gA, gB, gC, a1, a2, a3, a4, a5, a6, a7, a8, a9⟩ := h
  obtain ⟨e0, e1, e5, e6, e7, e14, e15, e17, e18, _⟩ := hc.same
  refine ⟨q, gA, gB, gC, by omega, by omega, ?_, a4, by rw [a5, e17], (hc.1.mono (by decide)).trans a6, fun x hx => (a7 x hx).trans (hc.2.2.2.1 x hx), hc.2.1.trans a8, hc.2.2.1.trans a9⟩
  rw [he, a3, e1]
theorem SoN.wide {n F last fr fm j j' j2 : Nat} {gp g gT gc : Gs} (h : SoN n F last gp fr fm g gT gc j j') (h2 : j' ≤ j2) : SoN n F last gp fr fm g gT gc j j2 := by
  obtain ⟨q, gA, gB, gC, a1, a2, a3⟩ := h
  exact ⟨q, gA, gB, gC, a1, by omega, a3⟩
