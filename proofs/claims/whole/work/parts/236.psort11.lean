/-! sorts: things and bells in the order of the text -/
theorem PI.thing {g gp gc : Gs} {th be f M : Nat} {FA tn fn rkk : Nat → Nat} (h : PI g gp gc th be f FA M tn fn rkk) {i : Nat} (hi : i < th) : ∀ d k, k + d = th + be → tn k ≤ i → ∃ k', k ≤ k' ∧ k' < th + be ∧ tn k' = i ∧ tn (k' + 1) = i + 1 := by
  intro d
  induction d with
  | zero => intro k hk h1; have := h.1.2.1; rw [show k = th + be by omega] at h1; omega
  | succ d ih =>
    intro k hk h1
    have s := h.2.2.2.2 k (by omega)
    by_cases c : tn (k + 1) = tn k + 1 ∧ tn k = i
    · exact ⟨k, Nat.le_refl _, by omega, c.2, by omega⟩
    · have : tn (k + 1) ≤ i := by rcases s with s | s <;> omega
      obtain ⟨k', a1, a2⟩ := ih (k + 1) (by omega) this
      exact ⟨k', by omega, a2⟩
theorem PI.bell {g gp gc : Gs} {th be f M : Nat} {FA tn fn rkk : Nat → Nat} (h : PI g gp gc th be f FA M tn fn rkk) {b : Nat} (hb : b < be) : ∀ d k, k + d = th + be → k - tn k ≤ b → ∃ k', k ≤ k' ∧ k' < th + be ∧ k' - tn k' = b ∧ tn (k' + 1) = tn k' := by
  intro d
  induction d with
  | zero => intro k hk h1; have := h.1.2.1; rw [show k = th + be by omega] at h1; omega
  | succ d ih =>
    intro k hk h1
    have s := h.2.2.2.2 k (by omega)
    have t := h.2.1 k (by omega)
    by_cases c : tn (k + 1) = tn k ∧ k - tn k = b
    · exact ⟨k, Nat.le_refl _, by omega, c.2, c.1⟩
    · have : k + 1 - tn (k + 1) ≤ b := by rcases s with s | s <;> omega
      obtain ⟨k', a1, a2⟩ := ih (k + 1) (by omega) this
      exact ⟨k', by omega, a2⟩
/-- the slots that a code's structure reads -/
def Sx (g gc g' gc' : Gs) : Prop := gIA gc' 0 = gIA gc 0 ∧ gIA gc' 1 = gIA gc 1 ∧ gIA gc' 5 = gIA gc 5 ∧ gLA gc' 6 = gLA gc 6 ∧ gDA gc' 7 = gDA gc 7 ∧ gIA g' 14 = gIA g 14 ∧ gIA g' 15 = gIA g 15 ∧ gIA g' 17 = gIA g 17 ∧ gLA g' 18 = gLA g 18
def Rq (g gc g' gc' : Gs) (q : Nat) : Prop := gIA g' 16 (2000 + q) = gIA g 16 (2000 + q) ∧ gIA gc' 2 q = gIA gc 2 q ∧ gIA gc' 3 q = gIA gc 3 q ∧ gIA gc' 4 q = gIA gc 4 q
theorem Sx.of {g gc g' gc' : Gs} {X Y : List Nat} (h1 : Fr X g g') (h2 : Fr Y gc gc') (hX : 14 ∉ X ∧ 15 ∉ X ∧ 17 ∉ X ∧ 18 ∉ X) (hY : 0 ∉ Y ∧ 1 ∉ Y ∧ 5 ∉ Y ∧ 6 ∉ Y ∧ 7 ∉ Y) : Sx g gc g' gc' :=
  ⟨(h2 0 hY.1).2.2.2.1, (h2 1 hY.2.1).2.2.2.1, (h2 5 hY.2.2.1).2.2.2.1, (h2 6 hY.2.2.2.1).2.2.2.2.1, (h2 7 hY.2.2.2.2).2.2.2.2.2.1, (h1 14 hX.1).2.2.2.1, (h1 15 hX.2.1).2.2.2.1, (h1 17 hX.2.2.1).2.2.2.1, (h1 18 hX.2.2.2).2.2.2.2.1⟩
theorem Ex.rows {g gc g' gc' : Gs} {srt : Nat → Nat} {many cams : Nat} (hx : Sx g gc g' gc') : ∀ {m j j' t d : Nat}, Ex g gc 2000 srt many cams m j j' t d → (∀ i, j ≤ i → i < j' → Rq g gc g' gc' i) → Ex g' gc' 2000 srt many cams m j j' t d := by
  obtain ⟨e0, e1, e5, e6, e7, e14, e15, e17, e18⟩ := hx
  intro m
  induction m with
  | zero => intro j j' t d h; exact h.elim
  | succ m ih =>
    intro j j' t d h hP
    rcases h with ⟨h1, h2, h3⟩ | ⟨i, s, h1, h2, h3, h4⟩ | ⟨i, k, l, r, d1, d2, h1, h2, h3, h4, h5, h6⟩ | ⟨o, i, k, d1, d2, h1, h2, h3, h4, h5, h6, h7⟩ | ⟨i, p, k, a, b, d1, d2, d3, h1, h2, h3, h4, h5, h6, h7, h8, h9⟩
    · refine .inl ⟨h1, h2, ?_⟩
      unfold Ps at *
      rw [e0, e5, e6, e7, e14, e15, e18]; exact h3
    · have := h2.lt.1
      obtain ⟨x1, x2, x3, x4⟩ := hP i (by omega) (by omega)
      refine .inr (.inl ⟨i, s, h1, ih h2 (fun q q1 q2 => hP q q1 (by omega)), ?_, by rw [e1, e17]; exact h4⟩)
      unfold Un at *
      rw [e0, e5, e14, e15, x1, x2, x3]; exact h3
    · have := h3.lt.1; have := h4.lt.1
      obtain ⟨x1, x2, x3, x4⟩ := hP k (by omega) (by omega)
      refine .inr (.inr (.inl ⟨i, k, l, r, d1, d2, h1, h2, ih h3 (fun q q1 q2 => hP q q1 (by omega)), ih h4 (fun q q1 q2 => hP q (by omega) (by omega)), ?_, by rw [e1, e17]; exact h6⟩))
      unfold Bi at *
      rw [e0, e14, e15, x1, x2, x3, x4]; exact h5
    · have := h4.lt.1; have := h6.lt.1
      exact .inr (.inr (.inr (.inl ⟨o, i, k, d1, d2, h1, h2, h3, ih h4 (fun q q1 q2 => hP q q1 (by omega)), by rw [e0, e14, e5, e15]; exact h5, ih h6 (fun q q1 q2 => hP q (by omega) (by omega)), by rw [e0, e14]; exact h7⟩)))
    · have := h3.lt.1; have := h5.lt.1; have := h7.lt.1
      obtain ⟨x1, x2, x3, x4⟩ := hP p (by omega) (by omega)
      obtain ⟨y1, y2, y3, y4⟩ := hP k (by omega) (by omega)
      exact .inr (.inr (.inr (.inr ⟨i, p, k, a, b, d1, d2, d3, h1, h2, ih h3 (fun q q1 q2 => hP q q1 (by omega)), by rw [e0, e14, e5, e15]; exact h4, ih h5 (fun q q1 q2 => hP q (by omega) (by omega)), by rw [e0, e14, e5, e15, x1, x2, x3]; exact h6, ih h7 (fun q q1 q2 => hP q (by omega) (by omega)), by rw [e0, e14, y1, y2, y4]; exact h8, h9⟩)))
theorem Sd.rows {g gc g' gc' gp : Gs} {many cams i : Nat} {q : Nat × Nat × Nat} (h : Sd g gc gp many cams i q) (hx : Sx g gc g' gc') (hr : Rq g gc g' gc' i) : Sd g' gc' gp many cams i q := by
  obtain ⟨e0, e1, e5, e6, e7, e14, e15, e17, e18⟩ := hx
  unfold Sd at *
  rw [e0, e14, e1, e17, e15, hr.2.1, e5, e18, e6, e7]
  exact h
/-- what the sorts of a plan change: from entry a, formula F, thing i on -/
def Cg (a F i : Nat) (g gT gc g' gT' gc' : Gs) : Prop := Fr [16, 46, 47, 57, 58, 59] g g' ∧ Fr [0, 1] gT gT' ∧ Fr [2, 3, 4, 17] gc gc' ∧ (∀ q, q < 2000 → gIA g' 16 q = gIA g 16 q) ∧ (∀ q, q < a → Rq g gc g' gc' q) ∧ (∀ x, x < F → gIA gc' 17 x = gIA gc 17 x) ∧ ∀ x, x < i → gIA g' 46 x = gIA g 46 x ∧ gIA g' 47 x = gIA g 47 x
theorem Cg.trans {a F i a' F' i' : Nat} {g gT gc g' gT' gc' g'' gT'' gc'' : Gs} (h : Cg a F i g gT gc g' gT' gc') (h' : Cg a' F' i' g' gT' gc' g'' gT'' gc'') (ha : a ≤ a') (hF : F ≤ F') (hi : i ≤ i') : Cg a F i g gT gc g'' gT'' gc'' := by
  obtain ⟨a1, a2, a3, a4, a5, a6, a7⟩ := h
  obtain ⟨b1, b2, b3, b4, b5, b6, b7⟩ := h'
  refine ⟨a1.trans b1, a2.trans b2, a3.trans b3, fun q hq => (b4 q hq).trans (a4 q hq), fun q hq => ?_, fun x hx => (b6 x (by omega)).trans (a6 x hx), fun x hx => ⟨(b7 x (by omega)).1.trans (a7 x hx).1, (b7 x (by omega)).2.trans (a7 x hx).2⟩⟩
  obtain ⟨x1, x2, x3, x4⟩ := a5 q hq
  obtain ⟨y1, y2, y3, y4⟩ := b5 q (by omega)
  exact ⟨y1.trans x1, y2.trans x2, y3.trans x3, y4.trans x4⟩
theorem Cg.of {a z F i : Nat} {g gT gc g' gT' gc' : Gs} (h : Cf (fun q => a ≤ q ∧ q < z) F g gT gc g' gT' gc') : Cg a F i g gT gc g' gT' gc' :=
  ⟨h.1.mono (by decide), h.2.1, h.2.2.1, h.2.2.2.1, fun q hq => h.2.2.2.2.1 q (by omega), fun x hx => h.2.2.2.2.2 x (by omega), fun x _ => ⟨by rw [(h.1 46 (by decide)).2.2.2.1], by rw [(h.1 47 (by decide)).2.2.2.1]⟩⟩
/-- formula F is settled -/
def Wt (gp gc : Gs) (F w : Nat) : Prop := (∃ i, i < 40 ∧ gIA gc 13 F = nI i ∧ gIA gp 7 i = nI w) ∨ (w = 0 ∧ ∃ b, b < 12 ∧ gIA gc 13 F = nI (40 + b))
def FS (g gp gc : Gs) (srt : Nat → Nat) (many cams F a z : Nat) : Prop := ∃ t d m w, t ≤ 7 ∧ w ≤ 7 ∧ d ≤ 400 ∧ gIA gc 17 F = nI t ∧ f_X12_comes (nI t) (nI w) = some 1 ∧ Wt gp gc F w ∧ Ex g gc 2000 srt many cams m a z t d
theorem FS.keep {g gT gp gc g' gT' gc' : Gs} {srt : Nat → Nat} {many cams F a z a' F' i' : Nat} (h : FS g gp gc srt many cams F a z) (hc : Cg a' F' i' g gT gc g' gT' gc') (hF : F < F') (hz : z ≤ a') : FS g' gp gc' srt many cams F a z := by
  obtain ⟨t, d, m, w, h1, h2, h3, h4, h5, h6, h7⟩ := h
  refine ⟨t, d, m, w, h1, h2, h3, (hc.2.2.2.2.2.1 F hF).trans h4, h5, ?_, h7.rows (Sx.of hc.1 hc.2.2.1 (by decide) (by decide)) (fun i _ i2 => hc.2.2.2.2.1 i (by omega))⟩
  unfold Wt at *
  rw [(hc.2.2.1 13 (by decide)).2.2.2.1]; exact h6
