/-! the plan that turns, while the entries beyond it change -/
def Eq5 (g g' : Gs) (K : Nat) : Prop := gIA g' 14 K = gIA g 14 K ∧ gIA g' 15 K = gIA g 15 K ∧ gIA g' 16 K = gIA g 16 K ∧ gIA g' 17 K = gIA g 17 K ∧ gLA g' 18 K = gLA g 18 K
theorem Ps.pt {g g' gc : Gs} {srt : Nat → Nat} {many K j t : Nat} (h : Ps g gc srt many K j t) (hc : Eq5 g g' K) : Ps g' gc srt many K j t := by
  obtain ⟨e14, e15, _, _, e18⟩ := hc
  unfold Ps at *
  rw [e14, e15, e18]; exact h
theorem Un.pt {g g' gc : Gs} {cams K j s t : Nat} (h : Un g gc cams K j s t) (hc : Eq5 g g' K) : Un g' gc cams K j s t := by
  obtain ⟨e14, e15, e16, _, _⟩ := hc
  unfold Un at *
  rw [e14, e15, e16]; exact h
theorem Bi.pt {g g' gc : Gs} {K j l r t : Nat} (h : Bi g gc K j l r t) (hc : Eq5 g g' K) : Bi g' gc K j l r t := by
  obtain ⟨e14, e15, e16, _, _⟩ := hc
  unfold Bi at *
  rw [e14, e15, e16]; exact h
theorem Ex.pt {g g' gc : Gs} {off : Nat} {srt : Nat → Nat} {many cams : Nat} : ∀ {m j j' t d : Nat}, Ex g gc off srt many cams m j j' t d → (∀ i, j ≤ i → i < j' → Eq5 g g' (off + i)) → Ex g' gc off srt many cams m j j' t d := by
  intro m
  induction m with
  | zero => intro j j' t d h; exact h.elim
  | succ m ih =>
    intro j j' t d h hP
    rcases h with ⟨h1, h2, h3⟩ | ⟨i, s, h1, h2, h3, h4⟩ | ⟨i, k, l, r, d1, d2, h1, h2, h3, h4, h5, h6⟩ | ⟨o, i, k, d1, d2, h1, h2, h3, h4, h5, h6, h7⟩ | ⟨i, p, k, a, b, d1, d2, d3, h1, h2, h3, h4, h5, h6, h7, h8, h9⟩
    · exact .inl ⟨h1, h2, h3.pt (hP j (by omega) (by omega))⟩
    · have := h2.lt.1
      have c := hP i (by omega) (by omega)
      exact .inr (.inl ⟨i, s, h1, ih h2 (fun q q1 q2 => hP q q1 (by omega)), h3.pt c, by rw [c.2.2.2.1]; exact h4⟩)
    · have := h3.lt.1; have := h4.lt.1
      have c := hP k (by omega) (by omega)
      exact .inr (.inr (.inl ⟨i, k, l, r, d1, d2, h1, h2, ih h3 (fun q q1 q2 => hP q q1 (by omega)), ih h4 (fun q q1 q2 => hP q (by omega) (by omega)), h5.pt c, by rw [c.2.2.2.1]; exact h6⟩))
    · have := h4.lt.1; have := h6.lt.1
      have c := hP i (by omega) (by omega)
      have ck := hP k (by omega) (by omega)
      obtain ⟨x1, x2, x3, x4⟩ := h5
      exact .inr (.inr (.inr (.inl ⟨o, i, k, d1, d2, h1, h2, h3, ih h4 (fun q q1 q2 => hP q q1 (by omega)), ⟨x1, by rw [c.1]; exact x2, x3, by rw [c.2.1]; exact x4⟩, ih h6 (fun q q1 q2 => hP q (by omega) (by omega)), ⟨h7.1, by rw [ck.1]; exact h7.2⟩⟩)))
    · have := h3.lt.1; have := h5.lt.1; have := h7.lt.1
      have c := hP i (by omega) (by omega)
      have cp := hP p (by omega) (by omega)
      have ck := hP k (by omega) (by omega)
      obtain ⟨x1, x2, x3, x4⟩ := h4
      obtain ⟨y1, y2, y3, y4, y5, y6, y7⟩ := h6
      obtain ⟨z1, z2, z3, z4, z5⟩ := h8
      exact .inr (.inr (.inr (.inr ⟨i, p, k, a, b, d1, d2, d3, h1, h2, ih h3 (fun q q1 q2 => hP q q1 (by omega)), ⟨x1, by rw [c.1]; exact x2, x3, by rw [c.2.1]; exact x4⟩, ih h5 (fun q q1 q2 => hP q (by omega) (by omega)), ⟨y1, by rw [cp.1]; exact y2, y3, by rw [cp.2.1]; exact y4, y5, y6, by rw [cp.2.2.1]; exact y7⟩, ih h7 (fun q q1 q2 => hP q (by omega) (by omega)), ⟨z1, by rw [ck.1]; exact z2, z3, z4, by rw [ck.2.2.1]; exact z5⟩, h9⟩)))
theorem Fo.low {g g' gc : Gs} {srt : Nat → Nat} {many cams F j j' t : Nat} (h : Fo g gc srt many cams F j j' t) (hl : Lw g g') : Fo g' gc srt many cams F j j' t := by
  obtain ⟨h1, h2, h3, h4, h5, m, d, h6, h7⟩ := h
  exact ⟨h1, h2, h3, h4, h5, m, d, h6.pt (fun i _ h2 => by rw [Nat.zero_add]; exact hl i (by omega)), h7⟩
theorem PlR.low {g g' gp gc : Gs} {srt : Nat → Nat} {many bells cams : Nat} {A : List Nat} (h : PlR g gp gc srt many bells cams) (hf : Fr A g g') (hl : Lw g g') (hA : ∀ k, k ∈ [60, 61, 67, 68, 69, 70, 71, 72, 73, 74, 75, 76, 77, 78, 79] → k ∉ A) : PlR g' gp gc srt many bells cams := by
  have i : ∀ k, k ∈ [60, 61, 67, 68, 69, 70, 71, 72, 73, 74, 75, 76, 77, 78, 79] → gIA g' k = gIA g k := fun k hk => (hf k (hA k hk)).2.2.2.1
  obtain ⟨x1, x2, x3, x4, x5, x6, x7, x8, x9, x10, x11⟩ := h
  refine ⟨x1, x2, by rw [(hf 60 (hA 60 (by decide))).1]; exact x3, x4, by rw [(hf 61 (hA 61 (by decide))).1]; exact x5, x6, by rw [(hf 77 (hA 77 (by decide))).1]; exact x7, by rw [i 76 (by decide)]; exact x8, fun a ha => ?_, fun b hb => ?_, x11.fr hf (hA 78 (by decide)) (hA 79 (by decide))⟩
  · obtain ⟨y1, y2, ⟨F, j, j', t, z1, z2, z3, z4, z5, z6⟩, ⟨F', k, k', t', w1, w2, w3, w4, w5, w6⟩⟩ := x9 a ha
    rw [i 67 (by decide), i 68 (by decide), i 69 (by decide), i 70 (by decide), i 71 (by decide), i 72 (by decide), i 73 (by decide)]
    exact ⟨y1, y2, ⟨F, j, j', t, z1, z2, z3, z4, z5.low hl, z6⟩, ⟨F', k, k', t', w1, w2, w3, w4, w5.low hl, w6⟩⟩
  · obtain ⟨F, j, j', y1, y2, y3, y4⟩ := x10 b hb
    rw [i 74 (by decide), i 75 (by decide)]
    exact ⟨F, j, j', y1, y2, y3, y4.low hl⟩
theorem NmR.fr {g g' gp : Gs} {many bells cams : Nat} {A : List Nat} (h : NmR g gp many bells cams) (hf : Fr A g g') (hA : ∀ k, k ∈ [62, 65, 66, 68] → k ∉ A) : NmR g' gp many bells cams := by
  unfold NmR at *
  rw [(hf 65 (hA 65 (by decide))).2.2.2.1, (hf 66 (hA 66 (by decide))).2.2.2.1, (hf 68 (hA 68 (by decide))).2.2.2.1, (hf 62 (hA 62 (by decide))).1]
  exact h
theorem Dyn.fr {g g' gs : Gs} {srt : Nat → Nat} {many : Nat} {A : List Nat} (h : Dyn g gs srt many) (hf : Fr A g g') (hA : ∀ k, k ∈ [80, 81, 87, 91] → k ∉ A) : Dyn g' gs srt many := by
  unfold Dyn at *
  rw [(hf 87 (hA 87 (by decide))).2.1, (hf 91 (hA 91 (by decide))).2.1, (hf 80 (hA 80 (by decide))).2.2.2.2.1, (hf 81 (hA 81 (by decide))).2.2.2.2.1]
  exact h
