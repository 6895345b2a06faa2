/-! settling: the code is copied to the front -/
theorem nI_plus (a b : Nat) : nI a + nI b = nI (a + b) := (Int32.ofNat_add a b).symm
/-- entry i of the plan that turns is entry 2000 + i of the one read -/
def Cp (g g' : Gs) (i : Nat) : Prop := gIA g' 14 i = gIA g 14 (2000 + i) ∧ gIA g' 15 i = (if gIA g 14 (2000 + i) = 13 ∨ gIA g 14 (2000 + i) = 15 ∨ gIA g 14 (2000 + i) = 17 ∨ gIA g 14 (2000 + i) = 18 then gIA g 15 (2000 + i) - 2000 else gIA g 15 (2000 + i)) ∧ gIA g' 16 i = gIA g 16 (2000 + i) ∧ gIA g' 17 i = gIA g 17 (2000 + i) ∧ gLA g' 18 i = gLA g 18 (2000 + i)
theorem Cp.jump {g g' : Gs} {i k c : Nat} (h : Cp g g' i) (hc : c = 13 ∨ c = 15 ∨ c = 17 ∨ c = 18) (h14 : gIA g 14 (2000 + i) = nI c) (h15 : gIA g 15 (2000 + i) = nI (2000 + k + 1)) : gIA g' 15 i = nI (0 + k + 1) := by
  rw [h.2.1, h14, if_pos (by rcases hc with rfl | rfl | rfl | rfl <;> decide), h15, show (2000 : Int32) = nI 2000 from rfl, nI_sub (by omega), show 2000 + k + 1 - 2000 = 0 + k + 1 by omega]
theorem Cp.plain {g g' : Gs} {i : Nat} {c : Int32} (h : Cp g g' i) (h14 : gIA g 14 (2000 + i) = c) (hc : ¬ (c = 13 ∨ c = 15 ∨ c = 17 ∨ c = 18)) : gIA g' 15 i = gIA g 15 (2000 + i) := by
  rw [h.2.1, h14, if_neg hc]
theorem Ps.copy {g g' gc : Gs} {srt : Nat → Nat} {many j t : Nat} (h : Ps g gc srt many (2000 + j) j t) (hc : Cp g g' j) : Ps g' gc srt many (0 + j) j t := by
  rw [Nat.zero_add]
  have e18 := hc.2.2.2.2
  have e14 := hc.1
  rcases h with ⟨a1, a2, a3⟩ | ⟨a1, a2, a3⟩ | ⟨a1, a2, a3⟩ | ⟨a1, a2, a, a3, a4, a5, a6⟩ | ⟨a1, a2, a, a3, a4, a5, a6⟩
  · exact .inl ⟨a1, e14.trans a2, by rw [e18]; exact a3⟩
  · exact .inr (.inl ⟨a1, e14.trans a2, a3⟩)
  · exact .inr (.inr (.inl ⟨a1, e14.trans a2, a3⟩))
  · exact .inr (.inr (.inr (.inl ⟨a1, e14.trans a2, a, a3, a4, (hc.plain a2 (by decide)).trans a5, a6⟩)))
  · exact .inr (.inr (.inr (.inr ⟨a1, e14.trans a2, a, a3, a4, (hc.plain a2 (by decide)).trans a5, a6⟩)))
theorem Un.copy {g g' gc : Gs} {cams j s t : Nat} (h : Un g gc cams (2000 + j) j s t) (hc : Cp g g' j) : Un g' gc cams (0 + j) j s t := by
  rw [Nat.zero_add]
  have e16 := hc.2.2.1
  have e14 := hc.1
  obtain ⟨h0, h⟩ := h
  refine ⟨h0, ?_⟩
  rcases h with ⟨a1, a2, a3, a4, a, a5, a6, a7⟩ | ⟨a1, a2, a3, a4, a5, a6, a7⟩ | ⟨a1, a2, a3⟩ | ⟨a1, a2, a3, a4, a5, a6, a7⟩ | ⟨w, a1, a2, a3, a4, a5, a6, a7, a8⟩
  · exact .inl ⟨a1, e14.trans a2, a3, a4, a, a5, a6, (hc.plain a2 (by decide)).trans a7⟩
  · exact .inr (.inl ⟨a1, e14.trans a2, a3, a4, e16.trans a5, a6, a7⟩)
  · exact .inr (.inr (.inl ⟨a1, e14.trans a2, a3⟩))
  · exact .inr (.inr (.inr (.inl ⟨a1, e14.trans a2, a3, a4, (hc.plain a2 (by decide)).trans a5, e16.trans a6, a7⟩)))
  · exact .inr (.inr (.inr (.inr ⟨w, a1, a2, e14.trans a3, (hc.plain a3 (by decide)).trans a4, a5, a6, e16.trans a7, a8⟩)))
theorem Bi.copy {g g' gc : Gs} {j l r t : Nat} (h : Bi g gc (2000 + j) j l r t) (hc : Cp g g' j) : Bi g' gc (0 + j) j l r t := by
  rw [Nat.zero_add]
  have e16 := hc.2.2.1
  have e14 := hc.1
  obtain ⟨h1, h2, h3, h4, h5, h⟩ := h
  refine ⟨e16.trans h1, h2, h3, h4, h5, ?_⟩
  have e15 : gIA g' 15 j = gIA g 15 (2000 + j) := by
    rcases h with ⟨_, _, a3, _⟩ | ⟨_, _, a3, _⟩ | ⟨_, _, a3, _⟩ | ⟨_, _, a3, _⟩ | ⟨_, _, a3, _⟩ <;> exact hc.plain a3 (by decide)
  rw [e14, e15]; exact h
theorem Ex.copy {g g' gc : Gs} {srt : Nat → Nat} {many cams : Nat} : ∀ {m j j' t d : Nat}, Ex g gc 2000 srt many cams m j j' t d → (∀ i, j ≤ i → i < j' → Cp g g' i) → Ex g' gc 0 srt many cams m j j' t d := by
  intro m
  induction m with
  | zero => intro j j' t d h; exact h.elim
  | succ m ih =>
    intro j j' t d h hP
    rcases h with ⟨h1, h2, h3⟩ | ⟨i, s, h1, h2, h3, h4⟩ | ⟨i, k, l, r, d1, d2, h1, h2, h3, h4, h5, h6⟩ | ⟨o, i, k, d1, d2, h1, h2, h3, h4, h5, h6, h7⟩ | ⟨i, p, k, a, b, d1, d2, d3, h1, h2, h3, h4, h5, h6, h7, h8, h9⟩
    · exact .inl ⟨h1, h2, h3.copy (hP j (by omega) (by omega))⟩
    · have := h2.lt.1
      have c := hP i (by omega) (by omega)
      exact .inr (.inl ⟨i, s, h1, ih h2 (fun q q1 q2 => hP q q1 (by omega)), h3.copy c, by rw [Nat.zero_add, c.2.2.2.1]; exact h4⟩)
    · have := h3.lt.1; have := h4.lt.1
      have c := hP k (by omega) (by omega)
      exact .inr (.inr (.inl ⟨i, k, l, r, d1, d2, h1, h2, ih h3 (fun q q1 q2 => hP q q1 (by omega)), ih h4 (fun q q1 q2 => hP q (by omega) (by omega)), h5.copy c, by rw [Nat.zero_add, c.2.2.2.1]; exact h6⟩))
    · have := h4.lt.1; have := h6.lt.1
      have c := hP i (by omega) (by omega)
      have ck := hP k (by omega) (by omega)
      obtain ⟨x1, x2, x3, x4⟩ := h5
      refine .inr (.inr (.inr (.inl ⟨o, i, k, d1, d2, h1, h2, h3, ih h4 (fun q q1 q2 => hP q q1 (by omega)), ⟨x1, by rw [Nat.zero_add, c.1]; exact x2, x3, ?_⟩, ih h6 (fun q q1 q2 => hP q (by omega) (by omega)), ⟨h7.1, by rw [Nat.zero_add, ck.1]; exact h7.2⟩⟩)))
      rw [Nat.zero_add i]
      refine c.jump (c := if o = true then 15 else 13) (by cases o <;> decide) (x2.trans (by cases o <;> rfl)) x4
    · have := h3.lt.1; have := h5.lt.1; have := h7.lt.1
      have c := hP i (by omega) (by omega)
      have cp := hP p (by omega) (by omega)
      have ck := hP k (by omega) (by omega)
      obtain ⟨x1, x2, x3, x4⟩ := h4
      obtain ⟨y1, y2, y3, y4, y5, y6, y7⟩ := h6
      obtain ⟨z1, z2, z3, z4, z5⟩ := h8
      exact .inr (.inr (.inr (.inr ⟨i, p, k, a, b, d1, d2, d3, h1, h2, ih h3 (fun q q1 q2 => hP q q1 (by omega)), ⟨x1, by rw [Nat.zero_add, c.1]; exact x2, x3, by rw [Nat.zero_add i]; exact c.jump (c := 17) (by decide) x2 x4⟩, ih h5 (fun q q1 q2 => hP q (by omega) (by omega)), ⟨y1, by rw [Nat.zero_add, cp.1]; exact y2, y3, by rw [Nat.zero_add p]; exact cp.jump (c := 18) (by decide) y2 y4, y5, y6, by rw [Nat.zero_add, cp.2.2.1]; exact y7⟩, ih h7 (fun q q1 q2 => hP q (by omega) (by omega)), ⟨z1, by rw [Nat.zero_add, ck.1]; exact z2, z3, z4, by rw [Nat.zero_add, ck.2.2.1]; exact z5⟩, h9⟩)))
/-- the loop that copies -/
theorem front_loop {n A : Nat} {g : Gs} (hA : A ≤ 840) : ∀ (d fr k : Nat) (gx : Gs), k + d = A → d < fr → Fr [14, 15, 16, 17, 18] g gx → (∀ q, 2000 ≤ q → gIA gx 14 q = gIA g 14 q ∧ gIA gx 15 q = gIA g 15 q ∧ gIA gx 16 q = gIA g 16 q ∧ gIA gx 17 q = gIA g 17 q ∧ gLA gx 18 q = gLA g 18 q) → (∀ i, i < k → Cp g gx i) → ∃ g', (L_X12_settle n fr).1 gx (nI A) (nI k) = (L_X12_settle n (fr - d - 1)).2.1 (sI (sI (sI (sI (sI (sI g' 60 (gI g 33)) 61 (gI g 34)) 62 (gI g 35)) 63 (gI g 24)) 64 (gI g 64 + 1)) 77 0) 0 0 ∧ Fr [14, 15, 16, 17, 18] g g' ∧ (∀ i, i < A → Cp g g' i) := by
  intro d
  induction d with
  | zero =>
    intro fr k gx h1 h2 h3 h4 h5
    obtain ⟨fr, rfl⟩ : ∃ x, fr = x + 1 := ⟨fr - 1, by omega⟩
    refine ⟨gx, ?_, h3, fun i hi => h5 i (by omega)⟩
    show h_X12_settle_11 n (L_X12_settle n fr) gx (nI A) (nI k) = _
    unfold h_X12_settle_11
    rw [if_pos (nI_le (show A ≤ k by omega) (by omega)), (h3 33 (by decide)).1, (h3 34 (by decide)).1, (h3 35 (by decide)).1, (h3 24 (by decide)).1, (h3 64 (by decide)).1]
    rfl
  | succ d ih =>
    intro fr k gx h1 h2 h3 h4 h5
    obtain ⟨fr, rfl⟩ : ∃ x, fr = x + 1 := ⟨fr - 1, by omega⟩
    have ef : fr + 1 - (d + 1) - 1 = fr - d - 1 := by omega
    rw [ef]
    have bK : inB (nI (2000 + k)) 8000 = true := inB_nI (by omega) (by decide)
    have cK : (nI (2000 + k)).toNatClampNeg = 2000 + k := nI_clamp (by omega)
    have bk : inB (nI k) 8000 = true := inB_nI (by omega) (by decide)
    have ck : (nI k).toNatClampNeg = k := nI_clamp (by omega)
    obtain ⟨e14, e15, e16, e17, e18⟩ := h4 (2000 + k) (by omega)
    have e : (L_X12_settle n (fr + 1)).1 gx (nI A) (nI k) = (L_X12_settle n fr).1 (sLA (sIA (sIA (sIA (sIA gx 14 (upd (gIA gx 14) k (gIA g 14 (2000 + k)))) 15 (upd (gIA gx 15) k (if gIA g 14 (2000 + k) = 13 ∨ gIA g 14 (2000 + k) = 15 ∨ gIA g 14 (2000 + k) = 17 ∨ gIA g 14 (2000 + k) = 18 then gIA g 15 (2000 + k) - 2000 else gIA g 15 (2000 + k)))) 16 (upd (gIA gx 16) k (gIA g 16 (2000 + k)))) 17 (upd (gIA gx 17) k (gIA g 17 (2000 + k)))) 18 (vp_updL (gLA gx 18) k (gLA g 18 (2000 + k)))) (nI A) (nI (k + 1)) := by
      show h_X12_settle_11 n (L_X12_settle n fr) gx (nI A) (nI k) = _
      have e114 : ∀ s0, b_X12_settle_114 n (L_X12_settle n fr) (sIA gx 14 (upd (gIA gx 14) k (gIA g 14 (2000 + k)))) (nI A) (nI k) (nI (2000 + k)) s0 (nI k) = (L_X12_settle n fr).1 (sLA (sIA (sIA (sIA (sIA gx 14 (upd (gIA gx 14) k (gIA g 14 (2000 + k)))) 15 (upd (gIA gx 15) k s0)) 16 (upd (gIA gx 16) k (gIA g 16 (2000 + k)))) 17 (upd (gIA gx 17) k (gIA g 17 (2000 + k)))) 18 (vp_updL (gLA gx 18) k (gLA g 18 (2000 + k)))) (nI A) (nI (k + 1)) := by
        intro s0
        unfold b_X12_settle_114
        simp only [grd_t bK, grd_t bk, cK, ck, nI_1]
        rw [← e16, ← e17, ← e18]; rfl
      have e71 : ∀ s0 : Int32, b_X12_settle_71 n (L_X12_settle n fr) gx (nI A) (nI k) (nI (2000 + k)) s0 = b_X12_settle_114 n (L_X12_settle n fr) (sIA gx 14 (upd (gIA gx 14) k (gIA g 14 (2000 + k)))) (nI A) (nI k) (nI (2000 + k)) (if s0 = 0 then gIA g 15 (2000 + k) else gIA g 15 (2000 + k) - 2000) (nI k) := by
        intro s0
        unfold b_X12_settle_71
        simp only [grd_t bK, grd_t bk, cK, ck]
        rw [← e14, ← e15]
        by_cases c : s0 = 0
        · rw [if_pos c, if_pos c]
        · rw [if_neg c, if_neg c]
      unfold h_X12_settle_11 b_X12_settle_66
      rw [if_neg (nI_ge (a := k) (b := A) (by omega) (by omega)), show (2000 : Int32) + nI k = nI (2000 + k) from nI_plus 2000 k]
      simp only [grd_t bK, cK, e14, e71, e114]
      rw [if_neg (show ¬ (1 : Int32) = 0 by decide)]
      by_cases c13 : gIA g 14 (2000 + k) = 13
      · rw [if_pos c13, if_pos (.inl c13)]
      · rw [if_neg c13]
        by_cases c15 : gIA g 14 (2000 + k) = 15
        · rw [if_pos c15, if_pos (.inr (.inl c15))]
        · rw [if_neg c15]
          by_cases c17 : gIA g 14 (2000 + k) = 17
          · rw [if_pos c17, if_pos (.inr (.inr (.inl c17)))]
          · rw [if_neg c17]
            by_cases c18 : gIA g 14 (2000 + k) = 18
            · rw [if_pos c18, if_pos (.inr (.inr (.inr c18)))]
            · have cn : ¬ (gIA g 14 (2000 + k) = 13 ∨ gIA g 14 (2000 + k) = 15 ∨ gIA g 14 (2000 + k) = 17 ∨ gIA g 14 (2000 + k) = 18) := fun z => z.elim c13 (fun z => z.elim c15 (fun z => z.elim c17 c18))
              rw [if_neg c18, if_neg cn, if_pos trivial]
    rw [e]
    refine ih fr (k + 1) _ (by omega) (by omega) ((((((h3.trans (Fr.sIA (by decide) _ _)).trans (Fr.sIA (by decide) _ _)).trans (Fr.sIA (by decide) _ _)).trans (Fr.sIA (by decide) _ _)).trans (Fr.sLA (by decide) _ _))) (fun q hq => ?_) (fun i hi => ?_)
    · obtain ⟨x1, x2, x3, x4, x5⟩ := h4 q hq
      refine ⟨?_, ?_, ?_, ?_, ?_⟩
      · show upd (gIA gx 14) k _ q = _; rw [pk_un (by omega)]; exact x1
      · show upd (gIA gx 15) k _ q = _; rw [pk_un (by omega)]; exact x2
      · show upd (gIA gx 16) k _ q = _; rw [pk_un (by omega)]; exact x3
      · show upd (gIA gx 17) k _ q = _; rw [pk_un (by omega)]; exact x4
      · show vp_updL (gLA gx 18) k _ q = _; exact (pk_uLn (by omega)).trans x5
    · by_cases c : i = k
      · rw [c]
        refine ⟨?_, ?_, ?_, ?_, ?_⟩
        · show upd (gIA gx 14) k _ k = _; rw [pk_us]
        · show upd (gIA gx 15) k _ k = _; rw [pk_us]
        · show upd (gIA gx 16) k _ k = _; rw [pk_us]
        · show upd (gIA gx 17) k _ k = _; rw [pk_us]
        · exact pk_uLs
      · obtain ⟨x1, x2, x3, x4, x5⟩ := h5 i (by omega)
        refine ⟨?_, ?_, ?_, ?_, ?_⟩
        · show upd (gIA gx 14) k _ i = _; rw [pk_un c]; exact x1
        · show upd (gIA gx 15) k _ i = _; rw [pk_un c]; exact x2
        · show upd (gIA gx 16) k _ i = _; rw [pk_un c]; exact x3
        · show upd (gIA gx 17) k _ i = _; rw [pk_un c]; exact x4
        · exact (pk_uLn (by omega)).trans x5
