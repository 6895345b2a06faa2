/-! sorts: a whole part -/
/-- a part is settled on both sides, and what comes of it -/
def SoG (n F last : Nat) (gp : Gs) (srt : Nat → Nat) (many cams m d : Nat) (fr fm : Nat) (g gT gc : Gs) (j j' T : Nat) (X : Nat → Nat) : Prop := ∃ t g' gT' gc' X' fr' fm', fr ≤ fr' + (j' - j) ∧ fm ≤ fm' + (j' - j) ∧ JS n F last gp fr fm g gT gc j = JS n F last gp fr' fm' g' gT' gc' j' ∧ t ≤ 7 ∧ St g' gT' (T + 1) X' ∧ X' T = t ∧ (∀ q, q < T → X' q = X q) ∧ Ch (fun q => j ≤ q ∧ q < j') g gT gc g' gT' gc' ∧ ∃ d', d' ≤ d ∧ Ex g' gc' 2000 srt many cams m j j' t d'
theorem upX_at {X : Nat → Nat} {T t : Nat} : upX X T t T = t := by unfold upX; rw [if_pos rfl]
theorem upX_lt {X : Nat → Nat} {T t q : Nat} (h : q < T) : upX X T t q = X q := by unfold upX; rw [if_neg (by omega)]
theorem Ch.twelve {P : Nat → Prop} {g gT gc g' gT' gc' : Gs} {F z : Nat} (h : Ch P g gT gc g' gT' gc') (h12 : f_X0_endOf gc (nI F) = some (nI z)) : f_X0_endOf gc' (nI F) = some (nI z) := by
  rw [endOf_fr h.2.2.1 (by decide)]; exact h12
theorem Ex.up {g gc : Gs} {srt : Nat → Nat} {many cams : Nat} : ∀ {m j j' t d : Nat}, Ex g gc 2000 srt many cams m j j' t d → 1 ≤ d := fun h => h.lt.2
theorem EgD.lt {E : Nat → Nat × Nat × Nat} {m : Nat} : ∀ {j j' d : Nat}, EgD E m j j' d → j < j' ∧ 1 ≤ d := by
  induction m with
  | zero => intro j j' d h; exact h.elim
  | succ m ih =>
    intro j j' d h
    rcases h with ⟨h1, h2, _⟩ | ⟨i, h1, h2, _⟩ | ⟨i, k, d1, d2, h1, h2, h3, h4, _⟩ | ⟨o, i, k, d1, d2, h1, h2, h3, _, _, h4, _⟩ | ⟨i, p, k, d1, d2, d3, h1, h2, h3, _, _, h4, _, _, h5, _⟩
    · omega
    · have := ih h2; omega
    · have := ih h3; have := ih h4; omega
    · have := ih h3; have := ih h4; omega
    · have := ih h3; have := ih h4; have := ih h5; omega
theorem sort_ex {n F last : Nat} {gp : Gs} {srt : Nat → Nat} {many cams : Nat} {E : Nat → Nat × Nat × Nat} (hF : F < 92) (hl : last ≤ 840) {m : Nat} : ∀ {j j' d : Nat}, EgD E m j j' d → j' ≤ last → ∀ (T : Nat) (X : Nat → Nat) (fr fm : Nat) (g gT gc : Gs), St g gT T X → T + d ≤ 400 → j' - j ≤ fr → j' - j ≤ fm → f_X0_endOf gc (nI F) = some (nI last) → SO g gp srt many → (∀ i, j ≤ i → i < j' → Sd g gc gp many cams i (E i)) → SoN n F last gp fr fm g gT gc j j' ∨ SoG n F last gp srt many cams m d fr fm g gT gc j j' T X := by
  induction m with
  | zero => intro j j' d h; exact h.elim
  | succ m ih =>
    intro j j' d h hj' T X fr fm g gT gc hSt hT hfr hfm h12 hO hS
    have hjj := h.lt
    rcases h with ⟨h1, h2, h3⟩ | ⟨i, h1, h2, h3⟩ | ⟨i, k, d1, d2, h1, h2, h3, h4, h5, h6⟩ | ⟨o, i, k, d1, d2, h1, h2, h3, h4, h5, h6, h7⟩ | ⟨i, p, k, d1, d2, d3, h1, h2, h3, h4, h5, h6, h7, h8, h9, h10, h11⟩
    · -- a value
      obtain ⟨fr, rfl⟩ : ∃ x, fr = x + 1 := ⟨fr - 1, by omega⟩
      obtain ⟨fm, rfl⟩ : ∃ x, fm = x + 1 := ⟨fm - 1, by omega⟩
      obtain ⟨t, t7, a1, a2, a3⟩ := so_push hSt (by omega) (by omega) (hS j (Nat.le_refl _) (by omega)) hO h3
      have hch : Ch (fun q => j ≤ q ∧ q < j') g gT gc (giv g T (nI t)) (giT gT T (nI t)) gc := ⟨(giv_fr _ _ _).mono (by decide), giT_fr _ _ _, Fr.refl _ _, fun _ _ => rfl, fun _ _ => ⟨rfl, rfl, rfl, rfl⟩⟩
      refine .inr ⟨t, _, _, _, upX X T t, fr, fm, by omega, by omega, ?_, t7, St.put (k := 0) hSt rfl rfl t7, upX_at, fun q hq => upX_lt hq, hch, 1, by omega, .inl ⟨h1, rfl, a3.ch hch⟩⟩
      rw [h1]; exact js_go hF h12 (by omega) hl a1 a2
    · -- one part
      have hi := h2.lt.1
      rcases ih h2 (by omega) T X fr fm g gT gc hSt hT (by omega) (by omega) h12 hO (fun q q1 q2 => hS q q1 (by omega)) with hN | ⟨s, g1, gT1, gc1, X1, fr1, fm1, b1, b2, b3, b4, b5, b6, b7, b8, x1, y1, b9⟩
      · exact .inl (hN.wide (by omega))
      obtain ⟨fr1, rfl⟩ : ∃ x, fr1 = x + 1 := ⟨fr1 - 1, by omega⟩
      obtain ⟨fm1, rfl⟩ : ∃ x, fm1 = x + 1 := ⟨fm1 - 1, by omega⟩
      have sd := (hS i (by omega) (by omega)).keep b8 (by omega)
      rcases so_one (many := many) b5 (by omega) (by omega) b6 sd h3 with hf | ⟨t, g2, gT2, gc2, t7, c1, c2, c3, c4, c5⟩
      · exact .inl ((js_no hF (b8.twelve h12) (by omega) hl hf).after b8 b3 (by omega) (by omega))
      have cA : Ch (fun q => j ≤ q ∧ q < j') g gT gc g1 gT1 gc1 := b8.mono (fun q hq => ⟨hq.1, by omega⟩)
      have cB : Ch (fun q => j ≤ q ∧ q < j') g1 gT1 gc1 g2 gT2 gc2 := c4.mono (fun q hq => ⟨by omega, by omega⟩)
      refine .inr ⟨t, g2, gT2, gc2, _, fr1, fm1, by omega, by omega, ?_, t7, c3, upX_at, fun q hq => (upX_lt hq).trans (b7 q hq), cA.trans cB, x1, y1, .inr (.inl ⟨i, s, h1, b9.ch c4 (fun q q1 q2 => by omega), c5, ?_⟩)⟩
      · rw [b3, h1]; exact js_go hF (b8.twelve h12) (by omega) hl c1 c2
      · rw [(cA.trans cB).same.2.1, (cA.trans cB).same.2.2.2.2.2.2.2.1]; exact (hS i (by omega) (by omega)).2.2.1
    · -- two parts
      have hi := h3.lt.1
      have hk := h4.lt
      rcases ih h3 (by omega) T X fr fm g gT gc hSt (by omega) (by omega) (by omega) h12 hO (fun q q1 q2 => hS q q1 (by omega)) with hN | ⟨l, g1, gT1, gc1, X1, fr1, fm1, b1, b2, b3, b4, b5, b6, b7, b8, x1, y1, b9⟩
      · exact .inl (hN.wide (by omega))
      rcases ih h4 (by omega) (T + 1) X1 fr1 fm1 g1 gT1 gc1 b5 (by omega) (by omega) (by omega) (b8.twelve h12) (hO.keep b8.1 (by decide)) (fun q q1 q2 => (hS q (by omega) (by omega)).keep b8 (by omega)) with hN | ⟨r, g2, gT2, gc2, X2, fr2, fm2, e1, e2, e3, e4, e5, e6, e7, e8, x2, y2, e9⟩
      · exact .inl (hN.after b8 b3 (by omega) (by omega))
      obtain ⟨fr2, rfl⟩ : ∃ x, fr2 = x + 1 := ⟨fr2 - 1, by omega⟩
      obtain ⟨fm2, rfl⟩ : ∃ x, fm2 = x + 1 := ⟨fm2 - 1, by omega⟩
      have c12 : Ch (fun q => j ≤ q ∧ q < k) g gT gc g2 gT2 gc2 := (b8.mono (Q := fun q => j ≤ q ∧ q < k) (fun q hq => ⟨hq.1, by omega⟩)).trans (e8.mono (fun q hq => ⟨by omega, hq.2⟩))
      have j12 : JS n F last gp fr fm g gT gc j = JS n F last gp (fr2 + 1) (fm2 + 1) g2 gT2 gc2 k := b3.trans e3
      have sd := (hS k (by omega) (by omega)).keep c12 (by omega)
      rcases so_two (many := many) (cams := cams) e5 (by omega) (by omega) ((e7 T (by omega)).trans b6) e6 sd h5 h6 with hf | ⟨t, g3, gT3, gc3, t7, f1, f2, f3, f4, f5⟩
      · exact .inl ((js_no hF (c12.twelve h12) (by omega) hl hf).after c12 j12 (by omega) (by omega))
      have cA : Ch (fun q => j ≤ q ∧ q < j') g gT gc g2 gT2 gc2 := c12.mono (fun q hq => ⟨hq.1, by omega⟩)
      have cB : Ch (fun q => j ≤ q ∧ q < j') g2 gT2 gc2 g3 gT3 gc3 := f4.mono (fun q hq => ⟨by omega, by omega⟩)
      refine .inr ⟨t, g3, gT3, gc3, _, fr2, fm2, by omega, by omega, ?_, t7, f3, upX_at, fun q hq => (upX_lt hq).trans ((e7 q (by omega)).trans (b7 q hq)), cA.trans cB, max x1 (x2 + 1), by omega, .inr (.inr (.inl ⟨i, k, l, r, x1, x2, h1, rfl, ?_, e9.ch f4 (fun q q1 q2 => by omega), f5, ?_⟩))⟩
      · rw [j12, h1]; exact js_go hF (c12.twelve h12) (by omega) hl f1 f2
      · exact (b9.ch e8 (fun q q1 q2 => by omega)).ch f4 (fun q q1 q2 => by omega)
      · rw [(cA.trans cB).same.2.1, (cA.trans cB).same.2.2.2.2.2.2.2.1]; exact (hS k (by omega) (by omega)).2.2.1
    · -- && and ||
      have hi := h3.lt.1
      have hk := h6.lt
      rcases ih h3 (by omega) T X fr fm g gT gc hSt (by omega) (by omega) (by omega) h12 hO (fun q q1 q2 => hS q q1 (by omega)) with hN | ⟨l, g1, gT1, gc1, X1, fr1, fm1, b1, b2, b3, b4, b5, b6, b7, b8, x1, y1, b9⟩
      · exact .inl (hN.wide (by omega))
      obtain ⟨fr1, rfl⟩ : ∃ x, fr1 = x + 1 := ⟨fr1 - 1, by omega⟩
      obtain ⟨fm1, rfl⟩ : ∃ x, fm1 = x + 1 := ⟨fm1 - 1, by omega⟩
      have sdi := (hS i (by omega) (by omega)).keep b8 (by omega)
      obtain ⟨u1, u2⟩ := so_jump b5 (by omega) (by omega) sdi (by rw [h4]; cases o <;> decide)
      have jj := b3.trans (js_go hF (b8.twelve h12) (by omega) hl u1 u2)
      rcases ih h6 (by omega) (T + 1) X1 fr1 fm1 g1 gT1 gc1 b5 (by omega) (by omega) (by omega) (b8.twelve h12) (hO.keep b8.1 (by decide)) (fun q q1 q2 => (hS q (by omega) (by omega)).keep b8 (by omega)) with hN | ⟨r, g2, gT2, gc2, X2, fr2, fm2, e1, e2, e3, e4, e5, e6, e7, e8, x2, y2, e9⟩
      · exact .inl (hN.after b8 jj (by omega) (by omega))
      obtain ⟨fr2, rfl⟩ : ∃ x, fr2 = x + 1 := ⟨fr2 - 1, by omega⟩
      obtain ⟨fm2, rfl⟩ : ∃ x, fm2 = x + 1 := ⟨fm2 - 1, by omega⟩
      have c12 : Ch (fun q => j ≤ q ∧ q < k) g gT gc g2 gT2 gc2 := (b8.mono (Q := fun q => j ≤ q ∧ q < k) (fun q hq => ⟨hq.1, by omega⟩)).trans (e8.mono (fun q hq => ⟨by omega, hq.2⟩))
      have j12 : JS n F last gp fr fm g gT gc j = JS n F last gp (fr2 + 1) (fm2 + 1) g2 gT2 gc2 k := jj.trans e3
      have sd := (hS k (by omega) (by omega)).keep c12 (by omega)
      rcases so_join (many := many) (cams := cams) e5 (by omega) (by omega) ((e7 T (by omega)).trans b6) e6 sd (by rw [h7]; cases o <;> decide) with hf | ⟨l0, r0, g3, gT3, gc3, f1, f2, f3, f4⟩
      · exact .inl ((js_no hF (c12.twelve h12) (by omega) hl hf).after c12 j12 (by omega) (by omega))
      have cA : Ch (fun q => j ≤ q ∧ q < j') g gT gc g2 gT2 gc2 := c12.mono (fun q hq => ⟨hq.1, by omega⟩)
      have cB : Ch (fun q => j ≤ q ∧ q < j') g2 gT2 gc2 g3 gT3 gc3 := f4.mono (fun q hq => ⟨by omega, by omega⟩)
      have sE := (cA.trans cB).same
      have si := hS i (by omega) (by omega)
      have sk := hS k (by omega) (by omega)
      have jp := si.2.2.2.2.2.2.2.2.1 (by rw [h4]; unfold opJ; cases o <;> decide) (by omega)
      rw [h5] at jp
      rw [l0] at b9
      rw [r0] at e9
      refine .inr ⟨0, g3, gT3, gc3, _, fr2, fm2, by omega, by omega, ?_, by decide, f3, upX_at, fun q hq => (upX_lt hq).trans ((e7 q (by omega)).trans (b7 q hq)), cA.trans cB, max x1 x2, by omega, .inr (.inr (.inr (.inl ⟨o, i, k, x1, x2, h1, rfl, rfl, (b9.ch e8 (fun q q1 q2 => by omega)).ch f4 (fun q q1 q2 => by omega), ⟨?_, ?_, ?_, ?_⟩, e9.ch f4 (fun q q1 q2 => by omega), ?_, ?_⟩)))⟩
      · rw [j12, h1]; exact js_go hF (c12.twelve h12) (by omega) hl f1 f2
      · rw [sE.1, si.1, h4]; cases o <;> rfl
      · rw [sE.2.2.2.2.2.1, si.2.1, h4]; cases o <;> rfl
      · rw [sE.2.2.1]; exact jp.2
      · rw [sE.2.2.2.2.2.2.1]; exact jp.1
      · rw [sE.1, sk.1, h7]; cases o <;> rfl
      · rw [sE.2.2.2.2.2.1, sk.2.1, h7]; cases o <;> rfl
    · -- ? :
      have hi := h3.lt.1
      have hp := h6.lt
      have hk := h9.lt
      rcases ih h3 (by omega) T X fr fm g gT gc hSt (by omega) (by omega) (by omega) h12 hO (fun q q1 q2 => hS q q1 (by omega)) with hN | ⟨c, g1, gT1, gc1, X1, fr1, fm1, b1, b2, b3, b4, b5, b6, b7, b8, x1, y1, b9⟩
      · exact .inl (hN.wide (by omega))
      obtain ⟨fr1, rfl⟩ : ∃ x, fr1 = x + 1 := ⟨fr1 - 1, by omega⟩
      obtain ⟨fm1, rfl⟩ : ∃ x, fm1 = x + 1 := ⟨fm1 - 1, by omega⟩
      have sdi := (hS i (by omega) (by omega)).keep b8 (by omega)
      obtain ⟨u1, u2⟩ := so_jump b5 (by omega) (by omega) sdi (.inr (.inr (.inl h4)))
      have jj := b3.trans (js_go hF (b8.twelve h12) (by omega) hl u1 u2)
      rcases ih h6 (by omega) (T + 1) X1 fr1 fm1 g1 gT1 gc1 b5 (by omega) (by omega) (by omega) (b8.twelve h12) (hO.keep b8.1 (by decide)) (fun q q1 q2 => (hS q (by omega) (by omega)).keep b8 (by omega)) with hN | ⟨a, g2, gT2, gc2, X2, fr2, fm2, e1, e2, e3, e4, e5, e6, e7, e8, x2, y2, e9⟩
      · exact .inl (hN.after b8 jj (by omega) (by omega))
      obtain ⟨fr2, rfl⟩ : ∃ x, fr2 = x + 1 := ⟨fr2 - 1, by omega⟩
      obtain ⟨fm2, rfl⟩ : ∃ x, fm2 = x + 1 := ⟨fm2 - 1, by omega⟩
      have c12 : Ch (fun q => j ≤ q ∧ q < p) g gT gc g2 gT2 gc2 := (b8.mono (Q := fun q => j ≤ q ∧ q < p) (fun q hq => ⟨hq.1, by omega⟩)).trans (e8.mono (fun q hq => ⟨by omega, hq.2⟩))
      have j12 : JS n F last gp fr fm g gT gc j = JS n F last gp (fr2 + 1) (fm2 + 1) g2 gT2 gc2 p := jj.trans e3
      have sdp := (hS p (by omega) (by omega)).keep c12 (by omega)
      obtain ⟨v1, v2⟩ := so_jump e5 (by omega) (by omega) sdp (.inr (.inr (.inr h7)))
      have j2 := j12.trans (js_go hF (c12.twelve h12) (by omega) hl v1 v2)
      rcases ih h9 (by omega) (T + 2) X2 fr2 fm2 g2 gT2 gc2 e5 (by omega) (by omega) (by omega) (c12.twelve h12) (hO.keep c12.1 (by decide)) (fun q q1 q2 => (hS q (by omega) (by omega)).keep c12 (by omega)) with hN | ⟨b, g3, gT3, gc3, X3, fr3, fm3, m1, m2, m3, m4, m5, m6, m7, m8, x3, y3, m9⟩
      · exact .inl (hN.after c12 j2 (by omega) (by omega))
      obtain ⟨fr3, rfl⟩ : ∃ x, fr3 = x + 1 := ⟨fr3 - 1, by omega⟩
      obtain ⟨fm3, rfl⟩ : ∃ x, fm3 = x + 1 := ⟨fm3 - 1, by omega⟩
      have c123 : Ch (fun q => j ≤ q ∧ q < k) g gT gc g3 gT3 gc3 := (c12.mono (Q := fun q => j ≤ q ∧ q < k) (fun q hq => ⟨hq.1, by omega⟩)).trans (m8.mono (fun q hq => ⟨by omega, hq.2⟩))
      have j123 : JS n F last gp fr fm g gT gc j = JS n F last gp (fr3 + 1) (fm3 + 1) g3 gT3 gc3 k := j2.trans m3
      have sdk := (hS k (by omega) (by omega)).keep c123 (by omega)
      rcases so_ask (many := many) (cams := cams) m5 (by omega) (by omega) (show p < k by omega) ((m7 T (by omega)).trans ((e7 T (by omega)).trans b6)) ((m7 (T + 1) (by omega)).trans e6) m6 sdk h10 h11 with hf | ⟨c0, t, g4, gT4, gc4, t7, f0, f1, f2, f3, f4, f5, f6⟩
      · exact .inl ((js_no hF (c123.twelve h12) (by omega) hl hf).after c123 j123 (by omega) (by omega))
      have cA : Ch (fun q => j ≤ q ∧ q < j') g gT gc g3 gT3 gc3 := c123.mono (fun q hq => ⟨hq.1, by omega⟩)
      have cB : Ch (fun q => j ≤ q ∧ q < j') g3 gT3 gc3 g4 gT4 gc4 := f4.mono (fun q hq => ⟨by omega, by omega⟩)
      have sE := (cA.trans cB).same
      have si := hS i (by omega) (by omega)
      have sp := hS p (by omega) (by omega)
      have sk := hS k (by omega) (by omega)
      have jp := si.2.2.2.2.2.2.2.2.1 (by rw [h4]; unfold opJ; decide) (by omega)
      have jk := sp.2.2.2.2.2.2.2.2.1 (by rw [h7]; unfold opJ; decide) (by omega)
      rw [h5] at jp
      rw [h8] at jk
      rw [c0] at b9
      refine .inr ⟨t, g4, gT4, gc4, _, fr3, fm3, by omega, by omega, ?_, t7, f3, upX_at, fun q hq => (upX_lt hq).trans ((m7 q (by omega)).trans ((e7 q (by omega)).trans (b7 q hq))), cA.trans cB, max x1 (max x2 x3), by omega, .inr (.inr (.inr (.inr ⟨i, p, k, a, b, x1, x2, x3, h1, rfl, ((b9.ch e8 (fun q q1 q2 => by omega)).ch m8 (fun q q1 q2 => by omega)).ch f4 (fun q q1 q2 => by omega), ⟨?_, ?_, ?_, ?_⟩, (e9.ch m8 (fun q q1 q2 => by omega)).ch f4 (fun q q1 q2 => by omega), ⟨?_, ?_, ?_, ?_, f5.1, f5.2.1, f5.2.2⟩, m9.ch f4 (fun q q1 q2 => by omega), ⟨?_, ?_, f6.1, f6.2.1, f6.2.2⟩, f0⟩)))⟩
      · rw [j123, h1]; exact js_go hF (c123.twelve h12) (by omega) hl f1 f2
      · rw [sE.1, si.1, h4]; rfl
      · rw [sE.2.2.2.2.2.1, si.2.1, h4]; rfl
      · rw [sE.2.2.1]; exact jp.2
      · rw [sE.2.2.2.2.2.2.1]; exact jp.1
      · rw [sE.1, sp.1, h7]; rfl
      · rw [sE.2.2.2.2.2.1, sp.2.1, h7]; rfl
      · rw [sE.2.2.1]; exact jk.2
      · rw [sE.2.2.2.2.2.2.1]; exact jk.1
      · rw [sE.1, sk.1, h10]; rfl
      · rw [sE.2.2.2.2.2.1, sk.2.1, h10]; rfl
