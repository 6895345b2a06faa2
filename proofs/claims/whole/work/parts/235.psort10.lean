/-! sorts: a whole formula -/
theorem comes_eq {t w : Nat} (ht : t ≤ 7) (hw : w ≤ 7) : f_X12_comes (nI t) (nI w) = f_X8_comesTo (nI t) (nI w) ∧ (f_X12_comes (nI t) (nI w) = some 0 ∨ f_X12_comes (nI t) (nI w) = some 1) := by
  have h : ∀ t, t < 8 → ∀ w, w < 8 → f_X12_comes (nI t) (nI w) = f_X8_comesTo (nI t) (nI w) ∧ (f_X12_comes (nI t) (nI w) = some 0 ∨ f_X12_comes (nI t) (nI w) = some 1) := by decide +kernel
  exact h t (by omega) w (by omega)
theorem Ex.same17 {g gc : Gs} {f : Nat → Int32} {srt : Nat → Nat} {many cams : Nat} : ∀ {m j j' t d : Nat}, Ex g gc 2000 srt many cams m j j' t d → Ex g (sIA gc 17 f) 2000 srt many cams m j j' t d := by
  intro m
  induction m with
  | zero => intro j j' t d h; exact h.elim
  | succ m ih =>
    intro j j' t d h
    rcases h with ⟨h1, h2, h3⟩ | ⟨i, s, h1, h2, h3, h4⟩ | ⟨i, k, l, r, d1, d2, h1, h2, h3, h4, h5, h6⟩ | ⟨o, i, k, d1, d2, h1, h2, h3, h4, h5, h6, h7⟩ | ⟨i, p, k, a, b, d1, d2, d3, h1, h2, h3, h4, h5, h6, h7, h8, h9⟩
    · exact .inl ⟨h1, h2, h3⟩
    · exact .inr (.inl ⟨i, s, h1, ih h2, h3, h4⟩)
    · exact .inr (.inr (.inl ⟨i, k, l, r, d1, d2, h1, h2, ih h3, ih h4, h5, h6⟩))
    · exact .inr (.inr (.inr (.inl ⟨o, i, k, d1, d2, h1, h2, h3, ih h4, h5, ih h6, h7⟩)))
    · exact .inr (.inr (.inr (.inr ⟨i, p, k, a, b, d1, d2, d3, h1, h2, ih h3, h4, ih h5, h6, ih h7, h8, h9⟩)))
/-- the code of formula F is settled on both sides -/
theorem part_formula {n F z a m d : Nat} {gp : Gs} {srt : Nat → Nat} {many cams : Nat} {E : Nat → Nat × Nat × Nat} {fm : Nat} {g gT gc : Gs} (hn : 20000 ≤ n) (hF : F < 92) (hz : z ≤ 840) (hE : EgD E m a z d) (hd : d ≤ 400) (hfm : z - a + 1 ≤ fm) (h12 : f_X0_endOf gc (nI F) = some (nI z)) (hO : SO g gp srt many) (hS : ∀ i, a ≤ i → i < z → Sd g gc gp many cams i (E i)) :
    (∃ i g' gT' gc', a ≤ i ∧ i < z ∧ f_X12_judged n g (nI (2000 + a)) (nI (2000 + z)) = some (-1, g') ∧ (L_X8_firstFault n fm).2 (sI gT 1 0) gp gc (nI F) (nI a) = some (gIA gc 1 i, gT', gc') ∧ gI g' 21 = 4 ∧ gI g' 22 = gIA gc 1 i ∧ Fr [16, 21, 22, 57, 58] g g' ∧ (∀ q, q < 2000 → gIA g' 16 q = gIA g 16 q) ∧ Fr [0, 1] gT gT' ∧ Fr [2, 3, 4] gc gc') ∨
    (∃ t d' g' gT' gc' fm', fm ≤ fm' + (z - a) + 1 ∧ t ≤ 7 ∧ d' ≤ d ∧ f_X12_judged n g (nI (2000 + a)) (nI (2000 + z)) = some (nI t, g') ∧ gIA g' 57 0 = nI t ∧ (L_X8_firstFault n fm).2 (sI gT 1 0) gp gc (nI F) (nI a) = b_X8_firstFault_74 n (L_X8_firstFault n fm') gT' gp gc' (nI F) (nI t) ∧ Ch (fun q => a ≤ q ∧ q < z) g gT gc g' gT' gc' ∧ Ex g' gc' 2000 srt many cams m a z t d') := by
  have st : St (sI g 58 0) (sI gT 1 0) 0 (fun _ => 0) := ⟨rfl, rfl, fun q hq => by omega⟩
  have haz := hE.lt.1
  have ej : f_X12_judged n g (nI (2000 + a)) (nI (2000 + z)) = L_X12_judged n n (sI g 58 0) (nI (2000 + z)) (nI (2000 + a)) := rfl
  have fg : Fr [16, 57, 58] g (sI g 58 0) := Fr.sI (by decide) _ _
  have fT : Fr [0, 1] gT (sI gT 1 0) := Fr.sI (by decide) _ _
  rcases sort_ex (srt := srt) (many := many) (cams := cams) (n := n) (gp := gp) hF hz hE (Nat.le_refl _) 0 _ n fm (sI g 58 0) (sI gT 1 0) gc st (by omega) (by omega) (by omega) h12 (hO.keep fg (by decide)) (fun i i1 i2 => hS i i1 i2) with ⟨i, g', gT', gc', x1, x2, x3, x4, x5, x6, x7, x8, x9⟩ | ⟨t, g', gT', gc', X', fr', fm', x1, x2, x3, x4, x5, x6, x7, x8, d', x9, x10⟩
  · have y1 := congrArg Prod.fst x3
    have y2 := congrArg Prod.snd x3
    refine .inl ⟨i, g', gT', gc', x1, x2, ej.trans y1, y2, x4, ?_, (fg.mono (by decide)).trans x6, x7, fT.trans x8, x9⟩
    rw [x5, (hS i x1 x2).2.2.1]; rfl
  · obtain ⟨fr', rfl⟩ : ∃ x, fr' = x + 1 := ⟨fr' - 1, by omega⟩
    obtain ⟨fm', rfl⟩ : ∃ x, fm' = x + 1 := ⟨fm' - 1, by omega⟩
    have y1 := congrArg Prod.fst x3
    have y2 := congrArg Prod.snd x3
    obtain ⟨s1, s2, s3⟩ := x5
    have s0 := s3 0 (by omega)
    rw [x6] at s0
    have r1 : L_X12_judged n (fr' + 1) g' (nI (2000 + z)) (nI (2000 + z)) = some (nI t, g') := by
      show h_X12_judged_7 n (L_X12_judged n fr') g' (nI (2000 + z)) (nI (2000 + z)) = _
      unfold h_X12_judged_7
      rw [if_pos (nI_le (Nat.le_refl _) (by omega)), grd_t (by decide), show (0 : Int32).toNatClampNeg = 0 from rfl, s0.2.1]
    have r2 : (L_X8_firstFault n (fm' + 1)).2 gT' gp gc' (nI F) (nI z) = b_X8_firstFault_74 n (L_X8_firstFault n fm') gT' gp gc' (nI F) (nI t) := by
      show h_X8_firstFault_22 n (L_X8_firstFault n fm') gT' gp gc' (nI F) (nI z) = _
      unfold h_X8_firstFault_22
      rw [bnd_s (x8.twelve h12), if_pos (nI_le (Nat.le_refl _) (by omega)), s2, if_neg (show ¬ nI (0 + 1) ≤ (0 : Int32) by decide), grd_t (by decide), show (0 : Int32).toNatClampNeg = 0 from rfl, s0.2.2]
    have c0 : Ch (fun q => a ≤ q ∧ q < z) g gT gc (sI g 58 0) (sI gT 1 0) gc := ⟨fg, fT, Fr.refl _ _, fun _ _ => rfl, fun _ _ => ⟨rfl, rfl, rfl, rfl⟩⟩
    exact .inr ⟨t, d', g', gT', gc', fm', by omega, x4, x9, ej.trans (y1.trans r1), s0.2.1, y2.trans r2, c0.trans x8, x10⟩
/-- what formulas change -/
def Cf (P : Nat → Prop) (F : Nat) (g gT gc g' gT' gc' : Gs) : Prop := Fr [16, 57, 58] g g' ∧ Fr [0, 1] gT gT' ∧ Fr [2, 3, 4, 17] gc gc' ∧ (∀ q, q < 2000 → gIA g' 16 q = gIA g 16 q) ∧ (∀ q, ¬ P q → gIA g' 16 (2000 + q) = gIA g 16 (2000 + q) ∧ gIA gc' 2 q = gIA gc 2 q ∧ gIA gc' 3 q = gIA gc 3 q ∧ gIA gc' 4 q = gIA gc 4 q) ∧ ∀ i, i ≠ F → gIA gc' 17 i = gIA gc 17 i
/-- a formula of a plan: want is the sort it must come to -/
theorem plan_formula {n F f z a m d w : Nat} {gp : Gs} {srt : Nat → Nat} {many cams : Nat} {E : Nat → Nat × Nat × Nat} {fm : Nat} {g gT gc : Gs} (hn : 20000 ≤ n) (hf : F < f) (hF : f ≤ 92) (h18 : gI gc 18 = nI f) (hz : z ≤ 840) (hE : EgD E m a z d) (hd : d ≤ 400) (hfm : z - a + 2 ≤ fm) (h11 : f_X0_beginOf gc (nI F) = some (nI a)) (h12 : f_X0_endOf gc (nI F) = some (nI z)) (hO : SO g gp srt many) (hS : ∀ i, a ≤ i → i < z → Sd g gc gp many cams i (E i)) (hw : w ≤ 7) (h13 : (∃ i, i < 40 ∧ gIA gc 13 F = nI i ∧ gIA gp 7 i = nI w) ∨ (w = 0 ∧ ∃ b, b < 12 ∧ gIA gc 13 F = nI (40 + b))) :
    (∃ v g' gT' gc', f_X12_fits n g (nI (2000 + a)) (nI (2000 + z)) (nI w) (gIA gc 14 F) = some (0, g') ∧ (L_X8_firstFault n fm).1 gT gp gc (nI F) = some (v, gT', gc') ∧ gI g' 21 = 4 ∧ gI g' 22 = v ∧ ((∃ i, a ≤ i ∧ i < z ∧ v = gIA gc 1 i) ∨ v = gIA gc 14 F) ∧ Fr [16, 21, 22, 57, 58] g g' ∧ (∀ q, q < 2000 → gIA g' 16 q = gIA g 16 q) ∧ Fr [0, 1] gT gT' ∧ Fr [2, 3, 4, 17] gc gc') ∨
    (∃ t d' g' gT' gc' fm', fm ≤ fm' + (z - a) + 2 ∧ t ≤ 7 ∧ d' ≤ d ∧ f_X12_fits n g (nI (2000 + a)) (nI (2000 + z)) (nI w) (gIA gc 14 F) = some (1, g') ∧ f_X12_comes (nI t) (nI w) = some 1 ∧ gIA g' 57 0 = nI t ∧ (L_X8_firstFault n fm).1 gT gp gc (nI F) = (L_X8_firstFault n fm').1 gT' gp gc' (nI (F + 1)) ∧ Cf (fun q => a ≤ q ∧ q < z) F g gT gc g' gT' gc' ∧ gIA gc' 17 F = nI t ∧ Ex g' gc' 2000 srt many cams m a z t d') := by
  obtain ⟨fm, rfl⟩ : ∃ x, fm = x + 1 := ⟨fm - 1, by omega⟩
  have bF : inB (nI F) 92 = true := inB_nI (by omega) (by decide)
  have cF : (nI F).toNatClampNeg = F := nI_clamp (by omega)
  have e1 : (L_X8_firstFault n (fm + 1)).1 gT gp gc (nI F) = (L_X8_firstFault n fm).2 (sI gT 1 0) gp gc (nI F) (nI a) := by
    show h_X8_firstFault_2 n (L_X8_firstFault n fm) gT gp gc (nI F) = _
    unfold h_X8_firstFault_2
    rw [h18, if_neg (nI_ge (a := F) (b := f) hf (by omega)), bnd_s h11]
  rw [e1]
  rcases part_formula (gT := gT) hn (by omega) hz hE hd (show z - a + 1 ≤ fm by omega) h12 hO hS with ⟨i, g', gT', gc', x1, x2, x3, x4, x5, x6, x7, x8, x9, x10⟩ | ⟨t, d', g', gT', gc', fm', x1, x2, x3, x4, x5, x6, x7, x8⟩
  · refine .inl ⟨gIA gc 1 i, g', gT', gc', ?_, x4, x5, x6, .inl ⟨i, x1, x2, rfl⟩, x7, x8, x9, x10.mono (by decide)⟩
    unfold f_X12_fits
    rw [bnd_s x3, if_neg (show ¬ (0 : Int32) ≤ -1 by decide)]
  · have t0 : (0 : Int32) ≤ nI t := nI_le (a := 0) (b := t) (by omega) (by omega)
    obtain ⟨c1, c2⟩ := comes_eq x2 hw
    have e13 : gIA gc' 13 F = gIA gc 13 F := by rw [(x7.2.2.1 13 (by decide)).2.2.2.1]
    have e14 : gIA gc' 14 F = gIA gc 14 F := by rw [(x7.2.2.1 14 (by decide)).2.2.2.1]
    -- what the class does next
    have e76 : b_X8_firstFault_74 n (L_X8_firstFault n fm') gT' gp gc' (nI F) (nI t) = b_X8_firstFault_118 n (L_X8_firstFault n fm') gT' gp (sIA gc' 17 (upd (gIA gc' 17) F (nI t))) (nI F) (nI w) (nI t) := by
      unfold b_X8_firstFault_74
      rw [grd_t bF, grd_t bF, cF, e13]
      rcases h13 with ⟨i, i1, i2, i3⟩ | ⟨w0, b, b1, b2⟩
      · rw [i2, if_neg (nI_ne_m1 (by omega)), if_neg (show ¬ (40 : Int32) ≤ nI i from nI_ge (b := 40) i1 (by decide)), grd_t (inB_nI i1 (by decide)), nI_clamp (by omega), i3]
      · rw [b2, if_neg (nI_ne_m1 (by omega)), if_pos (show (40 : Int32) ≤ nI (40 + b) from nI_le (a := 40) (by omega) (by omega)), w0]; rfl
    have e17 : Fr [2, 3, 4, 17] gc (sIA gc' 17 (upd (gIA gc' 17) F (nI t))) := (x7.2.2.1.mono (by decide)).trans (Fr.sIA (by decide) _ _)
    rw [x6, e76]
    rcases c2 with c2 | c2
    · refine .inl ⟨gIA gc 14 F, sI (sI g' 21 4) 22 (gIA gc 14 F), gT', _, ?_, ?_, rfl, rfl, .inr rfl, ((x7.1.mono (by decide)).trans (Fr.sI (by decide) _ _)).trans (Fr.sI (by decide) _ _), x7.2.2.2.1, x7.2.1, e17⟩
      · unfold f_X12_fits
        rw [bnd_s x4, if_pos t0, bnd_s c2, if_pos rfl]; rfl
      · unfold b_X8_firstFault_118
        rw [bnd_s (c1 ▸ c2), if_pos rfl, grd_t bF, cF]
        show some (gIA gc' 14 F, _, _) = _
        rw [e14]
    · have ef : f_X12_fits n g (nI (2000 + a)) (nI (2000 + z)) (nI w) (gIA gc 14 F) = some (1, g') := by
        unfold f_X12_fits
        rw [bnd_s x4, if_pos t0, bnd_s c2, if_neg (show ¬ (1 : Int32) = 0 by decide)]
      have ec : b_X8_firstFault_118 n (L_X8_firstFault n fm') gT' gp (sIA gc' 17 (upd (gIA gc' 17) F (nI t))) (nI F) (nI w) (nI t) = (L_X8_firstFault n fm').1 gT' gp (sIA gc' 17 (upd (gIA gc' 17) F (nI t))) (nI (F + 1)) := by
        unfold b_X8_firstFault_118 b_X8_firstFault_131
        rw [bnd_s (c1 ▸ c2), if_neg (show ¬ (1 : Int32) = 0 by decide), nI_1]
      refine .inr ⟨t, d', g', gT', _, fm', by omega, x2, x3, ef, c2, x5, ec, ⟨x7.1, x7.2.1, e17, x7.2.2.2.1, fun q hq => x7.2.2.2.2 q hq, fun i hi => ?_⟩, ?_, ?_⟩
      · show upd (gIA gc' 17) F (nI t) i = _
        rw [pk_un hi, (x7.2.2.1 17 (by decide)).2.2.2.1]
      · show upd (gIA gc' 17) F (nI t) F = _
        rw [pk_us]
      · exact Ex.same17 x8
