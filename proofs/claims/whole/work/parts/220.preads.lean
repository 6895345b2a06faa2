/-! plans' texts: whole plans are read -/
theorem reads_loop {n hQ hP L T : Nat} {g2 gt gN gS : Gs} {B : Nat → Nat} {aP : Nat → Nat} (hn : 20000 ≤ n) (hbt : ∀ q, q < L → byt (gIA gt 0 q)) (haP : aP 0 = hP) : ∀ (d k1 k2 c : Nat) (g gr gs gp gc : Gs) (j th be ca : Nat), T - j < d → d + 1 < k1 → d + 2 < k2 → c ≤ j → MP n hQ hP L T g2 gt B g gr gs gp gc j th be ca → ∃ b g' v3 gr' gs' gp' gc' rec, L_X12_reads n k1 g = some (b, g') ∧ L_X5_readPlan n hQ aP k2 gr gt gs g2 gN gS gp gc 1 (nI c) = b_X5_readPlan_133 n hQ aP rec gr' gt gs' g2 gN gS gp' gc' v3 ∧ Fr parP g g' ∧ Fr rdA gr gr' ∧ Fr scA gs gs' ∧ Fr plA gp gp' ∧ Fr cfA gc gc' ∧ ((v3 = 0 ∧ b = 0 ∧ gI g' 21 = 1 ∧ gI g' 22 = gI gs' 5) ∨ (v3 = 1 ∧ ∃ g1 j' th be ca, MP n hQ hP L T g2 gt B g1 gr' gs' gp' gc' j' th be ca ∧ tk g1 j' = 0 ∧ Fr parP g g1 ∧ ((b = 1 ∧ g' = g1 ∧ gI g1 23 = -1) ∨ (b = 0 ∧ ¬ gI g1 23 < 0 ∧ g' = sI (sI g1 21 2) 22 (gI g1 23))))) := by
  intro d
  induction d with
  | zero => intro k1 k2 c g gr gs gp gc j th be ca hd; omega
  | succ d ih =>
    intro k1 k2 c g gr gs gp gc j th be ca hd h1 h2 hc h
    obtain ⟨k1, rfl⟩ : ∃ q, k1 = q + 1 := ⟨k1 - 1, by omega⟩
    obtain ⟨k2, rfl⟩ : ∃ q, k2 = q + 1 := ⟨k2 - 1, by omega⟩
    have h' := h
    obtain ⟨N, A, M, f, ce, E, hM, hcn, hgp, hby, hopen⟩ := h'
    obtain ⟨⟨s1, s2, s3⟩, ⟨a1, a2, a3, a4, a5⟩, c1, ⟨d1, d2⟩, ⟨e1, e1'⟩, e2, _⟩ := id hM
    have hT := s1.2.2.1
    obtain ⟨v1, v2, v3, v4, v5⟩ := s1.tok s3
    have b20 : inB (gI g 20) 3001 = true := by rw [a1]; exact inB_nI (by omega) (by decide)
    have c20 : (gI g 20).toNatClampNeg = j := by rw [a1]; exact nI_clamp (by omega)
    have n3k : ¬ (3000 : Int32) < nI c := nI_nlt (a := 3000) (by omega) (by decide)
    have K := kk0 _ v3
    have kl := kc_lt v3
    have g4 := s2.2.1
    show ∃ b g' v3 gr' gs' gp' gc' rec, h_X12_reads_20 n (L_X12_reads n k1) g = some (b, g') ∧ h_X5_readPlan_26 n hQ aP (L_X5_readPlan n hQ aP k2) gr gt gs g2 gN gS gp gc 1 (nI c) = b_X5_readPlan_133 n hQ aP rec gr' gt gs' g2 gN gS gp' gc' v3 ∧ _
    -- a round of the class's loop that refuses ends it
    have stop : ∀ {gr' gs' gp' gc' : Gs}, b_X5_readPlan_127 n hQ aP (L_X5_readPlan n hQ aP k2) gr' gt gs' g2 gN gS gp' gc' 0 (nI c) = b_X5_readPlan_133 n hQ aP (L_X5_readPlan n hQ aP (k2 - 1)) gr' gt gs' g2 gN gS gp' gc' 0 := by
      intro gr' gs' gp' gc'
      obtain ⟨q, rfl⟩ : ∃ q, k2 = q + 1 := ⟨k2 - 1, by omega⟩
      unfold b_X5_readPlan_127
      show h_X5_readPlan_26 n hQ aP (L_X5_readPlan n hQ aP q) gr' gt gs' g2 gN gS gp' gc' 0 (nI c + 1) = _
      unfold h_X5_readPlan_26
      rw [if_pos (show (0 : Int32) = 0 from rfl), ite_self]
      rfl
    -- an item
    have item : ∀ {b : Int32} {g' : Gs} {cls : Option (Int32 × Gs × Gs × Gs × Gs)}, ItOut n hQ hP L T g2 gt B g gr gs gp gc j b g' cls → ∃ b2 g2' v3 gr' gs' gp' gc' rec, b_X12_reads_95 n (L_X12_reads n k1) g' b = some (b2, g2') ∧ bnd cls (fun q => b_X5_readPlan_127 n hQ aP (L_X5_readPlan n hQ aP k2) q.2.1 gt q.2.2.1 g2 gN gS q.2.2.2.1 q.2.2.2.2 q.1 (nI c)) = b_X5_readPlan_133 n hQ aP rec gr' gt gs' g2 gN gS gp' gc' v3 ∧ Fr parP g g2' ∧ Fr rdA gr gr' ∧ Fr scA gs gs' ∧ Fr plA gp gp' ∧ Fr cfA gc gc' ∧ ((v3 = 0 ∧ b2 = 0 ∧ gI g2' 21 = 1 ∧ gI g2' 22 = gI gs' 5) ∨ (v3 = 1 ∧ ∃ g1 j' th be ca, MP n hQ hP L T g2 gt B g1 gr' gs' gp' gc' j' th be ca ∧ tk g1 j' = 0 ∧ Fr parP g g1 ∧ ((b2 = 1 ∧ g2' = g1 ∧ gI g1 23 = -1) ∨ (b2 = 0 ∧ ¬ gI g1 23 < 0 ∧ g2' = sI (sI g1 21 2) 22 (gI g1 23))))) := by
      intro b g' cls ho
      unfold b_X12_reads_95
      rcases ho with ⟨rfl, j', gr', gs', gp', gc', th, be, ca, x1, x2, x3, x4, x5, x6, x7, x8⟩ | ⟨rfl, j', gr', gs', gp', gc', x1, x2, x3, x4, x5, x6, x7, x8, x9, x10⟩
      · rw [x1, if_neg (by decide)]
        have hj' := x2.choose_spec.choose_spec.choose_spec.choose_spec.choose_spec.choose_spec.1.1.2.2
        obtain ⟨b2, g2', w3, gr2, gs2, gp2, gc2, rec, y1, y2, y3, y4, y5, y6, y7, y8⟩ := ih k1 k2 (c + 1) g' gr' gs' gp' gc' j' th be ca (by omega) (by omega) (by omega) (by omega) x2
        refine ⟨b2, g2', w3, gr2, gs2, gp2, gc2, rec, y1, ?_, x4.trans y3, x5.trans y4, x6.trans y5, x7.trans y6, x8.trans y7, ?_⟩
        · show b_X5_readPlan_127 n hQ aP (L_X5_readPlan n hQ aP k2) gr' gt gs' g2 gN gS gp' gc' 1 (nI c) = _
          unfold b_X5_readPlan_127
          rw [nI_1]; exact y2
        · rcases y8 with z | ⟨z1, g1, j2, th2, be2, ca2, z2, z3, z4, z5⟩
          · exact .inl z
          · exact .inr ⟨z1, g1, j2, th2, be2, ca2, z2, z3, x4.trans z4, z5⟩
      · rw [x1, if_pos rfl]
        refine ⟨0, g', 0, gr', gs', gp', gc', L_X5_readPlan n hQ aP (k2 - 1), rfl, ?_, x6, x7, x8, x9, x10, .inl ⟨rfl, rfl, x2, by rw [x3]; exact x4.2.2.1.symm⟩⟩
        exact stop
    unfold h_X12_reads_20 h_X5_readPlan_26
    rw [grd_t b20, c20, v1, if_neg n3k, if_neg (show ¬ (1 : Int32) = 0 by decide), g4]
    by_cases k0 : tk g j = 0
    · rw [ifP (c := 0) (b := 0) rfl k0, ifP (c := 0) (b := 0) rfl (K.1.mpr k0)]
      by_cases h23 : gI g 23 < 0
      · rw [if_pos h23]
        have hm1 : gI g 23 = -1 := by
          rcases e1' with z | z
          · exact z
          · exact absurd h23 z
        exact ⟨1, g, 1, gr, gs, gp, gc, L_X5_readPlan n hQ aP k2, rfl, rfl, Fr.refl _ _, Fr.refl _ _, Fr.refl _ _, Fr.refl _ _, Fr.refl _ _, .inr ⟨rfl, g, j, th, be, ca, h, k0, Fr.refl _ _, .inl ⟨rfl, rfl, hm1⟩⟩⟩
      · rw [if_neg h23]
        exact ⟨0, _, 1, gr, gs, gp, gc, L_X5_readPlan n hQ aP k2, rfl, rfl, (Fr.sI (by decide) _ _).trans (Fr.sI (by decide) _ _), Fr.refl _ _, Fr.refl _ _, Fr.refl _ _, Fr.refl _ _, .inr ⟨rfl, g, j, th, be, ca, h, k0, Fr.refl _ _, .inr ⟨rfl, h23, rfl⟩⟩⟩
    rw [ifN (c := 0) (b := 0) rfl v4 (by decide) k0, grd_t b20, ifN (c := 0) (b := 0) rfl (by omega) (by decide) (fun z => k0 (K.1.mp z))]
    by_cases k200 : tk g j = 200
    · rw [ifP (c := 200) (b := 200) rfl k200, ifP (c := 10) (b := 10) rfl (K.2.1.mpr k200)]
      obtain ⟨b, g', x1, x2⟩ := thing_both hn hbt h (.inl ⟨k200, rfl⟩)
      obtain ⟨b2, g2', w3, gr2, gs2, gp2, gc2, rec, y1, y2, y3⟩ := item x2
      refine ⟨b2, g2', w3, gr2, gs2, gp2, gc2, rec, ?_, ?_, y3⟩
      · unfold b_X12_reads_56; rw [bnd_s x1]; exact y1
      · unfold b_X5_readPlan_84 b_X5_readPlan_102
        rw [g4, ifP (c := 10) (b := 10) rfl (K.2.1.mpr k200), haP]; exact y2
    rw [ifN (c := 200) (b := 200) rfl v4 (by decide) k200, ifN (c := 10) (b := 10) rfl (by omega) (by decide) (fun z => k200 (K.2.1.mp z))]
    by_cases k201 : tk g j = 201
    · rw [ifP (c := 201) (b := 201) rfl k201, ifP (c := 11) (b := 11) rfl (K.2.2.1.mpr k201)]
      obtain ⟨b, g', x1, x2⟩ := thing_both hn hbt h (.inr ⟨k201, rfl⟩)
      obtain ⟨b2, g2', w3, gr2, gs2, gp2, gc2, rec, y1, y2, y3⟩ := item x2
      refine ⟨b2, g2', w3, gr2, gs2, gp2, gc2, rec, ?_, ?_, y3⟩
      · unfold b_X12_reads_56; rw [bnd_s x1]; exact y1
      · unfold b_X5_readPlan_84 b_X5_readPlan_102
        rw [g4, ifN (c := 10) (b := 10) rfl (by omega) (by decide) (fun z => k200 (K.2.1.mp z)), haP]; exact y2
    rw [ifN (c := 201) (b := 201) rfl v4 (by decide) k201, ifN (c := 11) (b := 11) rfl (by omega) (by decide) (fun z => k201 (K.2.2.1.mp z))]
    by_cases k202 : tk g j = 202
    · rw [ifP (c := 202) (b := 202) rfl k202, ifP (c := 12) (b := 12) rfl (K.2.2.2.1.mpr k202)]
      obtain ⟨b, g', x1, x2⟩ := cam_both hn hbt h k202
      obtain ⟨b2, g2', w3, gr2, gs2, gp2, gc2, rec, y1, y2, y3⟩ := item x2
      refine ⟨b2, g2', w3, gr2, gs2, gp2, gc2, rec, ?_, ?_, y3⟩
      · rw [bnd_s x1]; exact y1
      · rw [haP]; exact y2
    rw [ifN (c := 202) (b := 202) rfl v4 (by decide) k202, ifN (c := 12) (b := 12) rfl (by omega) (by decide) (fun z => k202 (K.2.2.2.1.mp z))]
    by_cases k203 : tk g j = 203
    · rw [ifP (c := 203) (b := 203) rfl k203, ifP (c := 13) (b := 13) rfl (K.2.2.2.2.1.mpr k203)]
      obtain ⟨b, g', x1, x2⟩ := bell_both hn hbt h k203
      obtain ⟨b2, g2', w3, gr2, gs2, gp2, gc2, rec, y1, y2, y3⟩ := item x2
      refine ⟨b2, g2', w3, gr2, gs2, gp2, gc2, rec, ?_, ?_, y3⟩
      · rw [bnd_s x1]; exact y1
      · rw [haP]; exact y2
    rw [ifN (c := 203) (b := 203) rfl v4 (by decide) k203, ifN (c := 13) (b := 13) rfl (by omega) (by decide) (fun z => k203 (K.2.2.2.2.1.mp z)), bnd_s (cannot12 (G := g) s1 (Fr.refl _ _) a1 s3)]
    refine ⟨0, sI (sI g 21 1) 22 (nI (ta g j)), 0, gr, gs, gp, gc, L_X5_readPlan n hQ aP (k2 - 1), ?_, stop, (Fr.sI (by decide) _ _).trans (Fr.sI (by decide) _ _), Fr.refl _ _, Fr.refl _ _, Fr.refl _ _, Fr.refl _ _, .inl ⟨rfl, rfl, rfl, s2.2.2.1.symm⟩⟩
    unfold b_X12_reads_95
    rw [if_pos rfl]
