/-! a whole plan's text on both sides, up to the settling -/
abbrev planX : List Nat := [0, 1, 2, 4, 5, 6, 8, 9, 10, 11, 12, 13, 14, 15, 16, 17, 18, 19, 20, 21, 22, 23, 24, 25, 26, 27, 28, 29, 30, 31, 32, 33, 34, 35, 36, 37, 38, 39, 40, 41, 42, 43, 44, 45, 46, 47, 48, 49, 50, 51, 52, 53, 54, 55, 56, 57, 58, 59]
abbrev rdB : List Nat := [4, 5, 6, 7, 8, 9, 10, 11, 12, 13, 14, 15, 16, 17]
abbrev scB : List Nat := [2, 3, 4, 5, 6, 7, 8, 9, 10, 11]
abbrev cfB : List Nat := [0, 1, 2, 3, 4, 5, 6, 7, 8, 9, 10, 11, 12, 13, 14, 15, 16, 17, 18]
/-- the entries of the plan that turns are the same -/
def Lw (g g' : Gs) : Prop := ∀ q, q < 2000 → gIA g' 14 q = gIA g 14 q ∧ gIA g' 15 q = gIA g 15 q ∧ gIA g' 16 q = gIA g 16 q ∧ gIA g' 17 q = gIA g 17 q ∧ gLA g' 18 q = gLA g 18 q
theorem Lw.trans {a b c : Gs} (h : Lw a b) (h' : Lw b c) : Lw a c := fun q hq => ⟨(h' q hq).1.trans (h q hq).1, (h' q hq).2.1.trans (h q hq).2.1, (h' q hq).2.2.1.trans (h q hq).2.2.1, (h' q hq).2.2.2.1.trans (h q hq).2.2.2.1, (h' q hq).2.2.2.2.trans (h q hq).2.2.2.2⟩
theorem Lw.of {X : List Nat} {g g' : Gs} (h : Fr X g g') (hX : 14 ∉ X ∧ 17 ∉ X ∧ 18 ∉ X) (h15 : ∀ q, q < 2000 → gIA g' 15 q = gIA g 15 q) (h16 : ∀ q, q < 2000 → gIA g' 16 q = gIA g 16 q) : Lw g g' := fun q hq => ⟨by rw [(h 14 hX.1).2.2.2.1], h15 q hq, h16 q hq, by rw [(h 17 hX.2.1).2.2.2.1], by rw [(h 18 hX.2.2).2.2.2.2.1]⟩
/-- what is wanted of the reference's reading alone -/
def RdOk (n : Nat) : Prop := ∀ g b g', gI g 19 = 2000 → gI g 24 = 0 → gI g 23 = -1 → gI g 27 = 0 → gI g 21 = 0 → f_X12_reads n g = some (b, g') → Lw g g' ∧ (b = 1 → gI g' 21 = 0 ∧ ∀ A N, A ≤ 840 → N ≤ 3000 → gI g' 19 = nI (2000 + A) → gI g' 24 = nI N → rcU g' A ≤ N)
/-- what both hold when a plan is well, before it is settled -/
def PE (n hQ hP L : Nat) (g2 gt : Gs) (B : Nat → Nat) (g' gp' gc' : Gs) : Prop := ∃ T gE gr gs gc g1 gc1 gS gS' j th be ca N A M f ce E FA tn fn rkk srt, MR n hQ hP L T g2 gt B gE gr gs gc j N A M f E ∧ (gI gE 33 = nI th ∧ gI gE 34 = nI be ∧ gI gE 35 = nI ca ∧ gI gE 36 = nI ce) ∧ (gI gp' 4 = nI th ∧ gI gp' 5 = nI be ∧ gI gp' 6 = nI ca) ∧ gI gc 10 = 0 ∧ (th ≤ 40 ∧ be ≤ 12 ∧ ca ≤ 8 ∧ f ≤ 2 * th + be) ∧ PN T gE gt gp' gc j th be ca f A M E FA ∧ PI gE gp' gc th be f FA M tn fn rkk ∧ PCm gE gp' ca ce ∧ 2 * ce ≤ j ∧ (∀ p, p < L → gIA gE 5 p = gIA gt 0 p) ∧ Fr [15] gE g1 ∧ Fr [5] gc gc1 ∧ Cg 0 0 0 g1 gS gc1 g' gS' gc' ∧ (∀ i, i < th → srt i ≤ 7 ∧ gIA gp' 7 i = nI (srt i) ∧ gIA gE 38 i = nI (srt i)) ∧ (∀ x, x < f → FS g' gp' gc' srt (min th (rtk gc 15 x)) ca x (FA x) (FA (x + 1))) ∧ (∀ k', k' < th + be → tn (k' + 1) = tn k' + 1 → gIA g' 46 (tn k') = gIA gc' 17 (fn k') ∧ (fn (k' + 1) = fn k' + 2 → gIA g' 47 (tn k') = gIA gc' 17 (fn k' + 1)))
theorem plan_read {n hQ hP L : Nat} {g2 gt g gr gs gN gS gp gc : Gs} {B : Nat → Nat} {aP : Nat → Nat} (hn : 20000 ≤ n) (hTb : Tb g2) (hL : L ≤ 3000) (h4 : gI g 4 = nI L) (hb : ∀ p, p < L → byt (gIA g 3 p)) (hB : ∀ p, p < L → B p < 256 ∧ gIA g 3 p &&& 255 = nI (B p)) (h7 : ∀ k, k < 26 → gLA g 7 k = lN (Wl.getD k 0)) (hE : ∀ p, p < L → gIA g 3 p = gIA gt 0 p) (haP : aP 0 = hP) (hRd : RdOk n) (h59 : gI g 59 = 0) :
    ∃ c g' gr' gs' gN' gS' gp' gc', f_X5_readPlan n hQ aP gr gt gs g2 gN gS gp gc (nI L) = some (c, gr', gs', gN', gS', gp', gc') ∧ Fr planX g g' ∧ (gI g' 4 = 0 ∧ gI g' 59 = 0) ∧ Lw g g' ∧ Fr rdB gr gr' ∧ Fr scB gs gs' ∧ Fr [1] gN gN' ∧ Fr [0, 1] gS gS' ∧ Fr plA gp gp' ∧ Fr cfB gc gc' ∧
      (((c = 1 ∨ c = 2 ∨ c = 3 ∨ c = 4) ∧ f_X12_plan n g = some (-1 - gI gr' 17, g') ∧ gI g' 21 = c) ∨
       (c = 0 ∧ f_X12_plan n g = bnd (f_X12_settle n g') (fun q => some (gI q 60, q)) ∧ gI g' 21 = 0 ∧ PE n hQ hP L g2 gt B g' gp' gc')) := by
  obtain ⟨T, g1, gp1, gc1, gr1, gs1, a1, a2, a3, a4, a5, a6, a7, a8, a9, a10, a11, a12, a13⟩ := plan_first (hQ := hQ) (hP := hP) (gr := gr) (gs := gs) (gp := gp) (gc := gc) hn hTb hL h4 hb hB h7 hE
  have hbt : ∀ q, q < L → byt (gIA gt 0 q) := fun q hq => by rw [← hE q hq]; exact hb q hq
  have fB : Fr [33, 34, 35, 36] g1 (sI (sI (sI (sI g1 33 0) 34 0) 35 0) 36 0) := (((Fr.sI (by decide) _ _).trans (Fr.sI (by decide) _ _)).trans (Fr.sI (by decide) _ _)).trans (Fr.sI (by decide) _ _)
  obtain ⟨b, gE', v3, gr2, gs2, gp2, gc2, rec, r1, r2, r3, r4, r5, r6, r7, r8⟩ := reads_loop (gN := gN) (gS := gS) (aP := aP) hn hbt haP (L + 2) n n 0 _ gr1 gs1 gp1 gc1 0 0 0 0 (by omega) (by omega) (by omega) (Nat.le_refl _) a13
  have eR : f_X12_reads n g1 = some (b, gE') := r1
  have hm0 : gI g1 19 = 2000 ∧ gI g1 24 = 0 ∧ gI g1 23 = -1 ∧ gI g1 27 = 0 ∧ gI g1 21 = 0 := by
    have e : f_X12_begins n g = some g1 := a1
    unfold f_X12_begins at e
    cases hs : f_X12_scan n g with
    | none => rw [hs] at e; exact absurd e (by intro z; cases z)
    | some q =>
      rw [hs, bnd_s rfl] at e
      have e := Option.some.inj e
      rw [← e]
      exact ⟨rfl, rfl, rfl, rfl, rfl⟩
  obtain ⟨lw, hR1⟩ := hRd g1 b gE' hm0.1 hm0.2.1 hm0.2.2.1 hm0.2.2.2.1 hm0.2.2.2.2 eR
  have lw1 : Lw g g1 := Lw.of a7 (by decide) (fun q _ => by rw [(a7 15 (by decide)).2.2.2.1]) (fun q _ => by rw [(a7 16 (by decide)).2.2.2.1])
  have lwE := lw1.trans lw
  have fgE : Fr planX g gE' := ((a7.mono (by decide)).trans (fB.mono (by decide))).trans (r3.mono (by decide))
  have e4 : gI gE' 4 = 0 := by rw [(r3 4 (by decide)).1]; exact a8
  have e59 : gI gE' 59 = 0 := by
    rw [(r3 59 (by decide)).1]
    show gI g1 59 = 0
    rw [(a7 59 (by decide)).1]; exact h59
  have frd : Fr rdB gr gr2 := (a11.mono (by decide)).trans (r4.mono (by decide))
  have fsc : Fr scB gs gs2 := (a12.mono (by decide)).trans (r5.mono (by decide))
  have fpl : Fr plA gp gp2 := (a9.mono (by decide)).trans r6
  have fcf : Fr cfB gc gc2 := (a10.mono (by decide)).trans (r7.mono (by decide))
  have eC : f_X5_readPlan n hQ aP gr gt gs g2 gN gS gp gc (nI L) = b_X5_readPlan_133 n hQ aP rec gr2 gt gs2 g2 gN gS gp2 gc2 v3 := by
    unfold f_X5_readPlan
    rw [bnd_s a2, haP, bnd_s a3, bnd_s a4]
    exact r2
  rw [eC]
  have ePl : f_X12_plan n g = bnd (some (b, gE')) (fun q_3 => if q_3.1 = 0 then (some ((-1 : Int32) - (gI q_3.2 22), q_3.2)) else (bnd (f_X12_means n q_3.2) (fun q_5 => if q_5.1 = 0 then (some ((-1 : Int32) - (gI q_5.2 22), q_5.2)) else (bnd (f_X12_judges n q_5.2) (fun q_7 => if q_7.1 = 0 then (some ((-1 : Int32) - (gI q_7.2 22), q_7.2)) else (bnd (f_X12_settle n q_7.2) (fun q_9 => some (gI q_9 60, q_9)))))))) := by
    unfold f_X12_plan
    rw [bnd_s a1, eR]
  rw [ePl, bnd_s rfl]
  have z1 : ¬ (1 : Int32) = 0 := by decide
  rcases r8 with ⟨rfl, rfl, w1, w2⟩ | ⟨rfl, gM, j', th, be, ca, hMP, hend, fM, hw⟩
  · refine ⟨1, gE', sI gr2 17 (gI gs2 5), gs2, gN, gS, gp2, gc2, ?_, fgE, ⟨e4, e59⟩, lwE, frd.trans (Fr.sI (by decide) _ _), fsc, Fr.refl _ _, Fr.refl _ _, fpl, fcf, .inl ⟨.inl rfl, ?_, w1⟩⟩
    · unfold b_X5_readPlan_133
      rw [if_pos rfl]; rfl
    · show (if (0 : Int32) = 0 then some (-1 - gI gE' 22, gE') else _) = _
      rw [if_pos rfl, w2]; rfl
  · obtain ⟨N, A, M, f, ce, E, hM, hcn, hgp, hby, hop⟩ := hMP
    obtain ⟨M1, M2, M3, ⟨M4, M5⟩, ⟨M6, M7⟩, M8, M9, M10, M11⟩ := id hM
    rcases hw with ⟨rfl, rfl, w23⟩ | ⟨rfl, w23, rfl⟩
    · -- all is read
      have h16 : gI gr2 16 = -1 := by rw [← M6]; exact w23
      have h10 : gI gc2 10 = 0 := M8.mp h16
      obtain ⟨hc, FA, tn, fn, rkk, hPN, hPI, hPC⟩ := hop h10
      have hgp' : gI gp2 4 = nI th ∧ gI gp2 5 = nI be ∧ gI gp2 6 = nI ca := by
        rw [Nat.min_eq_left hc.1] at hgp
        rw [Nat.min_eq_left hc.2.1, Nat.min_eq_left hc.2.2.1] at hgp
        exact hgp
      have hN := (M11 h10).1
      have hTE : ∀ p, p < L → gIA gE' 5 p = gIA gt 0 p := fun p hp => by
        rw [(r3 5 (by decide)).2.2.2.1]; exact a6 p hp
      obtain ⟨b1, gA, v1, gN', gcA, x1, x2, x3, x4, x5, x6, x7⟩ := plan_judged (gN := gN) (ce := ce) hn hTE hM ⟨hcn.1, hcn.2.1, hcn.2.2.1⟩ hgp' h10 ⟨hc.1, hc.2.1, hc.2.2.1⟩ hPN hPI (Nat.le_trans ((hR1 rfl).2 A N (by omega) (by omega) M2.2.2.2.1 M2.2.2.1) hN)
      have eB : b_X5_readPlan_133 n hQ aP rec gr2 gt gs2 g2 gN gS gp2 gc2 1 = b_X5_readPlan_171 n hQ aP rec gr2 gt gs2 g2 gN' gS gp2 gcA v1 := by
        unfold b_X5_readPlan_133
        rw [if_neg z1, if_pos h16, bnd_s x2]
      have lwA : Lw gE' gA := Lw.of x3 (by decide) x4 (fun q _ => by rw [(x3 16 (by decide)).2.2.2.1])
      have e4A : gI gA 4 = 0 := by rw [(x3 4 (by decide)).1]; exact e4
      have e59A : gI gA 59 = 0 := by rw [(x3 59 (by decide)).1]; exact e59
      have fgA : Fr planX g gA := fgE.trans (x3.mono (by decide))
      have fcA : Fr cfB gc gcA := fcf.trans (x5.mono (by decide))
      rw [eB, if_neg (show ¬ ((1 : Int32), gE').1 = 0 from z1), bnd_s x1]
      rcases x7 with ⟨rfl, y1, x, y2, rfl, y3⟩ | ⟨rfl, rfl, y1, y2⟩
      · refine ⟨3, gA, sI gr2 17 (nI x), gs2, gN', gS, gp2, gcA, ?_, fgA, ⟨e4A, e59A⟩, lwE.trans lwA, frd.trans (Fr.sI (by decide) _ _), fsc, x6, Fr.refl _ _, fpl, fcA, .inl ⟨.inr (.inr (.inl rfl)), ?_, y1⟩⟩
        · unfold b_X5_readPlan_171 f_X5_settle
          rw [if_pos h16, if_neg (nI_ne_m1 y2)]; rfl
        · show (if (0 : Int32) = 0 then some (-1 - gI gA 22, gA) else _) = _
          rw [if_pos rfl, y3]; rfl
      · have eS : b_X5_readPlan_171 n hQ aP rec gr2 gt gs2 g2 gN' gS gp2 gcA (-1) = bnd (f_X8_firstFault n gS gp2 gcA) (fun q_3 => if q_3.1 = (-1 : Int32) then some ((0 : Int32), gr2, gs2, gN', q_3.2.1, gp2, q_3.2.2) else some (4, sI gr2 17 q_3.1, gs2, gN', q_3.2.1, gp2, q_3.2.2)) := by
          unfold b_X5_readPlan_171 f_X5_settle
          rw [if_pos h16, if_pos rfl, grd_t (show rEq (gR gr2 14) hQ = true from decide_eq_true M4), haP, grd_t (show rEq (gR gr2 15) hP = true from decide_eq_true M5)]
          cases f_X8_firstFault n gS gp2 gcA with
          | none => rfl
          | some q =>
            show bnd (if q.1 = -1 then _ else _) _ = (if q.1 = -1 then _ else _)
            by_cases c : q.1 = -1
            · rw [if_pos c, if_pos c]; rfl
            · rw [if_neg c, if_neg c]; rfl
        rw [eS]
        show ∃ c g' gr' gs' gN' gS' gp' gc', _ ∧ _ ∧ _ ∧ _ ∧ _ ∧ _ ∧ _ ∧ _ ∧ _ ∧ _ ∧ ((_ ∧ (if (1 : Int32) = 0 then _ else bnd (f_X12_judges n gA) _) = _ ∧ _) ∨ (_ ∧ (if (1 : Int32) = 0 then _ else bnd (f_X12_judges n gA) _) = _ ∧ _))
        rw [if_neg z1]
        rcases y2 gS with ⟨x, gJ, gS', gcJ, u1, u2, u3, u4, u5, u6, u7, u8, u9⟩ | ⟨gJ, gS', gcJ, srt, u1, u2, u3, u4, u5, u6⟩
        · have lwJ : Lw gA gJ := Lw.of u6 (by decide) (fun q _ => by rw [(u6 15 (by decide)).2.2.2.1]) u7
          rw [bnd_s u2, bnd_s u3, if_neg (nI_ne_m1 u1)]
          refine ⟨4, gJ, sI gr2 17 (nI x), gs2, gN', gS', gp2, gcJ, rfl, fgA.trans (u6.mono (by decide)), ⟨by rw [(u6 4 (by decide)).1]; exact e4A, judges_59 n _ _ _ _ _ u2⟩, (lwE.trans lwA).trans lwJ, frd.trans (Fr.sI (by decide) _ _), fsc, x6, u8, fpl, fcA.trans (u9.mono (by decide)), .inl ⟨.inr (.inr (.inr rfl)), ?_, u4⟩⟩
          show (if (0 : Int32) = 0 then some (-1 - gI gJ 22, gJ) else _) = _
          rw [if_pos rfl, u5]; rfl
        · have lwJ : Lw gA gJ := Lw.of u3.1 (by decide) (fun q _ => by rw [(u3.1 15 (by decide)).2.2.2.1]) u3.2.2.2.1
          rw [bnd_s u1, bnd_s u2, if_pos rfl]
          refine ⟨0, gJ, gr2, gs2, gN', gS', gp2, gcJ, rfl, fgA.trans (u3.1.mono (by decide)), ⟨by rw [(u3.1 4 (by decide)).1]; exact e4A, judges_59 n _ _ _ _ _ u1⟩, (lwE.trans lwA).trans lwJ, frd, fsc, x6, u3.2.1, fpl, fcA.trans (u3.2.2.1.mono (by decide)), .inr ⟨rfl, ?_, ?_, ?_⟩⟩
          · show (if (1 : Int32) = 0 then _ else _) = _
            rw [if_neg z1]
          · rw [(u3.1 21 (by decide)).1, (y1 21 (by decide)).1]
            exact (hR1 rfl).1
          · exact ⟨T, gE', gr2, gs2, gc2, gA, gcA, gS, gS', j', th, be, ca, N, A, M, f, ce, E, FA, tn, fn, rkk, srt, hM, hcn, hgp', h10, hc, hPN, hPI, hPC, hby.2.2.2, hTE, y1, x5, u3, u4, u5, u6⟩
    · -- too much
      have h16 : ¬ gI gr2 16 = -1 := fun z => by rw [M6, z] at w23; exact w23 (by decide)
      refine ⟨2, sI (sI gM 21 2) 22 (gI gM 23), sI gr2 17 (gI gr2 16), gs2, gN, gS, gp2, gc2, ?_, fgE, ⟨e4, e59⟩, lwE, frd.trans (Fr.sI (by decide) _ _), fsc, Fr.refl _ _, Fr.refl _ _, fpl, fcf, .inl ⟨.inr (.inl rfl), ?_, rfl⟩⟩
      · unfold b_X5_readPlan_133
        rw [if_neg z1, if_neg h16]
        unfold b_X5_readPlan_171 f_X5_settle
        rw [if_neg h16]; rfl
      · show (if (0 : Int32) = 0 then some (-1 - gI gM 23, _) else _) = _
        rw [if_pos rfl, M6]; rfl
