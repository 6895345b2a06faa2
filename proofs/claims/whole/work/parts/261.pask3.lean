/-! asking: whole texts on both sides -/
theorem cannot_ok {n L T : Nat} {g2 g : Gs} {B : Nat → Nat} {j : Nat} (hS : ScR n g2 L B g T) (hj : j < T) (h20 : gI g 20 = nI j) : f_X12_cannot g = some (0, sI (sI g 21 1) 22 (nI (ta g j))) := by
  have hT := hS.2.2.1
  unfold f_X12_cannot
  rw [h20, grd_t (inB_nI (by omega) (by decide)), nI_clamp (by omega), (hS.tok hj).2.1]
  rfl
abbrev askX : List Nat := [0, 1, 2, 4, 5, 6, 8, 9, 10, 11, 12, 13, 14, 15, 16, 17, 18, 19, 20, 21, 22, 23, 24, 25, 26, 27, 28, 29, 30, 31, 32, 57, 58]
theorem asks_both {n hQ hP L th be ca : Nat} {g2 gt g gr gs gN gS gp gq gc : Gs} {B : Nat → Nat} {srt : Nat → Nat} (hn : 20000 ≤ n) (hTb : Tb g2) (hL : L ≤ 3000) (h4 : gI g 4 = nI L) (hb : ∀ p, p < L → byt (gIA g 3 p)) (hB : ∀ p, p < L → B p < 256 ∧ gIA g 3 p &&& 255 = nI (B p)) (h7 : ∀ k, k < 26 → gLA g 7 k = lN (Wl.getD k 0)) (hE : ∀ p, p < L → gIA g 3 p = gIA gt 0 p) (h59 : gI g 59 = 0) (hpl : PlR g gp gq srt th be ca) (hnm : NmR g gp th be ca) :
    ∃ c g' gr' gs' gN' gS' gc', f_X5_readAsked n hQ hP gr gt gs g2 gN gS gp gc (nI L) = some (c, gr', gs', gN', gS', gc') ∧ Fr askX g g' ∧ gI g' 4 = 0 ∧ Lw g g' ∧ Fr rdB gr gr' ∧ Fr scB gs gs' ∧ Fr [1] gN gN' ∧ Fr [0, 1] gS gS' ∧ Fr cfB gc gc' ∧
      (((c = 1 ∨ c = 2 ∨ c = 3 ∨ c = 4) ∧ f_X12_asks n g = some (-1, g') ∧ gI g' 21 = c ∧ gI g' 22 = gI gr' 17) ∨
       (c = 0 ∧ gI g' 21 = 0 ∧ ∃ A t d m, A ≤ 840 ∧ t ≤ 7 ∧ d ≤ 400 ∧ f_X12_asks n g = some (nI t, g') ∧ gI g' 19 = nI (2000 + A) ∧ f_X0_beginOf gc' (nI 0) = some (nI 0) ∧ f_X0_endOf gc' (nI 0) = some (nI A) ∧ gIA gc' 17 0 = nI t ∧ Ex g' gc' 2000 srt th ca m 0 A t d)) := by
  obtain ⟨T, g1, gc1, gr1, gs1, a1, a2, a3, a4, a5, a6, a7, ⟨a8, a9, a10⟩, a11, a12, a13, hM0, hP0⟩ := ask_first (hQ := hQ) (hP := hP) (gr := gr) (gs := gs) (gp := gp) (gc := gc) hn hTb hL h4 hb hB h7 hE
  have hi : Iq (sI g1 26 0) (sI g1 26 0) 0 := ⟨fun _ _ => ⟨rfl, rfl, rfl, rfl, rfl⟩, a10, 0, by omega, a8, a9⟩
  obtain ⟨b, g', f1, f2⟩ := form_step (-1) (nI 0) (nI 40) (nI 8) hn hM0 (fun _ => by omega)
  obtain ⟨lw0, iq⟩ := sq_ff n _ 0 _ hi b g' f1
  have lw1 : Lw g (sI g1 26 0) := by
    have : Fr [0, 1, 2, 4, 5, 6, 8, 9, 10, 11, 12, 13, 19, 20, 21, 23, 24, 25, 26, 27] g (sI g1 26 0) := (a6.mono (by decide)).trans (Fr.sI (by decide) _ _)
    exact (show Lw g g from fun _ _ => ⟨rfl, rfl, rfl, rfl, rfl⟩).fr this (by decide)
  have lw := lw1.trans lw0
  have eR : f_X12_asks n g = (if b = 0 then some ((-1 : Int32), g') else grd (inB (gI g' 20) 3001) (if (gIA g' 9 (gI g' 20).toNatClampNeg) = 0 then (if (gI g' 23) < 0 then ((L_X12_asks n n) g' (0 : Int32)) else (bnd (f_X12_fault g' (2 : Int32) (gI g' 23)) (fun q_21 => some ((-1 : Int32), q_21.2)))) else (bnd (f_X12_cannot g') (fun q_23 => some ((-1 : Int32), q_23.2))))) := by
    unfold f_X12_asks
    rw [bnd_s a1, bnd_s f1]
  have z1 : ¬ (1 : Int32) = 0 := by decide
  rcases f2 with ⟨rfl, j', gr', gs', gc', N, A, M, f', mm, E, x1, x2, x3, x4, x5, x6, x7, x8, x9, ⟨x10, x11⟩, x12, x13, x14, x15⟩ | ⟨j', gr', gs', gc', x1, x2, x3, x4, x5, x6, x7, x8⟩
  · -- a formula stands
    obtain ⟨⟨s1, s2, s3⟩, ⟨m20, m25, m24, m19, m27⟩, c1, ⟨d1, d2⟩, ⟨e1, e2⟩, e3, ⟨q1, q2, q3⟩, ⟨r1, r2, r3⟩, o1⟩ := id x2
    have hT := s1.2.2.1
    have fg : Fr askX g g' := ((a6.mono (by decide)).trans (Fr.sI (by decide) _ _)).trans (x4.mono (by decide))
    have g4 : gI g' 4 = 0 := by rw [(x4 4 (by decide)).1]; exact a7
    have frd : Fr rdB gr gr' := (a12.mono (by decide)).trans (x5.mono (by decide))
    have fsc : Fr scB gs gs' := (a13.mono (by decide)).trans (x6.mono (by decide))
    have fcf : Fr cfB gc gc' := (a11.mono (by decide)).trans (x7.mono (by decide))
    have eC : f_X5_readAsked n hQ hP gr gt gs g2 gN gS gp gc (nI L) = (if (gI gs' 4) = 0 then (if (gI gr' 16) = (-1 : Int32) then (bnd (f_X2_firstFaultAsked n gN gt gp gc') (fun q_13 => b_X5_readAsked_76 n hQ hP gr' gt gs' g2 q_13.2.1 gS gp q_13.2.2 q_13.1)) else (b_X5_readAsked_76 n hQ hP gr' gt gs' g2 gN gS gp gc' (-1 : Int32))) else (b_X5_readAsked_41 n hQ hP gr' gt gs' g2 gN gS gp gc')) := by
      unfold f_X5_readAsked
      rw [bnd_s a2, bnd_s a3, bnd_s a4, bnd_s (show f_X5_readFormula n hP gr1 gt gs1 g2 gc1 (-1) 0 40 8 = _ from x1)]
      show (if (1 : Int32) = 0 then _ else _) = _
      rw [if_neg z1]
    have eEnd : (gI gs' 4 = 0 ↔ tk g' j' = 0) := by
      rw [s2.2.1, ← (kk0 _ (s1.tok s3).2.2.1).1]
      exact nI_eq (b := 0) (by have := kc_lt (s1.tok s3).2.2.1; omega) (by omega)
    have eEnd2 : (gIA g' 9 (gI g' 20).toNatClampNeg = 0 ↔ tk g' j' = 0) := by
      rw [m20, nI_clamp (by omega), (s1.tok s3).1]
      exact nI_eq (b := 0) (by have := (s1.tok s3).2.2.2.1; omega) (by omega)
    rw [eC, eR, if_neg z1, m20, grd_t (inB_nI (by omega) (by decide)), ← m20]
    by_cases hk : tk g' j' = 0
    · rw [if_pos (eEnd.mpr hk), if_pos (eEnd2.mpr hk)]
      by_cases h16 : gI gr' 16 = -1
      · -- names
        have h10 : gI gc' 10 = 0 := e3.mp h16
        obtain ⟨hN, o2, o3⟩ := o1 h10
        obtain ⟨w1, ⟨w2, w3, w4, w5, w6, w7⟩, _⟩ := x15 h10
        have hA : A ≤ 840 := by omega
        have q18 : gI gc' 18 = nI 1 := by rw [q2, w1]
        have wb : f_X0_beginOf gc' (nI 0) = some (nI 0) := begin_of (F := 0) (f := 1) (by omega) (by omega) q18 w2
        have we : f_X0_endOf gc' (nI 0) = some (nI A) := end_of (F := 0) (f := 1) (by omega) (by omega) q18 o2 hA (Nat.le_refl _) w3
        rw [if_pos h16, if_pos (show gI g' 23 < 0 by rw [e1, h16]; decide)]
        have hPN := hP0.form (x := 40) (y := 8) x4 x9 ⟨x10, x11⟩ x3 x12 x13 x14 ⟨w2, w3, w6, w7, 0, by omega, w5⟩ (fun i hi => by omega) ⟨by omega, by omega, .inl ⟨rfl, rfl, rfl⟩⟩
        obtain ⟨⟨n1, n2, n3⟩, _, m1, m2, m3, _⟩ := hPN
        have hF0 : (fun F => if F ≤ 0 then (fun _ => 0 : Nat → Nat) F else A) 0 = 0 := rfl
        have hF1 : (fun F => if F ≤ 0 then (fun _ => 0 : Nat → Nat) F else A) 1 = A := rfl
        have hXR : nTk askX → True := fun _ => trivial
        have fL : ∀ r, Lt g gp r → Lt g' gp r := fun r h => by
          unfold Lt at *
          rw [(fg 66 (by decide)).2.2.2.1, (fg 65 (by decide)).2.2.2.1]; exact h
        have hNUa : ∀ m, m < M → ∃ a, NUa g' E A m a := fun m hm => by
          obtain ⟨y1, y2, y3⟩ := m1 m hm
          rcases y3 with ⟨_, ⟨i, i1, _⟩ | ⟨i, i1, _⟩ | ⟨i, i1, _⟩⟩ | ⟨F, a, x, y, u1, u2, u3, u4, u5, u6, u7, _⟩
          · omega
          · omega
          · omega
          · have eF : F = 0 := by omega
            rw [eF] at u3
            exact ⟨a, u3, u4, u5, u6, u7⟩
        have hAsk : AskN n L T g2 gt g' gp gc' B E th ca A M := by
          refine ⟨s1, fun p hp => ?_, fun i hi => fL i (hnm.1 i (.inl hi)), fun i hi => fL _ (hnm.1 (52 + i) (.inr (.inr ⟨by omega, by omega⟩))), ⟨hpl.1, hnm.2.2.1, by omega, hA, hL⟩, ⟨by rw [(fg 60 (by decide)).1]; exact hpl.2.2.1, by rw [(fg 62 (by decide)).1]; exact hnm.2.2.2.1, m27, hpl.2.2.2.1, hnm.2.2.2.2⟩, ⟨wb, we, w6, w7, q18, w4⟩, fun m hm => ?_, fun m m' y1 y2 => m2 m m' y1 y2, fun a ha ho => ?_, fun a ha => ⟨x14.op a (Nat.zero_le _) ha, c1 a ha, o3 a ha⟩⟩
          · rw [(x4 5 (by decide)).2.2.2.1]; exact a5 p hp
          · obtain ⟨y1, y2, _⟩ := m1 m hm
            obtain ⟨a, ha⟩ := hNUa m hm
            refine ⟨y1, by omega, ?_, a, ha⟩
            rw [← ha.2.2.1]
            exact ((o3 a ha.1).2.2.2.2.1 ha.2.1).2.2
          · obtain ⟨m, y1, y2, y3, y4⟩ := m3 0 a (by omega) (Nat.zero_le _) ha ho
            obtain ⟨z1, z2, _⟩ := m1 m y1
            refine ⟨by omega, ((o3 a ha).2.2.2.2.1 ho).2.2, m, y1, ?_⟩
            obtain ⟨a', ha'⟩ := hNUa m y1
            have : a' = a := by
              have := ha'.1
              have := (nI_eq (by omega) (by omega)).mp (ha'.2.2.2.1.symm.trans y3)
              omega
            rw [this] at ha'
            exact ha'
        obtain ⟨v, gN', gc2, g3, u1, u2, u3, u4, u5, u6⟩ := asked_names hn hAsk gN
        have lw3 : Lw g' g3 := Lw.of u4 (by decide) u5 (fun q _ => by rw [(u4 16 (by decide)).2.2.2.1])
        rcases u6 with ⟨⟨x, y0, y1⟩, y2, y3, y4⟩ | ⟨y1, y2, y3, y4⟩
        · -- a NAME that there is not
          refine ⟨3, g3, sI gr' 17 v, gs', gN', gS, gc2, ?_, fg.trans (u4.mono (by decide)), by rw [(u4 4 (by decide)).1]; exact g4, lw.trans lw3, frd.trans (Fr.sI (by decide) _ _), fsc, u3, Fr.refl _ _, fcf.trans (u2.mono (by decide)), .inl ⟨.inr (.inr (.inl rfl)), y2, y3, y4⟩⟩
          rw [bnd_s u1]
          unfold b_X5_readAsked_76 f_X5_settle
          rw [if_pos h16, if_neg (by rw [y1]; exact nI_ne_m1 y0)]
          rfl
        · -- sorts
          rw [u1, y2]
          have hO : SO g3 gp srt th := by
            refine ⟨hpl.1, fun a ha => ?_⟩
            obtain ⟨t1, t2, _⟩ := hpl.2.2.2.2.2.2.2.2.1 a ha
            have s7 := hpl.srt7 ha
            have := hpl.1
            refine ⟨s7, ⟨t2, sort_of ha hpl.1 hpl.2.2.2.1 t2⟩, ?_⟩
            unfold f_X12_sortOf
            rw [(u4 59 (by decide)).1, (fg 59 (by decide)).1, h59, if_pos rfl, grd_t (inB_nI (by omega) (by decide)), nI_clamp (by omega), (u4 67 (by decide)).2.2.2.1, (fg 67 (by decide)).2.2.2.1, t1]
          have hcn : ecn E 0 A ≤ 500 := by
            rw [ecn_rc c1]
            obtain ⟨_, _, A2, b3, b4, b5⟩ := iq z1
            have eA : 2000 + A2 = 2000 + A := (nI_eq (by omega) (by omega)).mp (b4.symm.trans m19)
            have hr : ∀ A, rcU g' A ≤ A := by
              intro A
              induction A with
              | zero => exact Nat.le_refl _
              | succ A ih => unfold rcU; split <;> omega
            have := hr A2
            have eN := (nI_eq (by omega) (by omega)).mp (b5.symm.trans m24)
            rw [show A = A2 by omega]
            omega
          rcases asked_sorts (gS := gS) (srt := srt) hn hA (by rw [(u4 19 (by decide)).1]; exact m19) x14 hcn (by rw [beginOf_fr u2 (by decide)]; exact wb) (by rw [endOf_fr u2 (by decide)]; exact we) (by rw [(u2 18 (by decide)).1, q2, w1]) (by rw [(u2 13 (by decide)).2.2.2.1]; exact w4) (fun i hi => by
            refine ⟨ta g' (E i).2.1, (gIA g' 10 (E i).2.1).toNatClampNeg_lt, ?_⟩
            rw [(u2 1 (by decide)).2.2.2.1]; exact (o3 i hi).2.1) hO y4 with ⟨x, gJ, gS', gcJ, v1, v2, v3, v4, v5, v6, v7, v8, v9⟩ | ⟨t, d, gJ, gS', gcJ, m, v1, v2, v3, v4, v5, v6, v7, v8, v9, v10⟩
          · have lwJ : Lw g3 gJ := Lw.of v6 (by decide) (fun q _ => by rw [(v6 15 (by decide)).2.2.2.1]) v7
            refine ⟨4, gJ, sI gr' 17 (nI x), gs', gN', gS', gcJ, ?_, (fg.trans (u4.mono (by decide))).trans (v6.mono (by decide)), by rw [(v6 4 (by decide)).1, (u4 4 (by decide)).1]; exact g4, (lw.trans lw3).trans lwJ, frd.trans (Fr.sI (by decide) _ _), fsc, u3, v8, (fcf.trans (u2.mono (by decide))).trans (v9.mono (by decide)), .inl ⟨.inr (.inr (.inr rfl)), v2, v4, v5⟩⟩
            rw [bnd_s rfl]
            unfold b_X5_readAsked_76 f_X5_settle
            rw [if_pos h16, if_pos y1, grd_t (show rEq (gR gr' 14) hQ = true from decide_eq_true d1), grd_t (show rEq (gR gr' 15) hP = true from decide_eq_true d2), bnd_s v3, if_neg (nI_ne_m1 v1)]
            rfl
          · have lwJ : Lw g3 gJ := Lw.of v5 (by decide) (fun q _ => by rw [(v5 15 (by decide)).2.2.2.1]) v6
            refine ⟨0, gJ, gr', gs', gN', gS', gcJ, ?_, (fg.trans (u4.mono (by decide))).trans (v5.mono (by decide)), by rw [(v5 4 (by decide)).1, (u4 4 (by decide)).1]; exact g4, (lw.trans lw3).trans lwJ, frd, fsc, u3, v7, (fcf.trans (u2.mono (by decide))).trans (v8.mono (by decide)), .inr ⟨rfl, ?_, A, t, d, m, hA, v1, v2, v3, ?_, ?_, ?_, v9, v10⟩⟩
            · rw [bnd_s rfl]
              unfold b_X5_readAsked_76 f_X5_settle
              rw [if_pos h16, if_pos y1, grd_t (show rEq (gR gr' 14) hQ = true from decide_eq_true d1), grd_t (show rEq (gR gr' 15) hP = true from decide_eq_true d2), bnd_s v4, if_pos rfl]
              rfl
            · rw [(v5 21 (by decide)).1, (y3 21 (by decide)).1]; exact (iq z1).2.1
            · rw [(v5 19 (by decide)).1, (u4 19 (by decide)).1]; exact m19
            · rw [beginOf_fr v8 (by decide), beginOf_fr u2 (by decide)]; exact wb
            · rw [endOf_fr v8 (by decide), endOf_fr u2 (by decide)]; exact we
      · -- too much
        have h23 : ¬ gI g' 23 < 0 := e2.elim (fun z => absurd (e1.symm.trans z) h16) id
        rw [if_neg h16, if_neg h23]
        refine ⟨2, sI (sI g' 21 2) 22 (gI g' 23), sI gr' 17 (gI gr' 16), gs', gN, gS, gc', ?_, (fg.trans (Fr.sI (by decide) _ _)).trans (Fr.sI (by decide) _ _), g4, lw, frd.trans (Fr.sI (by decide) _ _), fsc, Fr.refl _ _, Fr.refl _ _, fcf, .inl ⟨.inr (.inl rfl), rfl, rfl, e1⟩⟩
        unfold b_X5_readAsked_76 f_X5_settle
        rw [if_neg h16]
        rfl
    · -- more text
      rw [if_neg (fun z => hk (eEnd.mp z)), if_neg (fun z => hk (eEnd2.mp z)), bnd_s (cannot_ok s1 s3 m20)]
      refine ⟨1, sI (sI g' 21 1) 22 (nI (ta g' j')), sI gr' 17 (gI gs' 5), gs', gN, gS, gc', rfl, (fg.trans (Fr.sI (by decide) _ _)).trans (Fr.sI (by decide) _ _), g4, lw, frd.trans (Fr.sI (by decide) _ _), fsc, Fr.refl _ _, Fr.refl _ _, fcf, .inl ⟨.inl rfl, rfl, rfl, ?_⟩⟩
      show nI (ta g' j') = gI gs' 5
      rw [s2.2.2.1]
  · -- refused
    obtain ⟨⟨s1, _, _⟩, _⟩ := hM0
    have hT := s1.2.2.1
    have hX : nTk parA := by decide
    obtain ⟨ek, ea, _, _, _⟩ := tok_same x7 hX
    have fg : Fr askX g g' := ((a6.mono (by decide)).trans (Fr.sI (by decide) _ _)).trans (x7.mono (by decide))
    have g4 : gI g' 4 = 0 := by rw [(x7 4 (by decide)).1]; exact a7
    have frd : Fr rdB gr gr' := (a12.mono (by decide)).trans (x4.mono (by decide))
    have fsc : Fr scB gs gs' := (a13.mono (by decide)).trans (x5.mono (by decide))
    have fcf : Fr cfB gc gc' := (a11.mono (by decide)).trans (x6.mono (by decide))
    have eC : f_X5_readAsked n hQ hP gr gt gs g2 gN gS gp gc (nI L) = some (1, sI gr' 17 (gI gs' 5), gs', gN, gS, gc') := by
      unfold f_X5_readAsked
      rw [bnd_s a2, bnd_s a3, bnd_s a4, bnd_s (show f_X5_readFormula n hP gr1 gt gs1 g2 gc1 (-1) 0 40 8 = _ from x1)]
      rfl
    rw [eC, eR]
    rcases x8 with ⟨rfl, y1, y2⟩ | ⟨rfl, y1, y2⟩
    · refine ⟨1, g', sI gr' 17 (gI gs' 5), gs', gN, gS, gc', rfl, fg, g4, lw, frd.trans (Fr.sI (by decide) _ _), fsc, Fr.refl _ _, Fr.refl _ _, fcf, .inl ⟨.inl rfl, if_pos rfl, y1, ?_⟩⟩
      show gI g' 22 = gI gs' 5
      rw [y2, x3.2.2.1]
    · have hk : ¬ gIA g' 9 (gI g' 20).toNatClampNeg = 0 := fun z => by
        have s1' := s1.base x7 hX
        rw [y1, nI_clamp (by omega), (s1'.tok x2).1] at z
        have z := (nI_eq (b := 0) (by have := (s1'.tok x2).2.2.2.1; omega) (by omega)).mp z
        rw [ek] at z
        rw [z] at y2
        exact y2 rfl
      rw [if_neg z1, if_neg hk, y1, grd_t (inB_nI (by omega) (by decide)), bnd_s (cannot_ok (s1.base x7 hX) x2 y1)]
      refine ⟨1, sI (sI g' 21 1) 22 (nI (ta g' j')), sI gr' 17 (gI gs' 5), gs', gN, gS, gc', rfl, (fg.trans (Fr.sI (by decide) _ _)).trans (Fr.sI (by decide) _ _), g4, lw, frd.trans (Fr.sI (by decide) _ _), fsc, Fr.refl _ _, Fr.refl _ _, fcf, .inl ⟨.inl rfl, rfl, rfl, ?_⟩⟩
      show nI (ta g' j') = gI gs' 5
      rw [x3.2.2.1, ea]
