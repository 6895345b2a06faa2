/-! plans' texts: things from the first word on; bells -/
theorem thing_both {n hQ hP L T : Nat} {g2 gt : Gs} {B : Nat → Nat} {g gr gs gp gc : Gs} {j th be ca p : Nat} (hn : 20000 ≤ n) (hbt : ∀ q, q < L → byt (gIA gt 0 q)) (hM : MP n hQ hP L T g2 gt B g gr gs gp gc j th be ca) (hK : (tk g j = 200 ∧ p = 1) ∨ (tk g j = 201 ∧ p = 0)) : ∃ b g', f_X12_thing n g = some (b, g') ∧ ItOut n hQ hP L T g2 gt B g gr gs gp gc j b g' (f_X5_readThing n hQ hP gr gt gs g2 gp gc (nI p)) := by
  obtain ⟨N, A, M, f, ce, E, hM, hcn, hgp, hby, hopen⟩ := hM
  obtain ⟨⟨s1, s2, s3⟩, ⟨a1, a2, a3, a4, a5⟩, c1, ⟨d1, d2⟩, e1, e2, ⟨q1, q2, q3⟩, ⟨r1, r2, r3⟩, o1⟩ := id hM
  have hL : L ≤ 3000 := s2.1.1
  have hT := s1.2.2.1
  have k3 := (s1.tok s3).2.2.1
  have kc2 : 2 ≤ kc (tk g j) := by rcases hK with ⟨z, _⟩ | ⟨z, _⟩ <;> rw [z] <;> decide
  have hT1 := tok_more s1 s3 kc2
  obtain ⟨gs1, b1, b2, b3⟩ := s2.next s1 hT1
  obtain ⟨v1, v2, v3, v4, v5⟩ := s1.tok hT1
  have e9 : gIA g 9 (j + 1) = nI (tk g (j + 1)) := v1
  have h2 : gI gs1 4 = 2 ↔ tk g (j + 1) = 2 := by
    rw [b2.2.1, ← (kk0 _ v3).2.2.2.2.2.1]
    exact nIx (a := kc (tk g (j + 1))) (b := 2) (by have := kc_lt v3; omega) (by decide)
  have e20 : f_X12_thing n g = b_X12_thing_20 n g (nI p) := by
    unfold f_X12_thing
    rw [a1, grd_t (inB_nI (by omega) (by decide)), nI_clamp (by omega), (s1.tok s3).1]
    rcases hK with ⟨z, rfl⟩ | ⟨z, rfl⟩
    · rw [ifP (c := 200) (b := 200) rfl z]; rfl
    · rw [ifN (c := 200) (b := 200) rfl (by omega) (by decide) (by omega)]; rfl
  have rq : rEq (gR gr 14) hQ = true := decide_eq_true d1
  rw [e20]
  unfold b_X12_thing_20 f_X5_readThing
  rw [bnd_s b1, a1, nI_1, grd_t (inB_nI (by omega) (by decide)), nI_clamp (by omega), e9]
  by_cases hk2 : tk g (j + 1) = 2
  · rw [ifP (c := 2) (b := 2) rfl hk2, if_pos (h2.mpr hk2), grd_t rq, grd_t rq]
    have hT2 := tok_more s1 hT1 (by rw [hk2]; decide)
    have fW : Fr [20, 33] g (sI (sI g 20 (nI (j + 1))) 33 (nI (th + 1))) := (Fr.sI (by decide) _ _).trans (Fr.sI (by decide) _ _)
    obtain ⟨num, W, gr', gs', gp', gc', t1, t2, t3, t4, t5, t6, t7, t8, t9, t10⟩ := tell_both (g1 := sI (sI g 20 (nI (j + 1))) 33 (nI (th + 1))) (gs := gs1) (gp := gp) (c := th) (l := 40) (r0 := 0) s1 b2 hT2 hk2 ⟨d1, d2⟩ (show Tm (sI (sI g 20 (nI (j + 1))) 33 (nI (th + 1))) gr from e1) e2 (fun z => (hopen z).1.1) (by decide) (by decide) hL hbt
    have t2' : f_X5_tell n hQ hP gr gt gs1 g2 gp gc 0 (gI gp 4) 40 = some (num, gr', gs', gp', gc') := by rw [hgp.1]; exact t2
    have fWW : Fr [20, 23, 33] g W := (fW.mono (by decide)).trans (t6.mono (by decide))
    have eW : (if gI g 33 + 1 = (41 : Int32) then bnd (f_X12_much (sI (sI g 20 (nI (j + 1))) 33 (gI g 33 + 1)) (gIA g 10 (j + 1))) (fun q_37 => b_X12_thing_86 n q_37 (nI p) (gI g 33)) else b_X12_thing_86 n (sI (sI g 20 (nI (j + 1))) 33 (gI g 33 + 1)) (nI p) (gI g 33)) = b_X12_thing_86 n W (nI p) (nI th) := by
      rw [hcn.1, nI_1, v2]
      by_cases h40 : th = 40
      · rw [if_pos h40] at t1
        rw [if_pos (show nI (th + 1) = (41 : Int32) by rw [h40]; rfl), bnd_s t1]
      · rw [if_neg h40] at t1
        injection t1 with t1
        rw [if_neg (show ¬ nI (th + 1) = (41 : Int32) from fun z => by have := (nI_eq (b := 41) (by have := (s1.tok s3).2.2.2.2; omega) (by decide)).mp z; omega), t1]
    obtain ⟨b, g', k1, k2⟩ := thing_86 (W := W) (gr' := gr') (gs' := gs') (gp' := gp') (gc' := gc') (num := num) (th := th) (be := be) (ca := ca) (ce := ce) hn hM hcn hgp hby (show p ≤ 1 by omega) (by omega) hT2 hk2 fWW (((t6 20 (by decide)).1).trans rfl) (((t6 33 (by decide)).1).trans rfl) t3 (b3.trans t4) t5 t7 t8 t9 (by
      rcases t10 with ⟨x1, x2, x3, x4, x5, x6⟩ | ⟨x1, x2, x3, x4⟩
      · rw [Nat.zero_add] at x6
        exact .inl ⟨x1, x2, x4, x5, x6⟩
      · exact .inr ⟨x1, x2, x3, x4⟩) hopen
    refine ⟨b, g', ?_, ?_⟩
    · rw [← k1, ← eW]
      by_cases h41 : gI g 33 + 1 = (41 : Int32)
      · rw [if_pos h41, if_pos h41, grd_t (inB_nI (by omega) (by decide))]
      · rw [if_neg h41, if_neg h41]
    · rw [bnd_s t2']
      exact k2
  · rw [ifN (c := 2) (b := 2) rfl v4 (by decide) hk2, if_neg (fun z => hk2 (h2.mp z))]
    have fz : Fr [20] g (sI g 20 (nI (j + 1))) := Fr.sI (by decide) _ _
    rw [bnd_s (cannot12 (G := sI g 20 (nI (j + 1))) (j := j + 1) (s1.base fz (by decide)) (Fr.refl _ _) rfl hT1)]
    exact ⟨0, _, rfl, .inr ⟨rfl, RfI.of (fz.mono (by decide)) hT1 (b2.base fz (by decide)) (Fr.refl _ _) b3 (Fr.refl _ _) (Fr.refl _ _)⟩⟩
/-- the class notes a bell -/
def recB (gp : Gs) (q b : Nat) (v : Int32) : Gs := sI (sIA (sIA gp 11 (upd (gIA gp 11) q (nI (40 + b)))) 10 (upd (gIA gp 10) (40 + b) v)) 5 (nI (b + 1))
theorem recB_fr (gp : Gs) (q b : Nat) (v : Int32) : Fr [5, 10, 11] gp (recB gp q b v) := ((Fr.sIA (by decide) _ _).trans (Fr.sIA (by decide) _ _)).trans (Fr.sI (by decide) _ _)
def beTl (n : Nat) (gT : Gs) (v1 : Int32) : Option (Int32 × Gs) := bnd (ff_X12_formula n (sIA gT 49 (upd (gIA gT 49) v1.toNatClampNeg (gI gT 19)))) (fun q_11 => if q_11.1 = 0 then (some ((0 : Int32), q_11.2)) else (grd (inB v1 400) (bnd (f_X12_need (sIA q_11.2 50 (upd (gIA q_11.2 50) v1.toNatClampNeg (gI q_11.2 19))) (59 : Int32)) (fun q_14 => grd (zB q_14.1) (some (q_14.1, q_14.2))))))
def clBe (n hQ hP : Nat) (gr gt gs g2 gp gc : Gs) (s0 sg : Int32) : Option (Int32 × Gs × Gs × Gs × Gs) := bnd (f_X5_readFormula n hP gr gt gs g2 gc s0 sg (40 : Int32) (8 : Int32)) (fun q_9 => if q_9.1 = 0 then (some ((0 : Int32), q_9.2.1, q_9.2.2.1, gp, q_9.2.2.2)) else (if s0 = (-1 : Int32) then (b_X5_readBell_144 n hQ hP q_9.2.1 gt q_9.2.2.1 g2 gp q_9.2.2.2) else (grd (rEq (gR q_9.2.1 14) hQ) (grd (rEq (gR q_9.2.1 14) hQ) (grd (rEq (gR q_9.2.1 14) hQ) (grd (inB ((gI gp 4) + (gI gp 5)) 52) (grd (rEq (gR q_9.2.1 14) hQ) (grd (inB s0 52) (grd (rEq (gR q_9.2.1 14) hQ) (b_X5_readBell_144 n hQ hP q_9.2.1 gt q_9.2.2.1 g2 (sI (sIA (sIA gp 11 (upd (gIA gp 11) ((gI gp 4) + (gI gp 5)).toNatClampNeg s0)) 10 (upd (gIA gp 10) s0.toNatClampNeg (gI gc 18))) 5 ((gI gp 5) + (1 : Int32))) q_9.2.2.2))))))))))
theorem bell_tail {n hQ hP L T : Nat} {g2 gt : Gs} {B : Nat → Nat} {g gr gs gp gc : Gs} {j N A M f th be ca ce r sg : Nat} {num : Int32} {E : Nat → Nat × Nat × Nat} (hn : 20000 ≤ n) (hsg : sg ≤ 3000) (hM : MR n hQ hP L T g2 gt B g gr gs gc j N A M f E) (h26 : gI g 26 = 0) (hcn : gI g 33 = nI th ∧ gI g 34 = nI (be + 1) ∧ gI g 35 = nI ca ∧ gI g 36 = nI ce) (hgp : gI gp 4 = nI (min th 40) ∧ gI gp 5 = nI (min be 12) ∧ gI gp 6 = nI (min ca 8)) (hby : 8 * th ≤ ta g j ∧ 8 * (be + 1) ≤ ta g j ∧ 8 * ca ≤ ta g j ∧ 2 * ce ≤ j) (hr : r < M) (hnum : (num = nI (40 + be) ∧ be < 12) ∨ (num = -1 ∧ 12 ≤ be ∧ ¬ gI gc 10 = 0)) (hrow : gIA g 52 be = nI r ∧ gIA g 51 be = nI sg)
    (hopen : gI gc 10 = 0 → (th ≤ 40 ∧ be < 12 ∧ ca ≤ 8 ∧ f ≤ 2 * th + be) ∧ ∃ FA tn fn rkk, PN T g gt gp gc j th (be + 1) ca f A M E FA ∧ PI g gp gc th be f FA r tn fn rkk ∧ PCm g gp ca ce) :
    ∃ b g', beTl n g (nI be) = some (b, g') ∧ ItOut n hQ hP L T g2 gt B g gr gs gp gc j b g' (clBe n hQ hP gr gt gs g2 gp gc num (nI sg)) := by
  obtain ⟨⟨s1, s2, s3⟩, ⟨a1, a2, a3, a4, a5⟩, c1, ⟨d1, d2⟩, e1, e2, ⟨q1, q2, q3⟩, ⟨r1, r2, r3⟩, o1⟩ := id hM
  have hL : L ≤ 3000 := s2.1.1
  have hT := s1.2.2.1
  have htL := (s1.tok s3).2.2.2.2
  have hbe : be < 400 := by omega
  have cbe : (nI be).toNatClampNeg = be := nI_clamp (by omega)
  have fg : Fr [49] g (sIA g 49 (upd (gIA g 49) be (nI (2000 + A)))) := Fr.sIA (by decide) _ _
  have hM8 := hM.go fg (by decide) a1 s2 s3 (Nat.le_refl _)
  obtain ⟨b, g', f1, f2⟩ := form_step num (nI sg) (nI 40) (nI 8) hn hM8 (fun z => by have := (hopen z).1; omega)
  unfold beTl clBe
  rw [cbe, a4, bnd_s f1]
  have eta8 := (tok_same fg (by decide)).2.1
  have etk8 := (tok_same fg (by decide)).1
  rcases f2 with ⟨rfl, j', gr', gs', gc', N', A', M', f', mm, E', x1, x2, x3, x4, x5, x6, x7, x8, x9, ⟨x10, x11⟩, x12, x13, x14, x15⟩ | ⟨j', gr', gs', gc', x1, x2, x3, x4, x5, x6, x7, x8⟩
  · rw [bnd_s (show f_X5_readFormula n hP gr gt gs g2 gc num (nI sg) 40 8 = _ from x1), if_neg (show ¬ (1 : Int32) = 0 by decide), if_neg (show ¬ (1 : Int32) = 0 by decide)]
    obtain ⟨⟨S1, S2, S3⟩, ⟨A1, A2, A3, A4, A5⟩, C1, ⟨D1, D2⟩, E1, E2, ⟨Q1, Q2, Q3⟩, ⟨R1, R2, R3⟩, O1⟩ := id x2
    have fgg : Fr parP g g' := (fg.mono (by decide)).trans (x4.mono (by decide))
    have fX : Fr [50] g' (sIA g' 50 (upd (gIA g' 50) be (nI (2000 + A')))) := Fr.sIA (by decide) _ _
    have fgX : Fr parP g (sIA g' 50 (upd (gIA g' 50) be (nI (2000 + A')))) := fgg.trans (fX.mono (by decide))
    have h9 := x2.go fX (by decide) A1 S2 S3 (Nat.le_refl _)
    obtain ⟨⟨H1, H2, H3⟩, ⟨H4, _⟩, _⟩ := id h9
    have eta9 : ta (sIA g' 50 (upd (gIA g' 50) be (nI (2000 + A')))) = ta g := (tok_same fgX (by decide)).2.1
    have mono := ta_mono s1 (show j ≤ j' by omega) S3
    have rq : rEq (gR gr' 14) hQ = true := decide_eq_true D1
    -- the class's plan with the bell
    have hcl : ∃ gp', (if num = (-1 : Int32) then (b_X5_readBell_144 n hQ hP gr' gt gs' g2 gp gc') else (grd (rEq (gR gr' 14) hQ) (grd (rEq (gR gr' 14) hQ) (grd (rEq (gR gr' 14) hQ) (grd (inB ((gI gp 4) + (gI gp 5)) 52) (grd (rEq (gR gr' 14) hQ) (grd (inB num 52) (grd (rEq (gR gr' 14) hQ) (b_X5_readBell_144 n hQ hP gr' gt gs' g2 (sI (sIA (sIA gp 11 (upd (gIA gp 11) ((gI gp 4) + (gI gp 5)).toNatClampNeg num)) 10 (upd (gIA gp 10) num.toNatClampNeg (gI gc 18))) 5 ((gI gp 5) + (1 : Int32))) gc'))))))))) = b_X5_readBell_144 n hQ hP gr' gt gs' g2 gp' gc' ∧ Fr [5, 10, 11] gp gp' ∧ gI gp' 5 = nI (min (be + 1) 12) ∧ (num = nI (40 + be) → gp' = recB gp (min th 40 + be) be (nI f)) := by
      rcases hnum with ⟨hn, h12⟩ | ⟨hn, h12, _⟩
      · refine ⟨recB gp (min th 40 + be) be (nI f), ?_, recB_fr _ _ _ _, ?_, fun _ => rfl⟩
        · rw [if_neg (by rw [hn]; exact nI_ne_m1 (by omega)), hn, hgp.1, hgp.2.1, Nat.min_eq_left (show be ≤ 12 by omega), nI_add, q2]
          simp only [grd_t rq, grd_t (inB_nI (show min th 40 + be < 52 by omega) (by decide)), grd_t (inB_nI (show 40 + be < 52 by omega) (by decide)), nI_clamp (show min th 40 + be < 2 ^ 31 by omega), nI_clamp (show 40 + be < 2 ^ 31 by omega), nI_1]
          rfl
        · show nI (be + 1) = _; rw [Nat.min_eq_left (by omega)]
      · refine ⟨gp, by rw [if_pos hn], Fr.refl _ _, ?_, fun z => ?_⟩
        · rw [hgp.2.1, Nat.min_eq_right (by omega), Nat.min_eq_right (by omega)]
        · rw [hn] at z; exact absurd z.symm (nI_ne_m1 (by omega))
    obtain ⟨gp', k1, k2, k3, k4⟩ := hcl
    show ∃ b g'', grd (inB (nI be) 400) (bnd (f_X12_need (sIA g' 50 (upd (gIA g' 50) be (gI g' 19))) 59) _) = some (b, g'') ∧ ItOut n hQ hP L T g2 gt B g gr gs gp gc j b g'' (if num = (-1 : Int32) then (b_X5_readBell_144 n hQ hP gr' gt gs' g2 gp gc') else _)
    rw [k1, grd_t (inB_nI hbe (by decide)), A4]
    unfold b_X5_readBell_144
    have nb := need_both (gr := gr') (K := 59) (k := 41) H1 H4 H2 H3 (by decide) (by decide) kk59
    rcases nb with ⟨n1, n2, n3, gs2, n4, n5, n6⟩ | ⟨n1, n2, n3⟩
    · have fZ : Fr [20] (sIA g' 50 (upd (gIA g' 50) be (nI (2000 + A')))) (sI (sIA g' 50 (upd (gIA g' 50) be (nI (2000 + A')))) 20 (nI (j' + 1))) := Fr.sI (by decide) _ _
      have fgZ : Fr parP g (sI (sIA g' 50 (upd (gIA g' 50) be (nI (2000 + A')))) 20 (nI (j' + 1))) := fgX.trans (fZ.mono (by decide))
      have etaZ := (tok_same fgZ (by decide)).2.1
      have mono2 := ta_mono s1 (show j ≤ j' + 1 by omega) n2
      have hMZ := h9.go fZ (by decide) rfl n5 n2 (by omega)
      have kZ : ∀ k, k ∉ parA → k ≠ 49 → k ≠ 50 → gIA (sI (sIA g' 50 (upd (gIA g' 50) be (nI (2000 + A')))) 20 (nI (j' + 1))) k = gIA g k ∧ gI (sI (sIA g' 50 (upd (gIA g' 50) be (nI (2000 + A')))) 20 (nI (j' + 1))) k = gI g k := fun k hk h1 h2 => by
        have y1 := fZ k (fun z => hk (by have : k = 20 := by simpa using z
                                         rw [this]; decide))
        have y2 := fX k (by simp; omega)
        have y3 := x4 k hk
        have y4 := fg k (by simp; omega)
        exact ⟨y1.2.2.2.1.trans (y2.2.2.2.1.trans (y3.2.2.2.1.trans y4.2.2.2.1)), y1.1.trans (y2.1.trans (y3.1.trans y4.1))⟩
      have z49 : gIA (sI (sIA g' 50 (upd (gIA g' 50) be (nI (2000 + A')))) 20 (nI (j' + 1))) 49 = upd (gIA g 49) be (nI (2000 + A)) := (x4 49 (by decide)).2.2.2.1
      have z50 : gIA (sI (sIA g' 50 (upd (gIA g' 50) be (nI (2000 + A')))) 20 (nI (j' + 1))) 50 = upd (gIA g 50) be (nI (2000 + A')) := by
        show upd (gIA g' 50) be _ = _; rw [(x4 50 (by decide)).2.2.2.1]; rfl
      refine ⟨1, sI (sIA g' 50 (upd (gIA g' 50) be (nI (2000 + A')))) 20 (nI (j' + 1)), ?_, .inl ⟨rfl, j' + 1, gr', gs2, gp', gc', th, be + 1, ca, ?_, ⟨N', A', M', f', ce, E', hMZ, ⟨by rw [(kZ 33 (by decide) (by decide) (by decide)).2]; exact hcn.1, by rw [(kZ 34 (by decide) (by decide) (by decide)).2]; exact hcn.2.1, by rw [(kZ 35 (by decide) (by decide) (by decide)).2]; exact hcn.2.2.1, by rw [(kZ 36 (by decide) (by decide) (by decide)).2]; exact hcn.2.2.2⟩, ⟨by rw [(k2 4 (by decide)).1]; exact hgp.1, k3, by rw [(k2 6 (by decide)).1]; exact hgp.2.2⟩, by rw [etaZ]; omega, fun z => ?_⟩, by omega, fgZ, x5, x6.trans n6, k2.mono (by decide), x7⟩⟩
      · rw [bnd_s (show f_X12_need (sIA g' 50 (upd (gIA g' 50) be (nI (2000 + A')))) 59 = _ from n3)]; rfl
      · rw [bnd_s (show f_X5_expect n gr' gt gs' g2 41 = _ from n4)]; rfl
      · obtain ⟨⟨y1, y2, y3, y4⟩, FA, tn, fn, rkk, P1, P2, P3⟩ := hopen (x8 z)
        obtain ⟨w1, ⟨w2, w3, w4, w5, w6, w7⟩, w8⟩ := x15 z
        have hnum' : num = nI (40 + be) := by
          rcases hnum with ⟨h, _⟩ | ⟨_, h, _⟩
          · exact h
          · omega
        have hgp' := k4 hnum'
        rw [Nat.min_eq_left y1] at hgp'
        have hPN8 := P1.same fg (by decide) (Fr.refl [] gp) (by decide) (Fr.refl [] gc) (by decide) (Nat.le_refl j)
        have hPN := hPN8.form (x := 40) (y := 8) x4 x9 ⟨x10, x11⟩ x3 x12 x13 x14 ⟨w2, w3, w6, w7, sg, hsg, w5⟩ (fun i hi => ⟨(w8 i hi).1, (w8 i hi).2.1, (w8 i hi).2.2.2.2.1, (w8 i hi).2.2.2.2.2, (w8 i hi).2.2.2.1⟩) ⟨by omega, by omega, .inl ⟨h26, rfl, rfl⟩⟩
        have fXZ : Fr [20, 50] g' (sI (sIA g' 50 (upd (gIA g' 50) be (nI (2000 + A')))) 20 (nI (j' + 1))) := (fX.mono (by decide)).trans (fZ.mono (by decide))
        have hPNZ := hPN.same fXZ (by decide) k2 (by decide) (Fr.refl [] gc') (by decide) (show j' ≤ j' + 1 by omega)
        have hFA : ∀ F, F ≤ f → (if F ≤ f then FA F else A') = FA F := fun F hF => if_pos hF
        refine ⟨⟨y1, by omega, y3, by omega⟩, _, _, _, _, by rw [w1]; exact hPNZ, PI.more (r := r) (f' := f') (M' := M') (th' := th) (be' := be + 1) P2 ⟨Nat.le_refl _, by omega⟩ (by omega) hFA (fun s s1 s2 i hi => ?_) (fun s s1 s2 i hi => ?_) (fun s s1 s2 i hi => ?_) (fun b hb => ?_) (fun k hk => ?_) (fun F hF => ⟨(w8 F hF).2.2.1, (w8 F hF).2.2.2.1, (w8 F hF).2.2.2.2.1⟩) (.inr ⟨rfl, rfl, ?_⟩), fun c hc => ?_⟩
        · have hq : s ∉ parA ∧ s ≠ 49 ∧ s ≠ 50 := by
            have : s = 38 ∨ s = 39 ∨ s = 40 ∨ s = 41 ∨ s = 42 ∨ s = 43 ∨ s = 44 ∨ s = 45 := by omega
            rcases this with rfl | rfl | rfl | rfl | rfl | rfl | rfl | rfl <;> decide
          rw [(kZ s hq.1 hq.2.1 hq.2.2).1]
        · have hq : s = 49 ∨ s = 50 ∨ (s ∉ parA ∧ s ≠ 49 ∧ s ≠ 50) := by
            have : s = 49 ∨ s = 50 ∨ s = 51 ∨ s = 52 := by omega
            rcases this with rfl | rfl | rfl | rfl <;> decide
          rcases hq with rfl | rfl | hq
          · rw [z49, pk_un (by omega)]
          · rw [z50, pk_un (by omega)]
          · rw [(kZ s hq.1 hq.2.1 hq.2.2).1]
        · rw [hgp']
          have : s = 7 ∨ s = 8 ∨ s = 9 ∨ s = 10 := by omega
          rcases this with rfl | rfl | rfl | rfl
          · rfl
          · rfl
          · rfl
          · show upd _ (40 + be) _ i = _; rw [pk_un (by omega)]
        · rw [hgp']; show upd _ (40 + be) _ (40 + b) = _; rw [pk_un (by omega)]
        · rw [hgp']; show upd _ (th + be) _ k = _; rw [pk_un (by omega)]
        · have hfQ : (if th + be ≤ th + be then fn (th + be) else f') = f := by rw [if_pos (Nat.le_refl _)]; exact P2.1.2.2.2
          have hfQ1 : (if th + be + 1 ≤ th + be then fn (th + be + 1) else f') = f' := if_neg (by omega)
          have hA : FA f = A := P1.1.2.1
          unfold ItB
          show gIA gp' 11 (th + be) = nI (40 + be) ∧ gIA gp' 10 (40 + be) = nI (if th + be ≤ th + be then fn (th + be) else f') ∧ (if th + be + 1 ≤ th + be then fn (th + be + 1) else f') = (if th + be ≤ th + be then fn (th + be) else f') + 1 ∧ gIA (sI (sIA g' 50 (upd (gIA g' 50) be (nI (2000 + A')))) 20 (nI (j' + 1))) 49 be = nI (2000 + (if (if th + be ≤ th + be then fn (th + be) else f') ≤ f then FA (if th + be ≤ th + be then fn (th + be) else f') else A')) ∧ gIA (sI (sIA g' 50 (upd (gIA g' 50) be (nI (2000 + A')))) 20 (nI (j' + 1))) 50 be = nI (2000 + (if (if th + be ≤ th + be then fn (th + be) else f') + 1 ≤ f then FA ((if th + be ≤ th + be then fn (th + be) else f') + 1) else A')) ∧ gIA (sI (sIA g' 50 (upd (gIA g' 50) be (nI (2000 + A')))) 20 (nI (j' + 1))) 52 be = nI r ∧ gIA gc' 13 (if th + be ≤ th + be then fn (th + be) else f') = nI (40 + be) ∧ gIA gc' 14 (if th + be ≤ th + be then fn (th + be) else f') = gIA (sI (sIA g' 50 (upd (gIA g' 50) be (nI (2000 + A')))) 20 (nI (j' + 1))) 51 be
          rw [hfQ, hfQ1, z49, z50, pk_us, pk_us, hgp', if_pos (Nat.le_refl _), if_neg (show ¬ f + 1 ≤ f by omega), hA, (kZ 52 (by decide) (by decide) (by decide)).1, (kZ 51 (by decide) (by decide) (by decide)).1]
          refine ⟨?_, ?_, w1, rfl, rfl, hrow.1, by rw [w4]; exact hnum', by rw [w5]; exact hrow.2.symm⟩
          · show upd _ (th + be) _ (th + be) = _; rw [pk_us]
          · show upd _ (40 + be) _ (40 + be) = _; rw [pk_us]
        · obtain ⟨m, a, z1, z2, z3, z4, z5, z6⟩ := P3 c hc
          have l56 : gLA (sI (sIA g' 50 (upd (gIA g' 50) be (nI (2000 + A')))) 20 (nI (j' + 1))) 56 = gLA g 56 := (x4 56 (by decide)).2.2.2.2.1
          exact ⟨m, a, by rw [(kZ 54 (by decide) (by decide) (by decide)).1]; exact z1, z2, by rw [(kZ 55 (by decide) (by decide) (by decide)).1]; exact z3, by rw [(k2 13 (by decide)).2.2.2.1]; exact z4, z5, fun k hk => by rw [l56, (k2 12 (by decide)).2.2.2.2.2.1]; exact z6 k hk⟩
    · rw [bnd_s (show f_X12_need (sIA g' 50 (upd (gIA g' 50) be (nI (2000 + A')))) 59 = _ from n2), bnd_s (show f_X5_expect n gr' gt gs' g2 41 = _ from n3)]
      exact ⟨0, _, rfl, .inr ⟨rfl, RfI.of fgX H3 H2 x5 x6 (k2.mono (by decide)) x7⟩⟩
  · rw [bnd_s (show f_X5_readFormula n hP gr gt gs g2 gc num (nI sg) 40 8 = _ from x1)]
    have fgg : Fr parP g g' := (fg.mono (by decide)).trans (x7.mono (by decide))
    rcases x8 with ⟨rfl, x9, x10⟩ | ⟨rfl, x9, x10⟩
    · refine ⟨0, g', rfl, .inr ⟨rfl, j', gr', gs', gp, gc', rfl, x9, by rw [x10, eta8], ?_, x2, fgg, x4, x5, Fr.refl _ _, x6⟩⟩
      obtain ⟨e1, e2, e3, e4, e5⟩ := tok_same fg (by decide)
      unfold TokAt at *
      rw [← e1, ← e2, ← e3, ← e4, ← e5]; exact x3
    · have fX : Fr parP g (sIA g' 50 (upd (gIA g' 50) be (gI g' 19))) := fgg.trans (Fr.sIA (by decide) _ _)
      have tX : TokAt L B (sIA g' 50 (upd (gIA g' 50) be (gI g' 19))) gt j' gs' := x3.base ((x7.mono (B := 50 :: parA) (by decide)).trans (Fr.sIA (by decide) _ _)) (by decide)
      have etk : tk (sIA g' 50 (upd (gIA g' 50) be (gI g' 19))) = tk (sIA g 49 (upd (gIA g 49) be (nI (2000 + A)))) := (tok_same fX (by decide)).1.trans etk8.symm
      have dn := doom_need (gX := sIA g' 50 (upd (gIA g' 50) be (gI g' 19))) (K := 59) (s1.base fX (by decide)) (show gI g' 20 = nI j' from x9) x2 (by rw [etk]; exact x10) (.inl rfl)
      rw [if_neg (show ¬ (1 : Int32) = 0 by decide), if_pos (show ((0 : Int32), gr', gs', gc').1 = 0 from rfl), grd_t (inB_nI hbe (by decide)), bnd_s (show f_X12_need (sIA g' 50 (upd (gIA g' 50) be (gI g' 19))) 59 = _ from dn)]
      exact ⟨0, _, rfl, .inr ⟨rfl, RfI.of fX x2 tX x4 x5 (Fr.refl _ _) x6⟩⟩
