/-! plans' texts: the end of a thing -/
theorem RfI.after {L T : Nat} {gt : Gs} {B : Nat → Nat} {g0 gr0 gs0 gp0 gc0 g gr gs gp gc g' : Gs} {cls : Option (Int32 × Gs × Gs × Gs × Gs)} (h : RfI L T gt B g gr gs gp gc g' cls) (hf : Fr parP g0 g) (h1 : Fr rdA gr0 gr) (h2 : Fr scA gs0 gs) (h3 : Fr plA gp0 gp) (h4 : Fr cfA gc0 gc) : RfI L T gt B g0 gr0 gs0 gp0 gc0 g' cls := by
  obtain ⟨j', gr', gs', gp', gc', x1, x2, x3, x4, x5, x6, x7, x8, x9, x10⟩ := h
  obtain ⟨e1, e2, e3, e4, e5⟩ := tok_same hf (by decide)
  refine ⟨j', gr', gs', gp', gc', x1, x2, by rw [← e2]; exact x3, ?_, x5, hf.trans x6, h1.trans x7, h2.trans x8, h3.trans x9, h4.trans x10⟩
  unfold TokAt at *
  rw [← e1, ← e2, ← e3, ← e4, ← e5]
  exact x4
theorem ItOut.after {n hQ hP L T : Nat} {g2 gt : Gs} {B : Nat → Nat} {g0 gr0 gs0 gp0 gc0 g gr gs gp gc g' : Gs} {j0 j : Nat} {b : Int32} {cls : Option (Int32 × Gs × Gs × Gs × Gs)} (h : ItOut n hQ hP L T g2 gt B g gr gs gp gc j b g' cls) (hj : j0 ≤ j) (hf : Fr parP g0 g) (h1 : Fr rdA gr0 gr) (h2 : Fr scA gs0 gs) (h3 : Fr plA gp0 gp) (h4 : Fr cfA gc0 gc) : ItOut n hQ hP L T g2 gt B g0 gr0 gs0 gp0 gc0 j0 b g' cls := by
  rcases h with ⟨b1, j', gr', gs', gp', gc', th, be, ca, x1, x2, x3, x4, x5, x6, x7, x8⟩ | ⟨b0, h⟩
  · exact .inl ⟨b1, j', gr', gs', gp', gc', th, be, ca, x1, x2, by omega, hf.trans x4, h1.trans x5, h2.trans x6, h3.trans x7, h4.trans x8⟩
  · exact .inr ⟨b0, h.after hf h1 h2 h3 h4⟩
/-- the class notes a thing -/
def recT (gp : Gs) (q i : Nat) (v4 v1 v6 v7 : Int32) : Gs := sI (sIA (sIA (sIA (sIA (sIA gp 11 (upd (gIA gp 11) q (nI i))) 7 (upd (gIA gp 7) i v4)) 8 (upd (gIA gp 8) i v1)) 9 (upd (gIA gp 9) i v6)) 10 (upd (gIA gp 10) i v7)) 4 (nI (i + 1))
theorem recT_fr (gp : Gs) (q i : Nat) (v4 v1 v6 v7 : Int32) : Fr [4, 7, 8, 9, 10, 11] gp (recT gp q i v4 v1 v6 v7) := (((((Fr.sIA (by decide) _ _).trans (Fr.sIA (by decide) _ _)).trans (Fr.sIA (by decide) _ _)).trans (Fr.sIA (by decide) _ _)).trans (Fr.sIA (by decide) _ _)).trans (Fr.sI (by decide) _ _)
theorem bool01 {p : Nat} (hp : p ≤ 1) : vp_nar .boolean (nI p) = nI p := by
  have : p = 0 ∨ p = 1 := by omega
  rcases this with rfl | rfl <;> decide
theorem thing_end {n hQ hP L T : Nat} {g2 gt : Gs} {B : Nat → Nat} {g gr gs gp gc : Gs} {j N A M f th be ca ce p s r : Nat} {num v6 v7 : Int32} {E : Nat → Nat × Nat × Nat} (hM : MR n hQ hP L T g2 gt B g gr gs gc j N A M f E) (hcn : gI g 33 = nI (th + 1) ∧ gI g 34 = nI be ∧ gI g 35 = nI ca ∧ gI g 36 = nI ce) (hgp : gI gp 4 = nI (min th 40) ∧ gI gp 5 = nI (min be 12) ∧ gI gp 6 = nI (min ca 8)) (hby : 8 * (th + 1) ≤ ta g j ∧ 8 * be ≤ ta g j ∧ 8 * ca ≤ ta g j ∧ 2 * ce ≤ j) (hp : p ≤ 1) (hs : s ≤ 7) (hr : r < M) (hnum : (num = nI th ∧ th < 40) ∨ (num = -1 ∧ 40 ≤ th ∧ ¬ gI gc 10 = 0)) (hrow : gIA g 38 th = nI s ∧ gIA g 39 th = nI p ∧ gIA g 45 th = nI r)
    (hopen : gI gc 10 = 0 → (th < 40 ∧ be ≤ 12 ∧ ca ≤ 8) ∧ ∃ FA tn fn rkk f0, f0 ≤ 2 * th + be ∧ f = f0 + 1 + p ∧ PN T g gt gp gc j (th + 1) be ca f A M E FA ∧ PI g gp gc th be f0 FA r tn fn rkk ∧ PCm g gp ca ce ∧ v6 = nI f0 ∧ v7 = nI (f0 + p) ∧ gIA g 40 th = nI (2000 + FA f0) ∧ gIA g 41 th = nI (2000 + FA (f0 + 1)) ∧ (gIA gc 13 f0 = nI th ∧ gIA gc 15 f0 = nI th) ∧ gIA gc 14 f0 = gIA g 43 th ∧ (p = 1 → gIA gc 13 (f0 + 1) = nI th ∧ gIA gc 14 (f0 + 1) = gIA g 44 th)) :
    ∃ b g', b_X12_thing_296 n g (nI th) = some (b, g') ∧ ItOut n hQ hP L T g2 gt B g gr gs gp gc j b g' (b_X5_readThing_189 n hQ hP gr gt gs g2 gp gc (nI p) num (nI s) v6 v7) := by
  obtain ⟨⟨s1, s2, s3⟩, ⟨a1, a2, a3, a4, a5⟩, c1, ⟨d1, d2⟩, e1, e2, ⟨q1, q2, q3⟩, ⟨r1, r2, r3⟩, o1⟩ := id hM
  have hL : L ≤ 3000 := s2.1.1
  have htL := (s1.tok s3).2.2.2.2
  have hth : th < 400 := by omega
  have rq : rEq (gR gr 14) hQ = true := decide_eq_true d1
  -- the class's plan with the thing
  have hcl : ∃ gp', (b_X5_readThing_189 n hQ hP gr gt gs g2 gp gc (nI p) num (nI s) v6 v7 = b_X5_readThing_274 n hQ hP gr gt gs g2 gp' gc) ∧ Fr [4, 7, 8, 9, 10, 11] gp gp' ∧ gI gp' 4 = nI (min (th + 1) 40) ∧ (num = nI th → gp' = recT gp (th + min be 12) th (nI s) (nI p) v6 v7) := by
    rcases hnum with ⟨hn, h40⟩ | ⟨hn, h40, _⟩
    · refine ⟨recT gp (th + min be 12) th (nI s) (nI p) v6 v7, ?_, recT_fr _ _ _ _ _ _ _, ?_, fun _ => rfl⟩
      · unfold b_X5_readThing_189
        rw [if_neg (by rw [hn]; exact nI_ne_m1 (by omega)), hn, hgp.1, hgp.2.1, Nat.min_eq_left (show th ≤ 40 by omega), nI_add, bool01 hp]
        simp only [grd_t rq, grd_t (inB_nI (show th + min be 12 < 52 by omega) (by decide)), grd_t (inB_nI h40 (by decide)), grd_t (inB_nI (show th < 52 by omega) (by decide)), nI_clamp (show th + min be 12 < 2 ^ 31 by omega), nI_clamp (show th < 2 ^ 31 by omega), nI_1]
        rfl
      · show nI (th + 1) = _; rw [Nat.min_eq_left (by omega)]
    · refine ⟨gp, ?_, Fr.refl _ _, ?_, fun z => ?_⟩
      · unfold b_X5_readThing_189
        rw [if_pos hn]
      · rw [hgp.1, Nat.min_eq_right (by omega), Nat.min_eq_right (by omega)]
      · rw [hn] at z; exact absurd z.symm (nI_ne_m1 (by omega))
  obtain ⟨gp', k1, k2, k3, k4⟩ := hcl
  rw [k1]
  -- the semicolon
  have fg : Fr [42] g (sIA g 42 (upd (gIA g 42) th (gI g 19))) := Fr.sIA (by decide) _ _
  have hX : nTk [42] := by decide
  have s1' := s1.base fg hX
  have s2' := s2.base fg hX
  have nb := need_both (gr := gr) (g := sIA g 42 (upd (gIA g 42) th (gI g 19))) (K := 59) (k := 41) s1' a1 s2' s3 (by decide) (by decide) kk59
  unfold b_X12_thing_296 b_X5_readThing_274
  rw [grd_t (inB_nI hth (by decide)), nI_clamp (show th < 2 ^ 31 by omega)]
  rcases nb with ⟨n1, n2, n3, gs', n4, n5, n6⟩ | ⟨n1, n2, n3⟩
  · refine ⟨1, sI (sIA g 42 (upd (gIA g 42) th (gI g 19))) 20 (nI (j + 1)), ?_, .inl ⟨rfl, j + 1, gr, gs', gp', gc, th + 1, be, ca, ?_, ?_, by omega, (fg.mono (by decide)).trans (Fr.sI (by decide) _ _), Fr.refl _ _, n6, k2.mono (by decide), Fr.refl _ _⟩⟩
    · rw [bnd_s (show f_X12_need (sIA g 42 (upd (gIA g 42) th (gI g 19))) 59 = _ from n3)]; rfl
    · rw [bnd_s (show f_X5_expect n gr gt gs g2 41 = _ from n4)]; rfl
    · have fF : Fr [20, 42] g (sI (sIA g 42 (upd (gIA g 42) th (gI g 19))) 20 (nI (j + 1))) := (fg.mono (by decide)).trans (Fr.sI (by decide) _ _)
      have hX2 : nTk [20, 42] := by decide
      have eta : ta (sI (sIA g 42 (upd (gIA g 42) th (gI g 19))) 20 (nI (j + 1))) = ta g := (tok_same fF hX2).2.1
      have mono := ta_mono s1 (show j ≤ j + 1 by omega) n2
      refine ⟨N, A, M, f, ce, E, hM.go fF (by decide) rfl (n5.base (G1 := g) (X := [42]) ?_ hX) n2 (by omega), ⟨hcn.1, hcn.2.1, hcn.2.2.1, hcn.2.2.2⟩, ⟨k3, by rw [(k2 5 (by decide)).1]; exact hgp.2.1, by rw [(k2 6 (by decide)).1]; exact hgp.2.2⟩, by rw [eta]; omega, fun z => ?_⟩
      · intro k hk
        have := fg k hk
        exact ⟨this.1.symm, this.2.1.symm, this.2.2.1.symm, this.2.2.2.1.symm, this.2.2.2.2.1.symm, this.2.2.2.2.2.1.symm, this.2.2.2.2.2.2.symm⟩
      · obtain ⟨⟨x1, x2, x3⟩, FA, tn, fn, rkk, f0, y0, y1, y2, y3, y4, y5, y6, y7, y8, y9, y10, y11⟩ := hopen z
        have hnum' : num = nI th := by
          rcases hnum with ⟨a, _⟩ | ⟨_, _, b⟩
          · exact a
          · exact absurd z b
        have hgp' := k4 hnum'
        have hb12 : min be 12 = be := Nat.min_eq_left x2
        rw [hb12] at hgp'
        refine ⟨⟨by omega, x2, x3, by omega⟩, FA, _, _, _, y2.same fF (by decide) k2 (by decide) (Fr.refl [] gc) (by decide) (by omega), PI.more (r := r) (f' := f) (FA' := FA) (M' := M) (th' := th + 1) (be' := be) y3 ⟨Nat.le_refl _, hr⟩ (by omega) (fun _ _ => rfl) (fun s s1 s2 i hi => ?_) (fun s s1 s2 i hi => ?_) (fun s s1 s2 i hi => ?_) (fun b hb => ?_) (fun k hk => ?_) (fun F _ => ⟨rfl, rfl, rfl⟩) (.inl ⟨rfl, rfl, ?_⟩), fun c hc => ?_⟩
        · by_cases h : s = 42
          · rw [h]; show upd _ th _ i = _; rw [pk_un (by omega)]
          · rw [(fF s (by simp; omega)).2.2.2.1]
        · rw [(fF s (by simp; omega)).2.2.2.1]
        · rw [hgp']
          have : s = 7 ∨ s = 8 ∨ s = 9 ∨ s = 10 := by omega
          rcases this with rfl | rfl | rfl | rfl
          · show upd _ th _ i = _; rw [pk_un (by omega)]
          · show upd _ th _ i = _; rw [pk_un (by omega)]
          · show upd _ th _ i = _; rw [pk_un (by omega)]
          · show upd _ th _ i = _; rw [pk_un (by omega)]
        · rw [hgp']; show upd _ th _ (40 + b) = _; rw [pk_un (by omega)]
        · rw [hgp']; show upd _ (th + be) _ k = _; rw [pk_un (by omega)]
        · have hfQ : (if th + be ≤ th + be then fn (th + be) else f) = f0 := by rw [if_pos (Nat.le_refl _)]; exact y3.1.2.2.2
          have hfQ1 : (if th + be + 1 ≤ th + be then fn (th + be + 1) else f) = f := if_neg (by omega)
          have hA : FA f = A := y2.1.2.1
          unfold ItT
          show ∃ s p, s ≤ 7 ∧ gIA gp' 11 (th + be) = nI th ∧ gIA g 38 th = nI s ∧ gIA gp' 7 th = nI s ∧ p ≤ 1 ∧ gIA g 39 th = nI p ∧ gIA gp' 8 th = nI p ∧ (if th + be + 1 ≤ th + be then fn (th + be + 1) else f) = (if th + be ≤ th + be then fn (th + be) else f) + 1 + p ∧ gIA gp' 9 th = nI (if th + be ≤ th + be then fn (th + be) else f) ∧ gIA gp' 10 th = nI ((if th + be ≤ th + be then fn (th + be) else f) + p) ∧ gIA g 40 th = nI (2000 + FA (if th + be ≤ th + be then fn (th + be) else f)) ∧ gIA g 41 th = nI (2000 + FA ((if th + be ≤ th + be then fn (th + be) else f) + 1)) ∧ upd (gIA g 42) th (gI g 19) th = nI (2000 + FA ((if th + be ≤ th + be then fn (th + be) else f) + 1 + p)) ∧ gIA g 45 th = nI r ∧ (gIA gc 13 (if th + be ≤ th + be then fn (th + be) else f) = nI th ∧ gIA gc 15 (if th + be ≤ th + be then fn (th + be) else f) = nI th) ∧ gIA gc 14 (if th + be ≤ th + be then fn (th + be) else f) = gIA g 43 th ∧ (p = 1 → gIA gc 13 ((if th + be ≤ th + be then fn (th + be) else f) + 1) = nI th ∧ gIA gc 14 ((if th + be ≤ th + be then fn (th + be) else f) + 1) = gIA g 44 th)
          rw [hfQ, hfQ1, pk_us, a4, hgp']
          refine ⟨s, p, hs, ?_, hrow.1, ?_, hp, hrow.2.1, ?_, y1, ?_, ?_, y7, y8, (by rw [← y1, hA]), hrow.2.2, y9, y10, y11⟩
          · show upd _ (th + be) _ (th + be) = _; rw [pk_us]
          · show upd _ th _ th = _; rw [pk_us]
          · show upd _ th _ th = _; rw [pk_us]
          · show upd _ th _ th = _; rw [pk_us, y5]
          · show upd _ th _ th = _; rw [pk_us, y6]
        · obtain ⟨m, a, z1, z2, z3, z4, z5, z6⟩ := y4 c hc
          exact ⟨m, a, z1, z2, z3, by rw [(k2 13 (by decide)).2.2.2.1]; exact z4, z5, fun k hk => by rw [(k2 12 (by decide)).2.2.2.2.2.1]; exact z6 k hk⟩
  · refine ⟨0, sI (sI (sIA g 42 (upd (gIA g 42) th (gI g 19))) 21 1) 22 (nI (ta (sIA g 42 (upd (gIA g 42) th (gI g 19))) j)), ?_, .inr ⟨rfl, ?_⟩⟩
    · rw [bnd_s (show f_X12_need (sIA g 42 (upd (gIA g 42) th (gI g 19))) 59 = _ from n2)]; rfl
    · rw [bnd_s (show f_X5_expect n gr gt gs g2 41 = _ from n3)]
      exact RfI.of (fg.mono (by decide)) s3 s2' (Fr.refl _ _) (Fr.refl _ _) (k2.mono (by decide)) (Fr.refl _ _)
