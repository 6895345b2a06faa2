/-! plans' texts: things from their formulas on -/
def thX (g : Gs) (i : Nat) : Gs := sI (sIA (sIA g 41 (upd (gIA g 41) i (gI g 19))) 44 (upd (gIA g 44) i (gIA g 10 (gI g 20).toNatClampNeg))) 26 0
theorem thX_fr (g : Gs) (i : Nat) : Fr [26, 41, 44] g (thX g i) := ((Fr.sIA (by decide) _ _).trans (Fr.sIA (by decide) _ _)).trans (Fr.sI (by decide) _ _)
theorem thX_at (g : Gs) (i : Nat) : gIA (thX g i) 41 i = gI g 19 ∧ gIA (thX g i) 44 i = gIA g 10 (gI g 20).toNatClampNeg ∧ ∀ q, q ≠ i → gIA (thX g i) 41 q = gIA g 41 q ∧ gIA (thX g i) 44 q = gIA g 44 q := by
  refine ⟨?_, ?_, fun q hq => ⟨?_, ?_⟩⟩
  · show upd _ i _ i = _; rw [pk_us]
  · show upd _ i _ i = _; rw [pk_us]
  · show upd _ i _ q = _; rw [pk_un hq]
  · show upd _ i _ q = _; rw [pk_un hq]
def thTl (n : Nat) (gT : Gs) (v1 v2 : Int32) : Option (Int32 × Gs) := bnd (ff_X12_formula n (sIA gT 40 (upd (gIA gT 40) v2.toNatClampNeg (gI gT 19)))) (fun q_20 => if q_20.1 = 0 then (some ((0 : Int32), q_20.2)) else (grd (inB v2 400) (grd (inB (gI q_20.2 20) 3001) (grd (inB v2 400) (if v1 = 0 then (b_X12_thing_296 n (sI (sIA (sIA q_20.2 41 (upd (gIA q_20.2 41) v2.toNatClampNeg (gI q_20.2 19))) 44 (upd (gIA q_20.2 44) v2.toNatClampNeg (gIA q_20.2 10 (gI q_20.2 20).toNatClampNeg))) 26 (0 : Int32)) v2) else (bnd (f_X12_need (sI (sIA (sIA q_20.2 41 (upd (gIA q_20.2 41) v2.toNatClampNeg (gI q_20.2 19))) 44 (upd (gIA q_20.2 44) v2.toNatClampNeg (gIA q_20.2 10 (gI q_20.2 20).toNatClampNeg))) 26 (0 : Int32)) (204 : Int32)) (fun q_29 => if q_29.1 = 0 then (some ((0 : Int32), q_29.2)) else (bnd (ff_X12_formula n q_29.2) (fun q_31 => if q_31.1 = 0 then (some ((0 : Int32), q_31.2)) else (b_X12_thing_296 n q_31.2 v2))))))))))
def clTl (n hQ hP : Nat) (gr gt gs g2 gp gc : Gs) (x0 num srt sg ca : Int32) : Option (Int32 × Gs × Gs × Gs × Gs) := bnd (f_X5_readFormula n hP gr gt gs g2 gc num sg num ca) (fun q_14 => if q_14.1 = 0 then (some ((0 : Int32), q_14.2.1, q_14.2.2.1, gp, q_14.2.2.2)) else (if x0 = 0 then (b_X5_readThing_189 n hQ hP q_14.2.1 gt q_14.2.2.1 g2 gp q_14.2.2.2 x0 num srt (gI gc 18) (gI gc 18)) else (grd (rEq (gR q_14.2.1 15) hP) (bnd (f_X5_expect n q_14.2.1 gt q_14.2.2.1 g2 (14 : Int32)) (fun q_33 => if q_33.1 = 0 then (some ((0 : Int32), q_14.2.1, q_33.2, gp, q_14.2.2.2)) else (bnd (f_X5_readFormula n hP q_14.2.1 gt q_33.2 g2 q_14.2.2.2 num (gI q_14.2.2.1 5) (40 : Int32) (8 : Int32)) (fun q_35 => if q_35.1 = 0 then (some ((0 : Int32), q_35.2.1, q_35.2.2.1, gp, q_35.2.2.2)) else (b_X5_readThing_189 n hQ hP q_35.2.1 gt q_35.2.2.1 g2 gp q_35.2.2.2 x0 num srt (gI gc 18) (gI q_14.2.2.2 18)))))))))
theorem doom_need {n L T : Nat} {g2 gX : Gs} {B : Nat → Nat} {j K : Nat} (hS : ScR n g2 L B gX T) (h20 : gI gX 20 = nI j) (hj : j < T) (hr : rk (kc (tk gX j)) ≠ 0) (hK : K = 59 ∨ K = 204) : f_X12_need gX (nI K) = some (0, sI (sI gX 21 1) 22 (nI (ta gX j))) := by
  have nd := need12 (G := gX) (K := K) hS (Fr.refl _ _) h20 hj (by omega)
  rw [if_neg (fun z => hr (by rw [z]; rcases hK with rfl | rfl <;> decide))] at nd
  exact nd
theorem thing_tail {n hQ hP L T : Nat} {g2 gt : Gs} {B : Nat → Nat} {g gr gs gp gc : Gs} {j N A M f th be ca ce p s r sg : Nat} {num : Int32} {E : Nat → Nat × Nat × Nat} (hn : 20000 ≤ n) (hsg : sg ≤ 3000) (hM : MR n hQ hP L T g2 gt B g gr gs gc j N A M f E) (h26 : gI g 26 = 1) (hcn : gI g 33 = nI (th + 1) ∧ gI g 34 = nI be ∧ gI g 35 = nI ca ∧ gI g 36 = nI ce) (hgp : gI gp 4 = nI (min th 40) ∧ gI gp 5 = nI (min be 12) ∧ gI gp 6 = nI (min ca 8)) (hby : 8 * (th + 1) ≤ ta g j ∧ 8 * be ≤ ta g j ∧ 8 * ca ≤ ta g j ∧ 2 * ce ≤ j) (hp : p ≤ 1) (hs : s ≤ 7) (hr : r < M) (hnum : (num = nI th ∧ th < 40) ∨ (num = -1 ∧ 40 ≤ th ∧ ¬ gI gc 10 = 0)) (hrow : gIA g 38 th = nI s ∧ gIA g 39 th = nI p ∧ gIA g 45 th = nI r ∧ gIA g 43 th = nI sg)
    (hopen : gI gc 10 = 0 → (th < 40 ∧ be ≤ 12 ∧ ca ≤ 8 ∧ f ≤ 2 * th + be) ∧ ∃ FA tn fn rkk, PN T g gt gp gc j (th + 1) be ca f A M E FA ∧ PI g gp gc th be f FA r tn fn rkk ∧ PCm g gp ca ce) :
    ∃ b g', thTl n g (nI p) (nI th) = some (b, g') ∧ ItOut n hQ hP L T g2 gt B g gr gs gp gc j b g' (clTl n hQ hP gr gt gs g2 gp gc (nI p) num (nI s) (nI sg) (nI (min ca 8))) := by
  obtain ⟨⟨s1, s2, s3⟩, ⟨a1, a2, a3, a4, a5⟩, c1, ⟨d1, d2⟩, e1, e2, ⟨q1, q2, q3⟩, ⟨r1, r2, r3⟩, o1⟩ := id hM
  have hL : L ≤ 3000 := s2.1.1
  have hT := s1.2.2.1
  have htL := (s1.tok s3).2.2.2.2
  have hth : th < 400 := by omega
  have cth : (nI th).toNatClampNeg = th := nI_clamp (by omega)
  have fg : Fr [40] g (sIA g 40 (upd (gIA g 40) th (nI (2000 + A)))) := Fr.sIA (by decide) _ _
  have hM8 := hM.go fg (by decide) a1 s2 s3 (Nat.le_refl _)
  obtain ⟨b, g', f1, f2⟩ := form_step num (nI sg) num (nI (min ca 8)) hn hM8 (fun z => by have := (hopen z).1; omega)
  unfold thTl clTl
  rw [cth, a4, bnd_s f1]
  have eta8 := (tok_same fg (by decide)).2.1
  have etk8 := (tok_same fg (by decide)).1
  rcases f2 with ⟨rfl, j', gr', gs', gc', N', A', M', f', mm, E', x1, x2, x3, x4, x5, x6, x7, x8, x9, ⟨x10, x11⟩, x12, x13, x14, x15⟩ | ⟨j', gr', gs', gc', x1, x2, x3, x4, x5, x6, x7, x8⟩
  · rw [bnd_s x1]
    obtain ⟨⟨S1, S2, S3⟩, ⟨A1, A2, A3, A4, A5⟩, C1, ⟨D1, D2⟩, E1, E2, ⟨Q1, Q2, Q3⟩, ⟨R1, R2, R3⟩, O1⟩ := id x2
    have cj : (gI g' 20).toNatClampNeg = j' := by rw [A1]; exact nI_clamp (by omega)
    have e10 : gIA g' 10 j' = nI (ta g' j') := (S1.tok S3).2.1
    have fX := thX_fr g' th
    obtain ⟨X1, X2, X3⟩ := thX_at g' th
    rw [A4] at X1
    rw [cj, e10] at X2
    have fgg : Fr parP g g' := (fg.mono (by decide)).trans (x4.mono (by decide))
    have fg9 : Fr parP g (thX g' th) := fgg.trans (fX.mono (by decide))
    have h9 := x2.go fX (by decide) A1 S2 S3 (Nat.le_refl _)
    have eta9 : ta (thX g' th) = ta g := (tok_same fg9 (by decide)).2.1
    have mono := ta_mono s1 (show j ≤ j' by omega) S3
    -- slots of the reference's rows
    have k8 : ∀ k, k ∉ parA → k ≠ 40 → k ≠ 26 → k ≠ 41 → k ≠ 44 → gIA (thX g' th) k = gIA g k ∧ gI (thX g' th) k = gI g k := fun k hk h1 h2 h3 h4 => by
      have y1 := fX k (by simp; omega)
      have y2 := x4 k hk
      have y3 := fg k (by simp; omega)
      exact ⟨y1.2.2.2.1.trans (y2.2.2.2.1.trans y3.2.2.2.1), y1.1.trans (y2.1.trans y3.1)⟩
    have r40 : gIA (thX g' th) 40 = upd (gIA g 40) th (nI (2000 + A)) := ((fX 40 (by decide)).2.2.2.1).trans ((x4 40 (by decide)).2.2.2.1)
    have r41 : ∀ q, q ≠ th → gIA (thX g' th) 41 q = gIA g 41 q := fun q hq => ((X3 q hq).1).trans (by rw [(x4 41 (by decide)).2.2.2.1]; rfl)
    have r44 : ∀ q, q ≠ th → gIA (thX g' th) 44 q = gIA g 44 q := fun q hq => ((X3 q hq).2).trans (by rw [(x4 44 (by decide)).2.2.2.1]; rfl)
    have hcn9 : gI (thX g' th) 33 = nI (th + 1) ∧ gI (thX g' th) 34 = nI be ∧ gI (thX g' th) 35 = nI ca ∧ gI (thX g' th) 36 = nI ce := ⟨by rw [(k8 33 (by decide) (by decide) (by decide) (by decide) (by decide)).2]; exact hcn.1, by rw [(k8 34 (by decide) (by decide) (by decide) (by decide) (by decide)).2]; exact hcn.2.1, by rw [(k8 35 (by decide) (by decide) (by decide) (by decide) (by decide)).2]; exact hcn.2.2.1, by rw [(k8 36 (by decide) (by decide) (by decide) (by decide) (by decide)).2]; exact hcn.2.2.2⟩
    have e43 : gIA (thX g' th) 43 = gIA g 43 := (k8 43 (by decide) (by decide) (by decide) (by decide) (by decide)).1
    have hrow9 : gIA (thX g' th) 38 th = nI s ∧ gIA (thX g' th) 39 th = nI p ∧ gIA (thX g' th) 45 th = nI r := ⟨by rw [(k8 38 (by decide) (by decide) (by decide) (by decide) (by decide)).1]; exact hrow.1, by rw [(k8 39 (by decide) (by decide) (by decide) (by decide) (by decide)).1]; exact hrow.2.1, by rw [(k8 45 (by decide) (by decide) (by decide) (by decide) (by decide)).1]; exact hrow.2.2.1⟩
    have hnum9 : (num = nI th ∧ th < 40) ∨ (num = -1 ∧ 40 ≤ th ∧ ¬ gI gc' 10 = 0) := by
      rcases hnum with h | ⟨h1, h2, h3⟩
      · exact .inl h
      · exact .inr ⟨h1, h2, fun z => h3 (x8 z)⟩
    have hby9 : 8 * (th + 1) ≤ ta (thX g' th) j' ∧ 8 * be ≤ ta (thX g' th) j' ∧ 8 * ca ≤ ta (thX g' th) j' ∧ 2 * ce ≤ j' := by rw [eta9]; omega
    -- all that is told, behind the first formula
    have open9 : gI gc' 10 = 0 → (th < 40 ∧ be ≤ 12 ∧ ca ≤ 8 ∧ f ≤ 2 * th + be ∧ num = nI th) ∧ f' = f + 1 ∧ ∃ FA tn fn rkk, PN T (thX g' th) gt gp gc' j' (th + 1) be ca (f + 1) A' M' E' FA ∧ PI (thX g' th) gp gc' th be f FA r tn fn rkk ∧ PCm (thX g' th) gp ca ce ∧ FA f = A ∧ FA (f + 1) = A' ∧ (gIA gc' 13 f = nI th ∧ gIA gc' 15 f = nI th) ∧ gIA gc' 14 f = nI sg := by
      intro z
      obtain ⟨⟨y1, y2, y3, y4⟩, FA, tn, fn, rkk, P1, P2, P3⟩ := hopen (x8 z)
      obtain ⟨w1, ⟨w2, w3, w4, w5, w6, w7⟩, w8⟩ := x15 z
      have hnum' : num = nI th := by
        rcases hnum with ⟨h, _⟩ | ⟨_, h, _⟩
        · exact h
        · omega
      have hPN8 := P1.same fg (by decide) (Fr.refl [] gp) (by decide) (Fr.refl [] gc) (by decide) (Nat.le_refl j)
      have ca8 : min ca 8 = ca := Nat.min_eq_left y3
      have hPN := hPN8.form (x := th) (y := ca) x4 x9 ⟨x10, x11⟩ x3 x12 x13 x14 ⟨w2, w3, by rw [w6]; exact hnum', by rw [w7, ca8], sg, hsg, w5⟩ (fun i hi => ⟨(w8 i hi).1, (w8 i hi).2.1, (w8 i hi).2.2.2.2.1, (w8 i hi).2.2.2.2.2, (w8 i hi).2.2.2.1⟩) ⟨by omega, y3, .inr ⟨fun y => absurd ((h26.symm.trans y) : (1 : Int32) = 0) (by decide), by rw [show gI (sIA g 40 (upd (gIA g 40) th (nI (2000 + A)))) 33 = gI g 33 from rfl, hcn.1]; exact nI_pred th, hcn.2.2.1⟩⟩
      have hPN9 := hPN.same fX (by decide) (Fr.refl [] gp) (by decide) (Fr.refl [] gc') (by decide) (Nat.le_refl j')
      refine ⟨⟨y1, y2, y3, y4, hnum'⟩, w1, _, tn, fn, rkk, hPN9, P2.keep (Nat.le_refl _) (fun F hF => if_pos hF) (fun q h1 h2 i hi => ?_) (fun q h1 h2 i hi => ?_) (fun _ _ _ _ _ => rfl) (fun _ _ => rfl) (fun _ _ => rfl) (fun F hF => ⟨(w8 F hF).2.2.1, (w8 F hF).2.2.2.1, (w8 F hF).2.2.2.2.1⟩), fun c hc => ?_, ?_, ?_, ⟨by rw [w4]; exact hnum', by rw [w6]; exact hnum'⟩, w5⟩
      · have hq : q = 40 ∨ q = 41 ∨ q = 44 ∨ (q ∉ parA ∧ q ≠ 40 ∧ q ≠ 26 ∧ q ≠ 41 ∧ q ≠ 44) := by
          have : q = 38 ∨ q = 39 ∨ q = 40 ∨ q = 41 ∨ q = 42 ∨ q = 43 ∨ q = 44 ∨ q = 45 := by omega
          rcases this with rfl | rfl | rfl | rfl | rfl | rfl | rfl | rfl <;> decide
        rcases hq with rfl | rfl | rfl | ⟨z1, z2, z3, z4, z5⟩
        · rw [r40, pk_un (by omega)]
        · exact r41 i (by omega)
        · exact r44 i (by omega)
        · rw [(k8 q z1 z2 z3 z4 z5).1]
      · have hq : q ∉ parA ∧ q ≠ 40 ∧ q ≠ 26 ∧ q ≠ 41 ∧ q ≠ 44 := by
          have : q = 49 ∨ q = 50 ∨ q = 51 ∨ q = 52 := by omega
          rcases this with rfl | rfl | rfl | rfl <;> decide
        rw [(k8 q hq.1 hq.2.1 hq.2.2.1 hq.2.2.2.1 hq.2.2.2.2).1]
      · obtain ⟨m, a, z1, z2, z3, z4, z5, z6⟩ := P3 c hc
        have l56 : gLA (thX g' th) 56 = gLA g 56 := ((fX 56 (by decide)).2.2.2.2.1).trans (((x4 56 (by decide)).2.2.2.2.1).trans ((fg 56 (by decide)).2.2.2.2.1))
        exact ⟨m, a, by rw [(k8 54 (by decide) (by decide) (by decide) (by decide) (by decide)).1]; exact z1, z2, by rw [(k8 55 (by decide) (by decide) (by decide) (by decide) (by decide)).1]; exact z3, z4, z5, fun k hk => by rw [l56]; exact z6 k hk⟩
      · show (if f ≤ f then FA f else A') = A; rw [if_pos (Nat.le_refl _)]; exact P1.1.2.1
      · show (if f + 1 ≤ f then FA (f + 1) else A') = A'; rw [if_neg (by omega)]
    have r41' : gIA (thX g' th) 41 th = nI (2000 + A') := X1
    have r44' : gIA (thX g' th) 44 th = nI (ta g j') := by rw [X2, (tok_same fgg (by decide)).2.1]
    rw [if_neg (show ¬ (1 : Int32) = 0 by decide), if_neg (show ¬ (1 : Int32) = 0 by decide)]
    show ∃ b g'', grd (inB (nI th) 400) (grd (inB (gI g' 20) 3001) (grd (inB (nI th) 400) (if nI p = (0 : Int32) then b_X12_thing_296 n (sI (sIA (sIA g' 41 (upd (gIA g' 41) th (gI g' 19))) 44 (upd (gIA g' 44) th (gIA g' 10 (gI g' 20).toNatClampNeg))) 26 0) (nI th) else bnd (f_X12_need (sI (sIA (sIA g' 41 (upd (gIA g' 41) th (gI g' 19))) 44 (upd (gIA g' 44) th (gIA g' 10 (gI g' 20).toNatClampNeg))) 26 0) 204) _))) = some (b, g'') ∧ _
    rw [grd_t (inB_nI hth (by decide)), A1, grd_t (inB_nI (by omega) (by decide)), grd_t (inB_nI hth (by decide)), ← A1]
    have eX : sI (sIA (sIA g' 41 (upd (gIA g' 41) th (gI g' 19))) 44 (upd (gIA g' 44) th (gIA g' 10 (gI g' 20).toNatClampNeg))) 26 0 = thX g' th := rfl
    rw [eX]
    by_cases hp0 : p = 0
    · rw [if_pos (show nI p = (0 : Int32) by rw [hp0]; rfl)]
      show ∃ b g'', _ ∧ ItOut n hQ hP L T g2 gt B g gr gs gp gc j b g'' (if nI p = 0 then _ else _)
      rw [if_pos (show nI p = (0 : Int32) by rw [hp0]; rfl)]
      obtain ⟨b, g'', k1, k2⟩ := thing_end (v6 := gI gc 18) (v7 := gI gc 18) h9 hcn9 hgp hby9 hp hs (show r < M' by omega) hnum9 hrow9 (fun z => by
        obtain ⟨⟨y1, y2, y3, y4, y5⟩, w1, FA, tn, fn, rkk, P1, P2, P3, P4, P5, P6, P7⟩ := open9 z
        refine ⟨⟨y1, y2, y3⟩, FA, tn, fn, rkk, f, y4, by omega, by rw [w1]; exact P1, P2, P3, q2, by rw [hp0]; exact q2, by rw [r40, pk_us, P4], by rw [r41', P5], P6, by rw [P7, e43]; exact hrow.2.2.2.symm, fun z => by omega⟩)
      exact ⟨b, g'', k1, k2.after (by omega) fg9 x5 x6 (Fr.refl _ _) x7⟩
    · have hp1 : p = 1 := by omega
      rw [if_neg (show ¬ nI p = (0 : Int32) by rw [hp1]; decide)]
      show ∃ b g'', _ ∧ ItOut n hQ hP L T g2 gt B g gr gs gp gc j b g'' (if nI p = 0 then _ else _)
      rw [if_neg (show ¬ nI p = (0 : Int32) by rw [hp1]; decide)]
      obtain ⟨⟨H1, H2, H3⟩, ⟨H4, _⟩, _⟩ := id h9
      have nb := need_both (gr := gr') (K := 204) (k := 14) H1 H4 H2 H3 (by decide) (by decide) kk204
      show ∃ b g'', _ ∧ ItOut n hQ hP L T g2 gt B g gr gs gp gc j b g'' (grd (rEq (gR gr' 15) hP) (bnd (f_X5_expect n gr' gt gs' g2 14) _))
      rw [grd_t (show rEq (gR gr' 15) hP = true from decide_eq_true D2)]
      rcases nb with ⟨n1, n2, n3, gs2, n4, n5, n6⟩ | ⟨n1, n2, n3⟩
      · rw [bnd_s (show f_X12_need (thX g' th) 204 = _ from n3), bnd_s (show f_X5_expect n gr' gt gs' g2 14 = _ from n4)]
        rw [if_neg (show ¬ (1 : Int32) = 0 by decide), if_neg (show ¬ (1 : Int32) = 0 by decide)]
        have h10 := h9.go (X := [20]) (g' := sI (thX g' th) 20 (nI (j' + 1))) (j' := j' + 1) (Fr.sI (by decide) _ _) (by decide) rfl n5 n2 (by omega)
        have h5 : gI gs' 5 = nI (ta g j') := by rw [S2.2.2.1, (tok_same fgg (by decide)).2.1]
        obtain ⟨b, g3, f3, f4⟩ := form_step num (gI gs' 5) (nI 40) (nI 8) hn h10 (fun z => by have := open9 z; omega)
        rw [bnd_s f3]
        show ∃ b g'', _ ∧ ItOut n hQ hP L T g2 gt B g gr gs gp gc j b g'' (bnd (f_X5_readFormula n hP gr' gt gs2 g2 gc' num (gI gs' 5) (nI 40) (nI 8)) _)
        have f910 : Fr [20] (thX g' th) (sI (thX g' th) 20 (nI (j' + 1))) := Fr.sI (by decide) _ _
        have f10 : Fr parP g (sI (thX g' th) 20 (nI (j' + 1))) := fg9.trans (Fr.sI (by decide) _ _)
        rcases f4 with ⟨rfl, j4, gr4, gs4, gc4, N4, A4', M4, f4', mm4, E4, u1, u2, u3, u4, u5, u6, u7, u8, u9, ⟨u10, u11⟩, u12, u13, u14, u15⟩ | ⟨j4, gr4, gs4, gc4, u1, u2, u3, u4, u5, u6, u7, u8⟩
        · rw [bnd_s u1, if_neg (show ¬ (1 : Int32) = 0 by decide), if_neg (show ¬ (1 : Int32) = 0 by decide)]
          have hT4 := u2.1.2.2
          have f3g : Fr parP g g3 := f10.trans (u4.mono (by decide))
          have eta3 : ta g3 = ta g := (tok_same f3g (by decide)).2.1
          have mono4 := ta_mono s1 (show j ≤ j4 by omega) hT4
          have k3 : ∀ k, k ∉ parA → gIA g3 k = gIA (thX g' th) k ∧ gI g3 k = gI (thX g' th) k := fun k hk => by
            have y1 := u4 k hk
            have y2 := f910 k (fun z => hk (by have : k = 20 := by simpa using z
                                               rw [this]; decide))
            exact ⟨y1.2.2.2.1.trans y2.2.2.2.1, y1.1.trans y2.1⟩
          obtain ⟨b, g'', k1, k2⟩ := thing_end (v6 := gI gc 18) (v7 := gI gc' 18) u2 ⟨by rw [(k3 33 (by decide)).2]; exact hcn9.1, by rw [(k3 34 (by decide)).2]; exact hcn9.2.1, by rw [(k3 35 (by decide)).2]; exact hcn9.2.2.1, by rw [(k3 36 (by decide)).2]; exact hcn9.2.2.2⟩ hgp (by rw [eta3]; omega) hp hs (show r < M4 by omega) (by
            rcases hnum9 with h | ⟨h1, h2, h3⟩
            · exact .inl h
            · exact .inr ⟨h1, h2, fun z => h3 (u8 z)⟩) ⟨by rw [(k3 38 (by decide)).1]; exact hrow9.1, by rw [(k3 39 (by decide)).1]; exact hrow9.2.1, by rw [(k3 45 (by decide)).1]; exact hrow9.2.2⟩ (fun z => by
            obtain ⟨⟨y1, y2, y3, y4, y5⟩, w1, FA, tn, fn, rkk, P1, P2, P3, P4, P5, P6, P7⟩ := open9 (u8 z)
            obtain ⟨t1, ⟨t2, t3, t4, t5, t6, t7⟩, t8⟩ := u15 z
            rw [w1] at t2 t3 t4 t5 t6 t7
            have hPN10 := P1.same f910 (by decide) (Fr.refl [] gp) (by decide) (Fr.refl [] gc') (by decide) (show j' ≤ j' + 1 by omega)
            have hPN := hPN10.form (x := 40) (y := 8) u4 u9 ⟨u10, u11⟩ u3 u12 u13 u14 ⟨t2, t3, t6, t7, ta g j', Nat.le_trans (s1.tok H3).2.2.2.2 H2.1.1, t5.trans h5⟩ (fun i hi => by
              have := t8 i (by omega)
              exact ⟨this.1, this.2.1, this.2.2.2.2.1, this.2.2.2.2.2, this.2.2.2.1⟩) ⟨by omega, by omega, .inl ⟨rfl, rfl, rfl⟩⟩
            have hFA : ∀ F, F ≤ f + 1 → (if F ≤ f + 1 then FA F else A4') = FA F := fun F hF => if_pos hF
            refine ⟨⟨y1, y2, y3⟩, _, tn, fn, rkk, f, y4, by omega, by rw [t1, w1]; exact hPN, P2.keep (Nat.le_refl _) (fun F hF => hFA F (by omega)) (fun q q1 q2 i hi => ?_) (fun q q1 q2 i hi => ?_) (fun _ _ _ _ _ => rfl) (fun _ _ => rfl) (fun _ _ => rfl) (fun F hF => by
              have := t8 F (by omega)
              exact ⟨this.2.2.1, this.2.2.2.1, this.2.2.2.2.1⟩), fun c hc => ?_, q2, by rw [hp1, ← w1]; exact Q2, ?_, ?_, ?_, ?_, fun _ => ⟨?_, ?_⟩⟩
            · have hq : q ∉ parA := by
                have : q = 38 ∨ q = 39 ∨ q = 40 ∨ q = 41 ∨ q = 42 ∨ q = 43 ∨ q = 44 ∨ q = 45 := by omega
                rcases this with rfl | rfl | rfl | rfl | rfl | rfl | rfl | rfl <;> decide
              rw [(k3 q hq).1]
            · have hq : q ∉ parA := by
                have : q = 49 ∨ q = 50 ∨ q = 51 ∨ q = 52 := by omega
                rcases this with rfl | rfl | rfl | rfl <;> decide
              rw [(k3 q hq).1]
            · obtain ⟨m, a, z1, z2, z3, z4, z5, z6⟩ := P3 c hc
              have l56 : gLA g3 56 = gLA (thX g' th) 56 := ((u4 56 (by decide)).2.2.2.2.1).trans ((f910 56 (by decide)).2.2.2.2.1)
              exact ⟨m, a, by rw [(k3 54 (by decide)).1]; exact z1, z2, by rw [(k3 55 (by decide)).1]; exact z3, z4, z5, fun k hk => by rw [l56]; exact z6 k hk⟩
            · rw [(k3 40 (by decide)).1, r40, pk_us]
              show _ = nI (2000 + (if f ≤ f + 1 then FA f else A4')); rw [hFA f (by omega), P4]
            · rw [(k3 41 (by decide)).1, r41']
              show _ = nI (2000 + (if f + 1 ≤ f + 1 then FA (f + 1) else A4')); rw [hFA (f + 1) (by omega), P5]
            · rw [(t8 f (by omega)).2.2.1, (t8 f (by omega)).2.2.2.2.1]; exact P6
            · rw [(t8 f (by omega)).2.2.2.1, P7, (k3 43 (by decide)).1, e43]; exact hrow.2.2.2.symm
            · rw [t4]; exact y5
            · rw [t5, h5, (k3 44 (by decide)).1, r44'])
          exact ⟨b, g'', k1, k2.after (by omega) f3g (x5.trans u5) ((x6.trans n6).trans u6) (Fr.refl _ _) (x7.trans u7)⟩
        · rw [bnd_s u1]
          have f3g : Fr parP g g3 := f10.trans (u7.mono (by decide))
          rcases u8 with ⟨rfl, u9, u10⟩ | ⟨rfl, u9, u10⟩
          · refine ⟨0, g3, rfl, .inr ⟨rfl, j4, gr4, gs4, gp, gc4, rfl, u9, by rw [u10, (tok_same f10 (by decide)).2.1], ?_, u2, f3g, x5.trans u4, (x6.trans n6).trans u5, Fr.refl _ _, x7.trans u6⟩⟩
            obtain ⟨e1, e2, e3, e4, e5⟩ := tok_same f10 (by decide)
            unfold TokAt at *
            rw [← e1, ← e2, ← e3, ← e4, ← e5]; exact u3
          · have fz : Fr parP g (sIA g3 42 (upd (gIA g3 42) th (gI g3 19))) := f3g.trans (Fr.sIA (by decide) _ _)
            have etk3 : tk (sIA g3 42 (upd (gIA g3 42) th (gI g3 19))) = tk (sI (thX g' th) 20 (nI (j' + 1))) := (tok_same fz (by decide)).1.trans (tok_same f10 (by decide)).1.symm
            have dn := doom_need (gX := sIA g3 42 (upd (gIA g3 42) th (gI g3 19))) (K := 59) (s1.base fz (by decide)) (show gI g3 20 = nI j4 from u9) u2 (by rw [etk3]; exact u10) (.inl rfl)
            refine ⟨0, sI (sI (sIA g3 42 (upd (gIA g3 42) th (gI g3 19))) 21 1) 22 (nI (ta (sIA g3 42 (upd (gIA g3 42) th (gI g3 19))) j4)), ?_, .inr ⟨rfl, ?_⟩⟩
            · show b_X12_thing_296 n g3 (nI th) = _
              unfold b_X12_thing_296
              rw [grd_t (inB_nI hth (by decide)), cth, bnd_s (show f_X12_need (sIA g3 42 (upd (gIA g3 42) th (gI g3 19))) 59 = _ from dn)]; rfl
            · refine RfI.of fz u2 ?_ (x5.trans u4) ((x6.trans n6).trans u5) (Fr.refl _ _) (x7.trans u6)
              exact u3.base ((u7.mono (B := 42 :: parA) (by decide)).trans (Fr.sIA (by decide) _ _)) (by decide)
      · rw [bnd_s (show f_X12_need (thX g' th) 204 = _ from n2), bnd_s (show f_X5_expect n gr' gt gs' g2 14 = _ from n3)]
        exact ⟨0, _, rfl, .inr ⟨rfl, RfI.of fg9 H3 H2 x5 x6 (Fr.refl _ _) x7⟩⟩
  · rw [bnd_s x1]
    have fgg : Fr parP g g' := (fg.mono (by decide)).trans (x7.mono (by decide))
    rcases x8 with ⟨rfl, x9, x10⟩ | ⟨rfl, x9, x10⟩
    · refine ⟨0, g', rfl, .inr ⟨rfl, j', gr', gs', gp, gc', rfl, x9, by rw [x10, eta8], ?_, x2, fgg, x4, x5, Fr.refl _ _, x6⟩⟩
      obtain ⟨e1, e2, e3, e4, e5⟩ := tok_same fg (by decide)
      unfold TokAt at *
      rw [← e1, ← e2, ← e3, ← e4, ← e5]; exact x3
    · have cj : inB (gI g' 20) 3001 = true := by rw [x9]; exact inB_nI (by omega) (by decide)
      have fX : Fr parP g (thX g' th) := fgg.trans ((thX_fr g' th).mono (by decide))
      have tX : TokAt L B (thX g' th) gt j' gs' := x3.base ((x7.mono (B := 41 :: 44 :: parA ++ [26]) (by decide)).trans ((thX_fr g' th).mono (by decide))) (by decide)
      have etk : tk (thX g' th) = tk (sIA g 40 (upd (gIA g 40) th (nI (2000 + A)))) := (tok_same fX (by decide)).1.trans etk8.symm
      rw [if_neg (show ¬ (1 : Int32) = 0 by decide), if_pos (show ((0 : Int32), gr', gs', gc').1 = 0 from rfl)]
      show ∃ b g'', grd (inB (nI th) 400) (grd (inB (gI g' 20) 3001) (grd (inB (nI th) 400) (if nI p = (0 : Int32) then b_X12_thing_296 n (thX g' th) (nI th) else bnd (f_X12_need (thX g' th) 204) _))) = some (b, g'') ∧ _
      rw [grd_t (inB_nI hth (by decide)), grd_t cj, grd_t (inB_nI hth (by decide))]
      by_cases hp0 : p = 0
      · rw [if_pos (show nI p = (0 : Int32) by rw [hp0]; rfl)]
        have fz : Fr parP g (sIA (thX g' th) 42 (upd (gIA (thX g' th) 42) th (gI (thX g' th) 19))) := fX.trans (Fr.sIA (by decide) _ _)
        have f42 : Fr [42] (thX g' th) (sIA (thX g' th) 42 (upd (gIA (thX g' th) 42) th (gI (thX g' th) 19))) := Fr.sIA (by decide) _ _
        have dn := doom_need (gX := sIA (thX g' th) 42 (upd (gIA (thX g' th) 42) th (gI (thX g' th) 19))) (K := 59) (s1.base fz (by decide)) (show gI (thX g' th) 20 = nI j' from x9) x2 (by rw [(tok_same f42 (by decide)).1, etk]; exact x10) (.inl rfl)
        refine ⟨0, sI (sI (sIA (thX g' th) 42 (upd (gIA (thX g' th) 42) th (gI (thX g' th) 19))) 21 1) 22 (nI (ta (sIA (thX g' th) 42 (upd (gIA (thX g' th) 42) th (gI (thX g' th) 19))) j')), ?_, .inr ⟨rfl, RfI.of fz x2 (tX.base f42 (by decide)) x4 x5 (Fr.refl _ _) x6⟩⟩
        unfold b_X12_thing_296
        rw [grd_t (inB_nI hth (by decide)), cth, bnd_s (show f_X12_need (sIA (thX g' th) 42 (upd (gIA (thX g' th) 42) th (gI (thX g' th) 19))) 59 = _ from dn)]; rfl
      · rw [if_neg (show ¬ nI p = (0 : Int32) by rw [show p = 1 by omega]; decide)]
        have dn := doom_need (gX := thX g' th) (K := 204) (s1.base fX (by decide)) (show gI (thX g' th) 20 = nI j' from x9) x2 (by rw [etk]; exact x10) (.inr rfl)
        rw [bnd_s (show f_X12_need (thX g' th) 204 = _ from dn)]
        exact ⟨0, _, rfl, .inr ⟨rfl, RfI.of fX x2 tX x4 x5 (Fr.refl _ _) x6⟩⟩
