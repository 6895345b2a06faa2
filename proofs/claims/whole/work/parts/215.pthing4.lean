/-! plans' texts: things whole -/
def thA (W : Gs) (th j p M : Nat) : Gs := sI (sIA (sIA (sIA W 37 (upd (gIA W 37) th (nI j))) 39 (upd (gIA W 39) th (nI p))) 45 (upd (gIA W 45) th (nI M))) 26 1
theorem thA_fr (W : Gs) (th j p M : Nat) : Fr [26, 37, 39, 45] W (thA W th j p M) := (((Fr.sIA (by decide) _ _).trans (Fr.sIA (by decide) _ _)).trans (Fr.sIA (by decide) _ _)).trans (Fr.sI (by decide) _ _)
def thE (D : Gs) (th s j a : Nat) : Gs := sIA (sI (sIA D 38 (upd (gIA D 38) th (nI s))) 20 (nI j)) 43 (upd (gIA D 43) th (nI a))
theorem thE_fr (D : Gs) (th s j a : Nat) : Fr [20, 38, 43] D (thE D th s j a) := ((Fr.sIA (by decide) _ _).trans (Fr.sI (by decide) _ _)).trans (Fr.sIA (by decide) _ _)
def th8 (n : Nat) (D : Gs) (v1 v2 : Int32) : Option (Int32 × Gs) := grd (inB (gI D 20) 3001) (bnd (f_X12_isSort (gIA D 9 (gI D 20).toNatClampNeg)) (fun q_11 => if q_11 = 0 then (bnd (f_X12_cannot D) (fun q_33 => grd (zB q_33.1) (some (q_33.1, q_33.2)))) else (grd (inB (gI D 20) 3001) (grd (inB v2 400) (grd (inB ((gI D 20) + (1 : Int32)) 3001) (grd (inB v2 400) (bnd (f_X12_need (sIA (sI (sIA D 38 (upd (gIA D 38) v2.toNatClampNeg ((gIA D 9 (gI D 20).toNatClampNeg) - (218 : Int32)))) 20 ((gI D 20) + (1 : Int32))) 43 (upd (gIA D 43) v2.toNatClampNeg (gIA D 10 ((gI D 20) + (1 : Int32)).toNatClampNeg))) (61 : Int32)) (fun q_17 => if q_17.1 = 0 then (some ((0 : Int32), q_17.2)) else (grd (inB v2 400) (thTl n q_17.2 v1 v2))))))))))
def cl8 (n hQ hP : Nat) (gr gt gs g2 gp gc : Gs) (x0 num ca : Int32) : Option (Int32 × Gs × Gs × Gs × Gs) := if (gI gs 4) < (28 : Int32) then (some ((0 : Int32), gr, gs, gp, gc)) else (if (gI gs 4) ≤ (35 : Int32) then (bnd (f_X7_advance n gs gt g2) (fun q_9 => grd (rEq (gR gr 15) hP) (bnd (f_X5_expect n gr gt q_9 g2 (43 : Int32)) (fun q_12 => if q_12.1 = 0 then (some ((0 : Int32), gr, q_12.2, gp, gc)) else clTl n hQ hP gr gt q_12.2 g2 gp gc x0 num ((gI gs 4) - (28 : Int32)) (gI q_9 5) ca)))) else (some ((0 : Int32), gr, gs, gp, gc)))
theorem thing_sort {n hQ hP L T : Nat} {g2 gt : Gs} {B : Nat → Nat} {g gr gs gp gc : Gs} {j N A M f th be ca ce p r : Nat} {num : Int32} {E : Nat → Nat × Nat × Nat} (hn : 20000 ≤ n) (hM : MR n hQ hP L T g2 gt B g gr gs gc j N A M f E) (h26 : gI g 26 = 1) (hcn : gI g 33 = nI (th + 1) ∧ gI g 34 = nI be ∧ gI g 35 = nI ca ∧ gI g 36 = nI ce) (hgp : gI gp 4 = nI (min th 40) ∧ gI gp 5 = nI (min be 12) ∧ gI gp 6 = nI (min ca 8)) (hby : 8 * (th + 1) ≤ ta g j + 3 ∧ 8 * be ≤ ta g j ∧ 8 * ca ≤ ta g j ∧ 2 * ce ≤ j) (hp : p ≤ 1) (hr : r < M) (hnum : (num = nI th ∧ th < 40) ∨ (num = -1 ∧ 40 ≤ th ∧ ¬ gI gc 10 = 0)) (hrow : gIA g 39 th = nI p ∧ gIA g 45 th = nI r)
    (hopen : gI gc 10 = 0 → (th < 40 ∧ be ≤ 12 ∧ ca ≤ 8 ∧ f ≤ 2 * th + be) ∧ ∃ FA tn fn rkk, PN T g gt gp gc j (th + 1) be ca f A M E FA ∧ PI g gp gc th be f FA r tn fn rkk ∧ PCm g gp ca ce) :
    ∃ b g', th8 n g (nI p) (nI th) = some (b, g') ∧ ItOut n hQ hP L T g2 gt B g gr gs gp gc j b g' (cl8 n hQ hP gr gt gs g2 gp gc (nI p) num (nI (min ca 8))) := by
  obtain ⟨⟨U1, U2, U3⟩, ⟨A1, _⟩, _, ⟨D1, D2⟩, _⟩ := id hM
  have hL : L ≤ 3000 := U2.1.1
  have hT := U1.2.2.1
  obtain ⟨v1, v2, v3, v4, v5⟩ := U1.tok U3
  have hth : th < 400 := by omega
  have cth : (nI th).toNatClampNeg = th := nI_clamp (by omega)
  have kl := kc_lt v3
  have kw := kcw v3
  have c20 : (gI g 20).toNatClampNeg = j := by rw [A1]; exact nI_clamp (by omega)
  have b20 : inB (gI g 20) 3001 = true := by rw [A1]; exact inB_nI (by omega) (by decide)
  have hno : ∀ {X : Option (Int32 × Gs × Gs × Gs × Gs)}, X = some (0, gr, gs, gp, gc) → f_X12_isSort (nI (tk g j)) = some 0 → ∃ b g', th8 n g (nI p) (nI th) = some (b, g') ∧ ItOut n hQ hP L T g2 gt B g gr gs gp gc j b g' X := by
    intro X hX hi
    unfold th8
    rw [grd_t b20, c20, v1, bnd_s hi, if_pos rfl, bnd_s (cannot12 (G := g) U1 (Fr.refl _ _) A1 U3)]
    refine ⟨0, _, rfl, .inr ⟨rfl, ?_⟩⟩
    rw [hX]
    exact RfI.of (Fr.refl _ _) U3 U2 (Fr.refl _ _) (Fr.refl _ _) (Fr.refl _ _) (Fr.refl _ _)
  by_cases k28 : 28 ≤ kc (tk g j)
  · have h28 : ¬ gI gs 4 < (28 : Int32) := by rw [U2.2.1]; exact nI_nlt (b := 28) k28 (by omega)
    by_cases k35 : kc (tk g j) ≤ 35
    · have h35 : gI gs 4 ≤ (35 : Int32) := by rw [U2.2.1]; exact nI_le (b := 35) k35 (by decide)
      obtain ⟨z1, z2⟩ := kw.1.mpr ⟨k28, k35⟩
      have ke := kw.2.2 (by omega) (by omega)
      have hi : f_X12_isSort (nI (tk g j)) = some 1 := by
        unfold f_X12_isSort
        rw [if_neg (show ¬ nI _ < (218 : Int32) from nI_nlt (b := 218) z1 (by omega)), if_neg (show ¬ (225 : Int32) < nI _ from nI_nlt (a := 225) z2 (by decide))]
      have hT4 := tok_more U1 U3 (by omega)
      obtain ⟨gs4, b1, b2, b3⟩ := U2.next U1 hT4
      have v10 : gIA g 10 (j + 1) = nI (ta g (j + 1)) := (U1.tok hT4).2.1
      have es : nI (tk g j) - (218 : Int32) = nI (tk g j - 218) := nI_sub (b := 218) z1
      have es2 : gI gs 4 - (28 : Int32) = nI (tk g j - 218) := by
        rw [U2.2.1, ke, show tk g j - 218 = tk g j - 190 - 28 by omega]; exact nI_sub (b := 28) (by omega)
      have hs7 : tk g j - 218 ≤ 7 := by omega
      have fE := thE_fr g th (tk g j - 218) (j + 1) (ta g (j + 1))
      have hME := hM.go fE (by decide) rfl b2 hT4 (by omega)
      obtain ⟨⟨V1, V2, V3⟩, _⟩ := id hME
      have ne := need_both (gr := gr) (K := 61) (k := 43) V1 rfl V2 V3 (by decide) (by decide) kk61
      have fEP : Fr parP g (thE g th (tk g j - 218) (j + 1) (ta g (j + 1))) := fE.mono (by decide)
      unfold th8 cl8
      rw [grd_t b20, c20, v1, bnd_s hi, if_neg (show ¬ (1 : Int32) = 0 by decide), grd_t b20, grd_t (inB_nI hth (by decide)), cth, A1, nI_1, grd_t (inB_nI (by omega) (by decide)), grd_t (inB_nI hth (by decide)), nI_clamp (show j + 1 < 2 ^ 31 by omega), v10, es, if_neg h28, if_pos h35, bnd_s b1, grd_t (show rEq (gR gr 15) hP = true from decide_eq_true D2), es2]
      show ∃ b g', bnd (f_X12_need (thE g th (tk g j - 218) (j + 1) (ta g (j + 1))) 61) _ = some (b, g') ∧ _
      rcases ne with ⟨m1, m2, m3, gs5, m4, m5, m6⟩ | ⟨m1, m2, m3⟩
      · rw [bnd_s (show f_X12_need (thE _ _ _ _ _) 61 = _ from m3), bnd_s (show f_X5_expect n gr gt gs4 g2 43 = _ from m4), if_neg (show ¬ (1 : Int32) = 0 by decide), if_neg (show ¬ (1 : Int32) = 0 by decide)]
        have x38 : gIA (thE g th (tk g j - 218) (j + 1) (ta g (j + 1))) 38 = upd (gIA g 38) th (nI (tk g j - 218)) := rfl
        have x43 : gIA (thE g th (tk g j - 218) (j + 1) (ta g (j + 1))) 43 = upd (gIA g 43) th (nI (ta g (j + 1))) := rfl
        generalize thE g th (tk g j - 218) (j + 1) (ta g (j + 1)) = X at *
        have fF : Fr [20] X (sI X 20 (nI (j + 1 + 1))) := Fr.sI (by decide) _ _
        have hMF := hME.go fF (by decide) rfl m5 m2 (by omega)
        have fCX : Fr [20, 38, 43] g (sI X 20 (nI (j + 1 + 1))) := fE.trans (fF.mono (by decide))
        have fgF : Fr parP g (sI X 20 (nI (j + 1 + 1))) := fEP.trans (fF.mono (by decide))
        have etaF := (tok_same fgF (by decide)).2.1
        have h4 : gI gs4 5 = nI (ta g (j + 1)) := b2.2.2.1
        have l3 := U1.len (show j + 1 < T from hT4)
        have l4 := U1.len (show j + 1 + 1 < T from m2)
        have l3w := l3.2.2.2.2.1 (by omega) (by omega)
        have y38 : gIA (sI X 20 (nI (j + 1 + 1))) 38 = upd (gIA g 38) th (nI (tk g j - 218)) := x38
        have y43 : gIA (sI X 20 (nI (j + 1 + 1))) 43 = upd (gIA g 43) th (nI (ta g (j + 1))) := x43
        obtain ⟨b, g', k1, k2⟩ := thing_tail (p := p) (s := tk g j - 218) (r := r) (sg := ta g (j + 1)) (num := num) (gp := gp) (th := th) (be := be) (ca := ca) (ce := ce) (hsg := Nat.le_trans (U1.tok (show j + 1 < T from hT4)).2.2.2.2 hL) hn hMF (by rw [(fCX 26 (by decide)).1]; exact h26) ⟨by rw [(fCX 33 (by decide)).1]; exact hcn.1, by rw [(fCX 34 (by decide)).1]; exact hcn.2.1, by rw [(fCX 35 (by decide)).1]; exact hcn.2.2.1, by rw [(fCX 36 (by decide)).1]; exact hcn.2.2.2⟩ hgp (by rw [etaF]; omega) hp hs7 hr hnum ⟨by rw [y38, pk_us], by rw [(fCX 39 (by decide)).2.2.2.1]; exact hrow.1, by rw [(fCX 45 (by decide)).2.2.2.1]; exact hrow.2, by rw [y43, pk_us]⟩ (fun z => by
            obtain ⟨y1, FA, tn, fn, rkk, P1, P2, P3⟩ := hopen z
            refine ⟨y1, FA, tn, fn, rkk, P1.same fCX (by decide) (Fr.refl [] gp) (by decide) (Fr.refl [] gc) (by decide) (by omega), P2.keep (Nat.le_refl _) (fun _ _ => rfl) (fun q h1 h2 i hi => ?_) (fun q h1 h2 i hi => ?_) (fun _ _ _ _ _ => rfl) (fun _ _ => rfl) (fun _ _ => rfl) (fun _ _ => ⟨rfl, rfl, rfl⟩), fun c hc' => ?_⟩
            · by_cases h38 : q = 38
              · rw [h38, y38, pk_un (by omega)]
              · by_cases h43 : q = 43
                · rw [h43, y43, pk_un (by omega)]
                · rw [(fCX q (by simp; omega)).2.2.2.1]
            · rw [(fCX q (by simp; omega)).2.2.2.1]
            · obtain ⟨m, a, z1, z2, z3, z4, z5, z6⟩ := P3 c hc'
              exact ⟨m, a, by rw [(fCX 54 (by decide)).2.2.2.1]; exact z1, z2, by rw [(fCX 55 (by decide)).2.2.2.1]; exact z3, z4, z5, fun k hk => by rw [(fCX 56 (by decide)).2.2.2.2.1]; exact z6 k hk⟩)
        refine ⟨b, g', ?_, ?_⟩
        · show grd (inB (nI th) 400) (thTl n (sI X 20 (nI (j + 1 + 1))) (nI p) (nI th)) = _
          rw [grd_t (inB_nI hth (by decide))]; exact k1
        · rw [h4]
          exact k2.after (by omega) fgF (Fr.refl _ _) (b3.trans m6) (Fr.refl _ _) (Fr.refl _ _)
      · rw [bnd_s (show f_X12_need (thE _ _ _ _ _) 61 = _ from m2), bnd_s (show f_X5_expect n gr gt gs4 g2 43 = _ from m3)]
        exact ⟨0, _, rfl, .inr ⟨rfl, RfI.of fEP V3 V2 (Fr.refl _ _) b3 (Fr.refl _ _) (Fr.refl _ _)⟩⟩
    · have h35 : ¬ gI gs 4 ≤ (35 : Int32) := by rw [U2.2.1]; exact nI_ge (a := 35) (by omega) (by omega)
      refine hno (by unfold cl8; rw [if_neg h28, if_neg h35]) ?_
      unfold f_X12_isSort
      by_cases z1 : tk g j < 218
      · rw [if_pos (show nI _ < (218 : Int32) from nI_lt (b := 218) z1 (by decide))]
      · rw [if_neg (show ¬ nI _ < (218 : Int32) from nI_nlt (b := 218) (by omega) (by omega)), if_pos (show (225 : Int32) < nI _ from nI_lt (a := 225) (Decidable.byContradiction fun z2 => by have := kw.1.mp ⟨by omega, by omega⟩; omega) (by omega))]
  · have h28 : gI gs 4 < (28 : Int32) := by rw [U2.2.1]; exact nI_lt (b := 28) (by omega) (by decide)
    refine hno (by unfold cl8; rw [if_pos h28]) ?_
    unfold f_X12_isSort
    by_cases z1 : tk g j < 218
    · rw [if_pos (show nI _ < (218 : Int32) from nI_lt (b := 218) z1 (by decide))]
    · rw [if_neg (show ¬ nI _ < (218 : Int32) from nI_nlt (b := 218) (by omega) (by omega)), if_pos (show (225 : Int32) < nI _ from nI_lt (a := 225) (Decidable.byContradiction fun z2 => by have := kw.1.mp ⟨by omega, by omega⟩; omega) (by omega))]
theorem thing_86 {n hQ hP L T : Nat} {g2 gt : Gs} {B : Nat → Nat} {g W gr gs gp gc gr' gs' gp' gc' : Gs} {j N A M f th be ca ce p : Nat} {num : Int32} {E : Nat → Nat × Nat × Nat} (hn : 20000 ≤ n) (hM : MR n hQ hP L T g2 gt B g gr gs gc j N A M f E) (hcn : gI g 33 = nI th ∧ gI g 34 = nI be ∧ gI g 35 = nI ca ∧ gI g 36 = nI ce) (hgp : gI gp 4 = nI (min th 40) ∧ gI gp 5 = nI (min be 12) ∧ gI gp 6 = nI (min ca 8)) (hby : 8 * th ≤ ta g j ∧ 8 * be ≤ ta g j ∧ 8 * ca ≤ ta g j ∧ 2 * ce ≤ j) (hp : p ≤ 1) (hk : 200 ≤ tk g j ∧ tk g j < 226) (hj2 : j + 2 < T) (hk2 : tk g (j + 1) = 2) (hW : Fr [20, 23, 33] g W) (hW20 : gI W 20 = nI (j + 1)) (hW33 : gI W 33 = nI (th + 1))
    (ht : TokAt L B g gt (j + 2) gs') (hs : Fr scA gs gs') (htm : Tm W gr') (hr : Fr [16] gr gr') (hc : Fr [10] gc gc') (h16 : gI gr' 16 = -1 ↔ gI gc' 10 = 0)
    (hnum : (num = nI th ∧ th < 40 ∧ gr' = gr ∧ gc' = gc ∧ gp' = nameP gp gt th (ta g (j + 1)) (te g (j + 1) - ta g (j + 1))) ∨ (num = -1 ∧ 40 ≤ th ∧ gp' = gp ∧ ¬ gI gc' 10 = 0))
    (hopen : gI gc 10 = 0 → (th ≤ 40 ∧ be ≤ 12 ∧ ca ≤ 8 ∧ f ≤ 2 * th + be) ∧ ∃ FA tn fn rkk, PN T g gt gp gc j th be ca f A M E FA ∧ PI g gp gc th be f FA M tn fn rkk ∧ PCm g gp ca ce) :
    ∃ b g', b_X12_thing_86 n W (nI p) (nI th) = some (b, g') ∧ ItOut n hQ hP L T g2 gt B g gr gs gp gc j b g' (bnd (f_X5_expect n gr' gt gs' g2 (40 : Int32)) (fun q_7 => if q_7.1 = 0 then (some ((0 : Int32), gr', q_7.2, gp', gc')) else cl8 n hQ hP gr' gt q_7.2 g2 gp' gc' (nI p) num (gI gp 6))) := by
  obtain ⟨⟨s1, s2, s3⟩, ⟨a1, a2, a3, a4, a5⟩, c1, ⟨d1, d2⟩, e1, e2, ⟨q1, q2, q3⟩, ⟨r1, r2, r3⟩, o1⟩ := id hM
  have hL : L ≤ 3000 := s2.1.1
  have hT := s1.2.2.1
  have htL := (s1.tok s3).2.2.2.2
  have hth : th < 400 := by omega
  have cth : (nI th).toNatClampNeg = th := nI_clamp (by omega)
  have l0 := s1.len (show j + 1 < T by omega)
  have l1 := s1.len (show j + 1 + 1 < T from hj2)
  have w0 := l0.2.2.2.2.1 hk.1 hk.2
  have w1 := l0.2.2.2.2.2.1 (.inr hk) (.inl hk2)
  -- the name
  have fA := thA_fr W th (j + 1) p M
  have hA27 : gI (thA W th (j + 1) p M) 27 = nI M := ((fA 27 (by decide)).1).trans (((hW 27 (by decide)).1).trans a5)
  have nb := name12 (s := 0) (t := nI (j + 1)) (a := -1) hA27 (by omega)
  have fB := nameG_fr (thA W th (j + 1) p M) M 0 (nI (j + 1)) (-1)
  obtain ⟨w28, w29, w30, w31, w32⟩ := nameG_at (thA W th (j + 1) p M) M 0 (nI (j + 1)) (-1)
  have nkB := nameG_nk (thA W th (j + 1) p M) M 0 (nI (j + 1)) (-1)
  have hB20 : gI (nameG (thA W th (j + 1) p M) M 0 (nI (j + 1)) (-1)) 20 = nI (j + 1) := ((fB 20 (by decide)).1).trans (((fA 20 (by decide)).1).trans hW20)
  have fC : Fr [20, 23, 26, 27, 28, 29, 30, 31, 32, 33, 37, 39, 45] g (sI (nameG (thA W th (j + 1) p M) M 0 (nI (j + 1)) (-1)) 20 (nI (j + 2))) := (((hW.mono (by decide)).trans (fA.mono (by decide))).trans (fB.mono (by decide))).trans (Fr.sI (by decide) _ _)
  have hXC : nTk [20, 23, 26, 27, 28, 29, 30, 31, 32, 33, 37, 39, 45] := by decide
  have hMC : MR n hQ hP L T g2 gt B (sI (nameG (thA W th (j + 1) p M) M 0 (nI (j + 1)) (-1)) 20 (nI (j + 2))) gr' gs' gc' (j + 2) N A (M + 1) f E := by
    refine ⟨⟨s1.base fC hXC, ht.base fC hXC, hj2⟩, ⟨rfl, ((fC 25 (by decide)).1).trans a2, ((fC 24 (by decide)).1).trans a3, ((fC 19 (by decide)).1).trans a4, rfl⟩, fun i hi => ((c1 i hi).fr fC (by decide)).base fC hXC, ⟨by rw [(hr 14 (by decide)).2.2.2.2.2.2]; exact d1, by rw [(hr 15 (by decide)).2.2.2.2.2.2]; exact d2⟩, ⟨?_, ?_⟩, h16, ⟨by rw [(hc 9 (by decide)).1]; exact q1, by rw [(hc 18 (by decide)).1]; exact q2, q3⟩, ⟨by omega, r2, by omega⟩, fun z => ?_⟩
    · rw [show gI (sI (nameG (thA W th (j + 1) p M) M 0 (nI (j + 1)) (-1)) 20 (nI (j + 2))) 23 = gI W 23 from rfl]; exact htm.1
    · rw [show gI (sI (nameG (thA W th (j + 1) p M) M 0 (nI (j + 1)) (-1)) 20 (nI (j + 2))) 23 = gI W 23 from rfl]; exact htm.2
    · rcases hnum with ⟨_, _, _, h, _⟩ | ⟨_, _, _, h⟩
      · rw [h] at z ⊢
        exact ⟨(o1 z).1, (o1 z).2.1, fun i hi => ((o1 z).2.2 i hi).base fC hXC⟩
      · exact absurd z h
  have hgp' : Fr [1, 2, 3] gp gp' := by
    rcases hnum with ⟨_, _, _, _, h⟩ | ⟨_, _, h, _⟩
    · rw [h]; exact nameP_fr _ _ _ _ _
    · rw [h]; exact Fr.refl _ _
  have openC : gI gc' 10 = 0 → (th < 40 ∧ be ≤ 12 ∧ ca ≤ 8 ∧ f ≤ 2 * th + be) ∧ ∃ FA tn fn rkk, PN T (sI (nameG (thA W th (j + 1) p M) M 0 (nI (j + 1)) (-1)) 20 (nI (j + 2))) gt gp' gc' (j + 2) (th + 1) be ca f A (M + 1) E FA ∧ PI (sI (nameG (thA W th (j + 1) p M) M 0 (nI (j + 1)) (-1)) 20 (nI (j + 2))) gp' gc' th be f FA M tn fn rkk ∧ PCm (sI (nameG (thA W th (j + 1) p M) M 0 (nI (j + 1)) (-1)) 20 (nI (j + 2))) gp' ca ce := by
    intro z
    rcases hnum with ⟨_, h40, _, hgc, hgp2⟩ | ⟨_, _, _, h⟩
    · rw [hgc] at z ⊢
      obtain ⟨⟨y1, y2, y3, y4⟩, FA, tn, fn, rkk, P1, P2, P3⟩ := hopen z
      refine ⟨⟨h40, y2, y3, y4⟩, FA, tn, fn, rkk, ?_, P2.keep (Nat.le_refl _) (fun _ _ => rfl) (fun q h1 h2 i hi => ?_) (fun q h1 h2 i hi => ?_) (fun q h1 h2 i hi => ?_) (fun b hb => ?_) (fun k hk => ?_) (fun _ _ => ⟨rfl, rfl, rfl⟩), fun c hc' => ?_⟩
      · rw [hgp2]
        exact P1.tellT s1 fC hXC (by show upd (gIA W 37) th (nI (j + 1)) = _; rw [(hW 37 (by decide)).2.2.2.1]) ((fC 48 (by decide)).2.2.2.1) ((fC 53 (by decide)).2.2.2.1) ((Nk.fr 0 M (X := [20, 23, 26, 33, 37, 39, 45]) ((hW.mono (by decide)).trans (fA.mono (by decide))) (by decide)).trans (nkB.trans (Nk.fr 0 M (X := [20]) (Fr.sI (by decide) _ _) (by decide)) (by omega) (by omega)) (by omega) (by omega)) w28 w29 (by omega) (by omega) (by omega) hk2 ⟨by omega, y2, y3⟩ h40 hT
      · by_cases h39 : q = 39
        · rw [h39]; show upd (gIA W 39) th (nI p) i = _; rw [pk_un (by omega), (hW 39 (by decide)).2.2.2.1]
        · by_cases h45 : q = 45
          · rw [h45]; show upd (gIA W 45) th (nI M) i = _; rw [pk_un (by omega), (hW 45 (by decide)).2.2.2.1]
          · rw [(fC q (by simp; omega)).2.2.2.1]
      · rw [(fC q (by simp; omega)).2.2.2.1]
      · rw [(hgp' q (by simp; omega)).2.2.2.1]
      · rw [(hgp' 10 (by decide)).2.2.2.1]
      · rw [(hgp' 11 (by decide)).2.2.2.1]
      · obtain ⟨m, a, z1, z2, z3, z4, z5, z6⟩ := P3 c hc'
        exact ⟨m, a, by rw [(fC 54 (by decide)).2.2.2.1]; exact z1, z2, by rw [(fC 55 (by decide)).2.2.2.1]; exact z3, by rw [(hgp' 13 (by decide)).2.2.2.1]; exact z4, z5, fun k hk => by rw [(fC 56 (by decide)).2.2.2.2.1, (hgp' 12 (by decide)).2.2.2.2.2.1]; exact z6 k hk⟩
    · exact absurd z h
  have frr : Fr rdA gr gr' := hr.mono (by decide)
  have frc : Fr cfA gc gc' := hc.mono (by decide)
  have fpl : Fr plA gp gp' := hgp'.mono (by decide)
  have fCP : Fr parP g (sI (nameG (thA W th (j + 1) p M) M 0 (nI (j + 1)) (-1)) 20 (nI (j + 2))) := fC.mono (by decide)
  have etC := tok_same fC hXC
  -- : and the sort
  generalize hgC : sI (nameG (thA W th (j + 1) p M) M 0 (nI (j + 1)) (-1)) 20 (nI (j + 2)) = C at *
  have e86 : b_X12_thing_86 n W (nI p) (nI th) = bnd (f_X12_need C (58 : Int32)) (fun q_8 => if q_8.1 = 0 then (some ((0 : Int32), q_8.2)) else th8 n q_8.2 (nI p) (nI th)) := by
    unfold b_X12_thing_86 th8 thTl
    rw [grd_t (inB_nI hth (by decide)), grd_t (inB_nI hth (by decide)), grd_t (inB_nI hth (by decide)), cth, hW20, show gI W 27 = nI M from ((hW 27 (by decide)).1).trans a5, bool01 hp]
    show bnd (f_X12_name (thA W th (j + 1) p M) 0 (nI (j + 1)) (-1)) _ = _
    rw [bnd_s nb, hB20, nI_1, ← hgC]
  rw [e86]
  obtain ⟨⟨S1, S2, S3⟩, ⟨A1, _⟩, _⟩ := id hMC
  have nd := need_both (gr := gr') (K := 58) (k := 40) S1 A1 S2 S3 (by decide) (by decide) kk58
  rcases nd with ⟨n1, n2, n3, gs3, n4, n5, n6⟩ | ⟨n1, n2, n3⟩
  · rw [bnd_s (show f_X12_need C 58 = _ from n3), bnd_s (show f_X5_expect n gr' gt gs' g2 40 = _ from n4), if_neg (show ¬ (1 : Int32) = 0 by decide), if_neg (show ¬ (1 : Int32) = 0 by decide)]
    have fD : Fr [20] C (sI C 20 (nI (j + 2 + 1))) := Fr.sI (by decide) _ _
    have hMD := hMC.go fD (by decide) rfl n5 n2 (by omega)
    have fCD : Fr parP g (sI C 20 (nI (j + 2 + 1))) := fCP.trans (fD.mono (by decide))
    have etD := (tok_same fCD (by decide)).2.1
    have l2 := s1.len (show j + 2 + 1 < T from n2)
    have e12 : ta g (j + 1 + 1) = ta g (j + 2) := rfl
    have hC26 : gI C 26 = 1 := by rw [← hgC]; rfl
    have hC39 : gIA C 39 th = nI p := by rw [← hgC]; show upd (gIA W 39) th (nI p) th = _; rw [pk_us]
    have hC45 : gIA C 45 th = nI M := by rw [← hgC]; show upd (gIA W 45) th (nI M) th = _; rw [pk_us]
    have hC33 : gI C 33 = nI (th + 1) := by rw [← hgC]; exact hW33
    obtain ⟨b, g', k1, k2⟩ := thing_sort (p := p) (r := M) (num := num) (gp := gp') (th := th) (be := be) (ca := ca) (ce := ce) hn hMD hC26 ⟨hC33, by rw [show gI (sI C 20 (nI (j + 2 + 1))) 34 = gI C 34 from rfl, (fC 34 (by decide)).1]; exact hcn.2.1, by rw [show gI (sI C 20 (nI (j + 2 + 1))) 35 = gI C 35 from rfl, (fC 35 (by decide)).1]; exact hcn.2.2.1, by rw [show gI (sI C 20 (nI (j + 2 + 1))) 36 = gI C 36 from rfl, (fC 36 (by decide)).1]; exact hcn.2.2.2⟩ ⟨by rw [(hgp' 4 (by decide)).1]; exact hgp.1, by rw [(hgp' 5 (by decide)).1]; exact hgp.2.1, by rw [(hgp' 6 (by decide)).1]; exact hgp.2.2⟩ (by rw [etD]; omega) hp (by omega) (by
      rcases hnum with ⟨h1, h2, _⟩ | ⟨h1, h2, _, h3⟩
      · exact .inl ⟨h1, h2⟩
      · exact .inr ⟨h1, h2, h3⟩) ⟨hC39, hC45⟩ (fun z => by
      obtain ⟨y1, FA, tn, fn, rkk, P1, P2, P3⟩ := openC z
      exact ⟨y1, FA, tn, fn, rkk, P1.same fD (by decide) (Fr.refl [] gp') (by decide) (Fr.refl [] gc') (by decide) (by omega), P2.keep (Nat.le_refl _) (fun _ _ => rfl) (fun q h1 h2 i hi => by rw [(fD q (by simp; omega)).2.2.2.1]) (fun q h1 h2 i hi => by rw [(fD q (by simp; omega)).2.2.2.1]) (fun _ _ _ _ _ => rfl) (fun _ _ => rfl) (fun _ _ => rfl) (fun _ _ => ⟨rfl, rfl, rfl⟩), P3⟩)
    refine ⟨b, g', k1, ?_⟩
    rw [hgp.2.2]
    exact k2.after (by omega) fCD frr (hs.trans n6) fpl frc
  · rw [bnd_s (show f_X12_need C 58 = _ from n2), bnd_s (show f_X5_expect n gr' gt gs' g2 40 = _ from n3)]
    exact ⟨0, _, rfl, .inr ⟨rfl, RfI.of fCP S3 S2 frr hs fpl frc⟩⟩
