/-! plans' texts: bells from the first word on -/
def beA (W : Gs) (be j M : Nat) : Gs := sI (sIA (sIA W 48 (upd (gIA W 48) be (nI j))) 52 (upd (gIA W 52) be (nI M))) 26 0
theorem beA_fr (W : Gs) (be j M : Nat) : Fr [26, 48, 52] W (beA W be j M) := ((Fr.sIA (by decide) _ _).trans (Fr.sIA (by decide) _ _)).trans (Fr.sI (by decide) _ _)
def beC (B : Gs) (be j a : Nat) : Gs := sIA (sI B 20 (nI j)) 51 (upd (gIA B 51) be (nI a))
theorem bell_65 {n hQ hP L T : Nat} {g2 gt : Gs} {B : Nat → Nat} {g W gr gs gp gc gr' gs' gp' gc' : Gs} {j N A M f th be ca ce : Nat} {num : Int32} {E : Nat → Nat × Nat × Nat} (hn : 20000 ≤ n) (hM : MR n hQ hP L T g2 gt B g gr gs gc j N A M f E) (hcn : gI g 33 = nI th ∧ gI g 34 = nI be ∧ gI g 35 = nI ca ∧ gI g 36 = nI ce) (hgp : gI gp 4 = nI (min th 40) ∧ gI gp 5 = nI (min be 12) ∧ gI gp 6 = nI (min ca 8)) (hby : 8 * th ≤ ta g j ∧ 8 * be ≤ ta g j ∧ 8 * ca ≤ ta g j ∧ 2 * ce ≤ j) (hk : 200 ≤ tk g j ∧ tk g j < 226) (hj2 : j + 2 < T) (hk2 : tk g (j + 1) = 2) (hW : Fr [20, 23, 34] g W) (hW20 : gI W 20 = nI (j + 1)) (hW34 : gI W 34 = nI (be + 1))
    (ht : TokAt L B g gt (j + 2) gs') (hs : Fr scA gs gs') (htm : Tm W gr') (hr : Fr [16] gr gr') (hc : Fr [10] gc gc') (h16 : gI gr' 16 = -1 ↔ gI gc' 10 = 0)
    (hnum : (num = nI (40 + be) ∧ be < 12 ∧ gr' = gr ∧ gc' = gc ∧ gp' = nameP gp gt (40 + be) (ta g (j + 1)) (te g (j + 1) - ta g (j + 1))) ∨ (num = -1 ∧ 12 ≤ be ∧ gp' = gp ∧ ¬ gI gc' 10 = 0))
    (hopen : gI gc 10 = 0 → (th ≤ 40 ∧ be ≤ 12 ∧ ca ≤ 8 ∧ f ≤ 2 * th + be) ∧ ∃ FA tn fn rkk, PN T g gt gp gc j th be ca f A M E FA ∧ PI g gp gc th be f FA M tn fn rkk ∧ PCm g gp ca ce) :
    ∃ b g', b_X12_bell_65 n W (nI be) = some (b, g') ∧ ItOut n hQ hP L T g2 gt B g gr gs gp gc j b g' (b_X5_readBell_49 n hQ hP gr' gt gs' g2 gp' gc' num) := by
  obtain ⟨⟨s1, s2, s3⟩, ⟨a1, a2, a3, a4, a5⟩, c1, ⟨d1, d2⟩, e1, e2, ⟨q1, q2, q3⟩, ⟨r1, r2, r3⟩, o1⟩ := id hM
  have hL : L ≤ 3000 := s2.1.1
  have hT := s1.2.2.1
  have htL := (s1.tok s3).2.2.2.2
  have hbe : be < 400 := by omega
  have cbe : (nI be).toNatClampNeg = be := nI_clamp (by omega)
  have l0 := s1.len (show j + 1 < T by omega)
  have l1 := s1.len (show j + 1 + 1 < T from hj2)
  have w0 := l0.2.2.2.2.1 hk.1 hk.2
  have w1 := l0.2.2.2.2.2.1 (.inr hk) (.inl hk2)
  have fA := beA_fr W be (j + 1) M
  have hA27 : gI (beA W be (j + 1) M) 27 = nI M := ((fA 27 (by decide)).1).trans (((hW 27 (by decide)).1).trans a5)
  have nb := name12 (s := 0) (t := nI (j + 1)) (a := -1) hA27 (by omega)
  have fB := nameG_fr (beA W be (j + 1) M) M 0 (nI (j + 1)) (-1)
  obtain ⟨w28, w29, w30, w31, w32⟩ := nameG_at (beA W be (j + 1) M) M 0 (nI (j + 1)) (-1)
  have nkB := nameG_nk (beA W be (j + 1) M) M 0 (nI (j + 1)) (-1)
  have hB20 : gI (nameG (beA W be (j + 1) M) M 0 (nI (j + 1)) (-1)) 20 = nI (j + 1) := ((fB 20 (by decide)).1).trans (((fA 20 (by decide)).1).trans hW20)
  have fC : Fr [20, 23, 26, 27, 28, 29, 30, 31, 32, 34, 48, 51, 52] g (beC (nameG (beA W be (j + 1) M) M 0 (nI (j + 1)) (-1)) be (j + 2) (ta g (j + 2))) := (((hW.mono (by decide)).trans (fA.mono (by decide))).trans (fB.mono (by decide))).trans ((Fr.sI (by decide) _ _).trans (Fr.sIA (by decide) _ _))
  have hXC : nTk [20, 23, 26, 27, 28, 29, 30, 31, 32, 34, 48, 51, 52] := by decide
  have hMC : MR n hQ hP L T g2 gt B (beC (nameG (beA W be (j + 1) M) M 0 (nI (j + 1)) (-1)) be (j + 2) (ta g (j + 2))) gr' gs' gc' (j + 2) N A (M + 1) f E := by
    refine ⟨⟨s1.base fC hXC, ht.base fC hXC, hj2⟩, ⟨rfl, ((fC 25 (by decide)).1).trans a2, ((fC 24 (by decide)).1).trans a3, ((fC 19 (by decide)).1).trans a4, rfl⟩, fun i hi => ((c1 i hi).fr fC (by decide)).base fC hXC, ⟨by rw [(hr 14 (by decide)).2.2.2.2.2.2]; exact d1, by rw [(hr 15 (by decide)).2.2.2.2.2.2]; exact d2⟩, ⟨?_, ?_⟩, h16, ⟨by rw [(hc 9 (by decide)).1]; exact q1, by rw [(hc 18 (by decide)).1]; exact q2, q3⟩, ⟨by omega, r2, by omega⟩, fun z => ?_⟩
    · rw [show gI (beC (nameG (beA W be (j + 1) M) M 0 (nI (j + 1)) (-1)) be (j + 2) (ta g (j + 2))) 23 = gI W 23 from rfl]; exact htm.1
    · rw [show gI (beC (nameG (beA W be (j + 1) M) M 0 (nI (j + 1)) (-1)) be (j + 2) (ta g (j + 2))) 23 = gI W 23 from rfl]; exact htm.2
    · rcases hnum with ⟨_, _, _, h, _⟩ | ⟨_, _, _, h⟩
      · rw [h] at z ⊢
        exact ⟨(o1 z).1, (o1 z).2.1, fun i hi => ((o1 z).2.2 i hi).base fC hXC⟩
      · exact absurd z h
  have hgp' : Fr [1, 2, 3] gp gp' := by
    rcases hnum with ⟨_, _, _, _, h⟩ | ⟨_, _, h, _⟩
    · rw [h]; exact nameP_fr _ _ _ _ _
    · rw [h]; exact Fr.refl _ _
  have openC : gI gc' 10 = 0 → (th ≤ 40 ∧ be < 12 ∧ ca ≤ 8 ∧ f ≤ 2 * th + be) ∧ ∃ FA tn fn rkk, PN T (beC (nameG (beA W be (j + 1) M) M 0 (nI (j + 1)) (-1)) be (j + 2) (ta g (j + 2))) gt gp' gc' (j + 2) th (be + 1) ca f A (M + 1) E FA ∧ PI (beC (nameG (beA W be (j + 1) M) M 0 (nI (j + 1)) (-1)) be (j + 2) (ta g (j + 2))) gp' gc' th be f FA M tn fn rkk ∧ PCm (beC (nameG (beA W be (j + 1) M) M 0 (nI (j + 1)) (-1)) be (j + 2) (ta g (j + 2))) gp' ca ce := by
    intro z
    rcases hnum with ⟨_, h12, _, hgc, hgp2⟩ | ⟨_, _, _, h⟩
    · rw [hgc] at z ⊢
      obtain ⟨⟨y1, y2, y3, y4⟩, FA, tn, fn, rkk, P1, P2, P3⟩ := hopen z
      refine ⟨⟨y1, h12, y3, y4⟩, FA, tn, fn, rkk, ?_, P2.keep (Nat.le_refl _) (fun _ _ => rfl) (fun q h1 h2 i hi => ?_) (fun q h1 h2 i hi => ?_) (fun q h1 h2 i hi => ?_) (fun b hb => ?_) (fun k hk => ?_) (fun _ _ => ⟨rfl, rfl, rfl⟩), fun c hc' => ?_⟩
      · rw [hgp2]
        exact P1.tellB s1 fC hXC (by show upd (gIA W 48) be (nI (j + 1)) = _; rw [(hW 48 (by decide)).2.2.2.1]) ((fC 37 (by decide)).2.2.2.1) ((fC 53 (by decide)).2.2.2.1) ((Nk.fr 0 M (X := [20, 23, 26, 34, 48, 52]) ((hW.mono (by decide)).trans (fA.mono (by decide))) (by decide)).trans (nkB.trans (Nk.fr 0 M (X := [20, 51]) ((Fr.sI (by decide) _ _).trans (Fr.sIA (by decide) _ _)) (by decide)) (by omega) (by omega)) (by omega) (by omega)) w28 w29 (by omega) (by omega) (by omega) hk2 ⟨y1, by omega, y3⟩ h12 hT
      · rw [(fC q (by simp; omega)).2.2.2.1]
      · by_cases h51 : q = 51
        · rw [h51]; show upd (gIA W 51) be _ i = _; rw [pk_un (by omega), (hW 51 (by decide)).2.2.2.1]
        · by_cases h52 : q = 52
          · rw [h52]; show upd (gIA W 52) be (nI M) i = _; rw [pk_un (by omega), (hW 52 (by decide)).2.2.2.1]
          · rw [(fC q (by simp; omega)).2.2.2.1]
      · rw [(hgp' q (by simp; omega)).2.2.2.1]
      · rw [(hgp' 10 (by decide)).2.2.2.1]
      · rw [(hgp' 11 (by decide)).2.2.2.1]
      · obtain ⟨m, a, z1, z2, z3, z4, z5, z6⟩ := P3 c hc'
        exact ⟨m, a, by rw [(fC 54 (by decide)).2.2.2.1]; exact z1, z2, by rw [(fC 55 (by decide)).2.2.2.1]; exact z3, by rw [(hgp' 13 (by decide)).2.2.2.1]; exact z4, z5, fun k hk => by rw [(fC 56 (by decide)).2.2.2.2.1, (hgp' 12 (by decide)).2.2.2.2.2.1]; exact z6 k hk⟩
    · exact absurd z h
  have frr : Fr rdA gr gr' := hr.mono (by decide)
  have frc : Fr cfA gc gc' := hc.mono (by decide)
  have fpl : Fr plA gp gp' := hgp'.mono (by decide)
  have fCP : Fr parP g (beC (nameG (beA W be (j + 1) M) M 0 (nI (j + 1)) (-1)) be (j + 2) (ta g (j + 2))) := fC.mono (by decide)
  have etC := tok_same fC hXC
  have hB10 : gIA (nameG (beA W be (j + 1) M) M 0 (nI (j + 1)) (-1)) 10 (j + 2) = nI (ta g (j + 2)) := by
    rw [show gIA (nameG (beA W be (j + 1) M) M 0 (nI (j + 1)) (-1)) 10 = gIA W 10 from rfl, (hW 10 (by decide)).2.2.2.1]; exact (s1.tok hj2).2.1
  have hC52 : gIA (beC (nameG (beA W be (j + 1) M) M 0 (nI (j + 1)) (-1)) be (j + 2) (ta g (j + 2))) 52 be = nI M := by show upd (gIA W 52) be (nI M) be = _; rw [pk_us]
  have hC51 : gIA (beC (nameG (beA W be (j + 1) M) M 0 (nI (j + 1)) (-1)) be (j + 2) (ta g (j + 2))) 51 be = nI (ta g (j + 2)) := by show upd (gIA W 51) be _ be = _; rw [pk_us]
  have hC26 : gI (beC (nameG (beA W be (j + 1) M) M 0 (nI (j + 1)) (-1)) be (j + 2) (ta g (j + 2))) 26 = 0 := rfl
  have hC34 : gI (beC (nameG (beA W be (j + 1) M) M 0 (nI (j + 1)) (-1)) be (j + 2) (ta g (j + 2))) 34 = nI (be + 1) := hW34
  have e65 : b_X12_bell_65 n W (nI be) = bnd (f_X12_need (beC (nameG (beA W be (j + 1) M) M 0 (nI (j + 1)) (-1)) be (j + 2) (ta g (j + 2))) (205 : Int32)) (fun q_8 => if q_8.1 = 0 then (some ((0 : Int32), q_8.2)) else (grd (inB (nI be) 400) (beTl n q_8.2 (nI be)))) := by
    unfold b_X12_bell_65 beTl
    rw [grd_t (inB_nI hbe (by decide)), grd_t (inB_nI hbe (by decide)), cbe, hW20, show gI W 27 = nI M from ((hW 27 (by decide)).1).trans a5]
    show bnd (f_X12_name (beA W be (j + 1) M) 0 (nI (j + 1)) (-1)) _ = _
    rw [bnd_s nb, hB20, nI_1, grd_t (inB_nI (by omega) (by decide)), grd_t (inB_nI hbe (by decide)), nI_clamp (show j + 1 + 1 < 2 ^ 31 by omega)]
    show bnd (f_X12_need (sIA (sI (nameG (beA W be (j + 1) M) M 0 (nI (j + 1)) (-1)) 20 (nI (j + 2))) 51 (upd (gIA (nameG (beA W be (j + 1) M) M 0 (nI (j + 1)) (-1)) 51) be (gIA (nameG (beA W be (j + 1) M) M 0 (nI (j + 1)) (-1)) 10 (j + 2)))) 205) _ = _
    rw [hB10]
    rfl
  rw [e65]
  generalize beC (nameG (beA W be (j + 1) M) M 0 (nI (j + 1)) (-1)) be (j + 2) (ta g (j + 2)) = C at *
  obtain ⟨⟨S1, S2, S3⟩, ⟨A1, _⟩, _, ⟨D1, D2⟩, _⟩ := id hMC
  have h5 : gI gs' 5 = nI (ta g (j + 2)) := ht.2.2.1
  have nd := need_both (gr := gr') (K := 205) (k := 15) S1 A1 S2 S3 (by decide) (by decide) kk205
  unfold b_X5_readBell_49
  rw [grd_t (show rEq (gR gr' 15) hP = true from decide_eq_true D2)]
  rcases nd with ⟨n1, n2, n3, gs3, n4, n5, n6⟩ | ⟨n1, n2, n3⟩
  · rw [bnd_s (show f_X12_need C 205 = _ from n3), bnd_s (show f_X5_expect n gr' gt gs' g2 15 = _ from n4), if_neg (show ¬ (1 : Int32) = 0 by decide), if_neg (show ¬ (1 : Int32) = 0 by decide), h5]
    have fD : Fr [20] C (sI C 20 (nI (j + 2 + 1))) := Fr.sI (by decide) _ _
    have hMD := hMC.go fD (by decide) rfl n5 n2 (by omega)
    have fCD : Fr parP g (sI C 20 (nI (j + 2 + 1))) := fCP.trans (fD.mono (by decide))
    have etD := (tok_same fCD (by decide)).2.1
    have l2 := s1.len (show j + 2 + 1 < T from n2)
    have e12 : ta g (j + 1 + 1) = ta g (j + 2) := rfl
    have w2 := l2.2.2.2.2.1 (by rw [← etC.1, n1]; decide) (by rw [← etC.1, n1]; decide)
    have hbe' := hby
    obtain ⟨b, g', k1, k2⟩ := bell_tail (r := M) (sg := ta g (j + 2)) (num := num) (gp := gp') (th := th) (be := be) (ca := ca) (ce := ce) (hsg := Nat.le_trans (s1.tok (show j + 2 < T by omega)).2.2.2.2 S2.1.1) hn hMD hC26 ⟨by rw [show gI (sI C 20 (nI (j + 2 + 1))) 33 = gI C 33 from rfl, (fC 33 (by decide)).1]; exact hcn.1, hC34, by rw [show gI (sI C 20 (nI (j + 2 + 1))) 35 = gI C 35 from rfl, (fC 35 (by decide)).1]; exact hcn.2.2.1, by rw [show gI (sI C 20 (nI (j + 2 + 1))) 36 = gI C 36 from rfl, (fC 36 (by decide)).1]; exact hcn.2.2.2⟩ ⟨by rw [(hgp' 4 (by decide)).1]; exact hgp.1, by rw [(hgp' 5 (by decide)).1]; exact hgp.2.1, by rw [(hgp' 6 (by decide)).1]; exact hgp.2.2⟩ (by rw [etD]; omega) (by omega) (by
      rcases hnum with ⟨h1, h2, _⟩ | ⟨h1, h2, _, h3⟩
      · exact .inl ⟨h1, h2⟩
      · exact .inr ⟨h1, h2, h3⟩) ⟨hC52, hC51⟩ (fun z => by
      obtain ⟨y1, FA, tn, fn, rkk, P1, P2, P3⟩ := openC z
      exact ⟨y1, FA, tn, fn, rkk, P1.same fD (by decide) (Fr.refl [] gp') (by decide) (Fr.refl [] gc') (by decide) (by omega), P2.keep (Nat.le_refl _) (fun _ _ => rfl) (fun q h1 h2 i hi => by rw [(fD q (by simp; omega)).2.2.2.1]) (fun q h1 h2 i hi => by rw [(fD q (by simp; omega)).2.2.2.1]) (fun _ _ _ _ _ => rfl) (fun _ _ => rfl) (fun _ _ => rfl) (fun _ _ => ⟨rfl, rfl, rfl⟩), P3⟩)
    refine ⟨b, g', by rw [grd_t (inB_nI hbe (by decide))]; exact k1, ?_⟩
    exact k2.after (by omega) fCD frr (hs.trans n6) fpl frc
  · rw [bnd_s (show f_X12_need C 205 = _ from n2), bnd_s (show f_X5_expect n gr' gt gs' g2 15 = _ from n3)]
    exact ⟨0, _, rfl, .inr ⟨rfl, RfI.of fCP S3 S2 frr hs fpl frc⟩⟩
theorem bell_both {n hQ hP L T : Nat} {g2 gt : Gs} {B : Nat → Nat} {g gr gs gp gc : Gs} {j th be ca : Nat} (hn : 20000 ≤ n) (hbt : ∀ q, q < L → byt (gIA gt 0 q)) (hM : MP n hQ hP L T g2 gt B g gr gs gp gc j th be ca) (hK : tk g j = 203) : ∃ b g', f_X12_bell n g = some (b, g') ∧ ItOut n hQ hP L T g2 gt B g gr gs gp gc j b g' (f_X5_readBell n hQ hP gr gt gs g2 gp gc) := by
  obtain ⟨N, A, M, f, ce, E, hM, hcn, hgp, hby, hopen⟩ := hM
  obtain ⟨⟨s1, s2, s3⟩, ⟨a1, a2, a3, a4, a5⟩, c1, ⟨d1, d2⟩, e1, e2, ⟨q1, q2, q3⟩, ⟨r1, r2, r3⟩, o1⟩ := id hM
  have hL : L ≤ 3000 := s2.1.1
  have hT := s1.2.2.1
  have k3 := (s1.tok s3).2.2.1
  have hT1 := tok_more s1 s3 (by rw [hK]; decide)
  obtain ⟨gs1, b1, b2, b3⟩ := s2.next s1 hT1
  obtain ⟨v1, v2, v3, v4, v5⟩ := s1.tok hT1
  have h2 : gI gs1 4 = 2 ↔ tk g (j + 1) = 2 := by
    rw [b2.2.1, ← (kk0 _ v3).2.2.2.2.2.1]
    exact nIx (a := kc (tk g (j + 1))) (b := 2) (by have := kc_lt v3; omega) (by decide)
  have rq : rEq (gR gr 14) hQ = true := decide_eq_true d1
  unfold f_X12_bell f_X5_readBell
  rw [bnd_s b1, a1, nI_1, grd_t (inB_nI (by omega) (by decide)), nI_clamp (by omega), v1]
  by_cases hk2 : tk g (j + 1) = 2
  · rw [ifP (c := 2) (b := 2) rfl hk2, if_pos (h2.mpr hk2), grd_t rq]
    have hT2 := tok_more s1 hT1 (by rw [hk2]; decide)
    have fW : Fr [20, 34] g (sI (sI g 20 (nI (j + 1))) 34 (nI (be + 1))) := (Fr.sI (by decide) _ _).trans (Fr.sI (by decide) _ _)
    obtain ⟨num, W, gr', gs', gp', gc', t1, t2, t3, t4, t5, t6, t7, t8, t9, t10⟩ := tell_both (g1 := sI (sI g 20 (nI (j + 1))) 34 (nI (be + 1))) (gs := gs1) (gp := gp) (c := be) (l := 12) (r0 := 40) s1 b2 hT2 hk2 ⟨d1, d2⟩ (show Tm (sI (sI g 20 (nI (j + 1))) 34 (nI (be + 1))) gr from e1) e2 (fun z => (hopen z).1.2.1) (by decide) (by decide) hL hbt
    have t2' : f_X5_tell n hQ hP gr gt gs1 g2 gp gc 40 (gI gp 5) 12 = some (num, gr', gs', gp', gc') := by rw [hgp.2.1]; exact t2
    have fWW : Fr [20, 23, 34] g W := (fW.mono (by decide)).trans (t6.mono (by decide))
    have eW : (if gI g 34 + 1 = (13 : Int32) then bnd (f_X12_much (sI (sI g 20 (nI (j + 1))) 34 (gI g 34 + 1)) (gIA g 10 (j + 1))) (fun q_37 => b_X12_bell_65 n q_37 (gI g 34)) else b_X12_bell_65 n (sI (sI g 20 (nI (j + 1))) 34 (gI g 34 + 1)) (gI g 34)) = b_X12_bell_65 n W (nI be) := by
      rw [hcn.2.1, nI_1, v2]
      by_cases h12 : be = 12
      · rw [if_pos h12] at t1
        rw [if_pos (show nI (be + 1) = (13 : Int32) by rw [h12]; rfl), bnd_s t1]
      · rw [if_neg h12] at t1
        injection t1 with t1
        rw [if_neg (show ¬ nI (be + 1) = (13 : Int32) from fun z => by have := (nI_eq (b := 13) (by have := (s1.tok s3).2.2.2.2; omega) (by decide)).mp z; omega), t1]
    have hk49 : ∀ X, (if num = (-1 : Int32) then b_X5_readBell_49 n hQ hP gr' gt gs' g2 gp' gc' (-1) else b_X5_readBell_49 n hQ hP gr' gt gs' g2 gp' gc' (40 + num)) = X ↔ b_X5_readBell_49 n hQ hP gr' gt gs' g2 gp' gc' (if num = -1 then -1 else 40 + num) = X := by
      intro X
      by_cases h : num = -1
      · rw [if_pos h, if_pos h]
      · rw [if_neg h, if_neg h]
    obtain ⟨b, g', k1, k2⟩ := bell_65 (W := W) (gr' := gr') (gs' := gs') (gp' := gp') (gc' := gc') (num := if num = -1 then -1 else 40 + num) (th := th) (be := be) (ca := ca) (ce := ce) hn hM hcn hgp hby (by omega) hT2 hk2 fWW (((t6 20 (by decide)).1).trans rfl) (((t6 34 (by decide)).1).trans rfl) t3 (b3.trans t4) t5 t7 t8 t9 (by
      rcases t10 with ⟨x1, x2, x3, x4, x5, x6⟩ | ⟨x1, x2, x3, x4⟩
      · exact .inl ⟨by rw [if_neg (by rw [x1]; exact nI_ne_m1 (by omega)), x1]; exact nI_add 40 be, x2, x4, x5, x6⟩
      · exact .inr ⟨if_pos x1, x2, x3, x4⟩) hopen
    refine ⟨b, g', ?_, ?_⟩
    · rw [← k1, ← eW]
      by_cases h41 : gI g 34 + 1 = (13 : Int32)
      · rw [if_pos h41, if_pos h41, grd_t (inB_nI (by omega) (by decide))]
      · rw [if_neg h41, if_neg h41]
    · rw [bnd_s t2', (hk49 _).mpr rfl]
      exact k2
  · rw [ifN (c := 2) (b := 2) rfl v4 (by decide) hk2, if_neg (fun z => hk2 (h2.mp z))]
    have fz : Fr [20] g (sI g 20 (nI (j + 1))) := Fr.sI (by decide) _ _
    rw [bnd_s (cannot12 (G := sI g 20 (nI (j + 1))) (j := j + 1) (s1.base fz (by decide)) (Fr.refl _ _) rfl hT1)]
    exact ⟨0, _, rfl, .inr ⟨rfl, RfI.of (fz.mono (by decide)) hT1 (b2.base fz (by decide)) (Fr.refl _ _) b3 (Fr.refl _ _) (Fr.refl _ _)⟩⟩
