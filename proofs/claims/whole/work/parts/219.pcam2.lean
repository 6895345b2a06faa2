/-! plans' texts: cams whole -/
theorem cam_end {n hQ hP L T : Nat} {g2 gt : Gs} {B : Nat → Nat} {g gr gs gp gc : Gs} {j k th be ca ce : Nat} {num : Int32} {rec' : Gs → Gs → Gs → Gs → Gs → Gs → Int32 → Int32 → Int32 → Option (Int32 × Gs × Gs × Gs × Gs)} (h : CML n hQ hP L T g2 gt B g gr gs gp gc j 1 k th be ca ce num) (hk : 1 ≤ k) : ∃ b g', bnd (f_X12_need g (59 : Int32)) (fun q_9 => grd (zB q_9.1) (some (q_9.1, q_9.2))) = some (b, g') ∧ ItOut n hQ hP L T g2 gt B g gr gs gp gc j b g' (b_X5_readCam_222 n hQ hP rec' gr gt gs g2 gp gc num) := by
  obtain ⟨N, A, M, f, E, hM, hcn, hcm, hgp, hby, hnum, hopen⟩ := h
  obtain ⟨⟨s1, s2, s3⟩, ⟨a1, a2, a3, a4, a5⟩, c1, ⟨d1, d2⟩, e1, e2, ⟨q1, q2, q3⟩, ⟨r1, r2, r3⟩, o1⟩ := id hM
  rw [if_neg (by omega)] at hby
  have htL := (s1.tok s3).2.2.2.2
  have hL : L ≤ 3000 := s2.1.1
  have nb := need_both (gr := gr) (K := 59) (k := 41) s1 a1 s2 s3 (by decide) (by decide) kk59
  have hcl : ∃ gp', b_X5_readCam_222 n hQ hP rec' gr gt gs g2 gp gc num = bnd (f_X5_expect n gr gt gs g2 (41 : Int32)) (fun q_9 => grd (zB q_9.1) (some (q_9.1, gr, q_9.2, gp', gc))) ∧ Fr [6] gp gp' ∧ gI gp' 6 = nI (min (ca + 1) 8) := by
    unfold b_X5_readCam_222 b_X5_readCam_240
    rw [grd_t (show rEq (gR gr 14) hQ = true from decide_eq_true d1)]
    rcases hnum with ⟨x1, x2⟩ | ⟨x1, x2, _⟩
    · rw [if_neg (by rw [x1]; exact nI_ne_m1 (by omega))]
      refine ⟨_, rfl, Fr.sI (by decide) _ _, ?_⟩
      show gI gp 6 + 1 = _
      rw [hgp.2.2, Nat.min_eq_left (by omega), Nat.min_eq_left (by omega), nI_1]
    · rw [if_pos x1]
      refine ⟨_, rfl, Fr.sI (by decide) _ _, ?_⟩
      show gI gp 6 + 0 = _
      rw [hgp.2.2, Nat.min_eq_right (by omega), Nat.min_eq_right (by omega)]; rfl
  obtain ⟨gp', k1, k2, k3⟩ := hcl
  rw [k1]
  rcases nb with ⟨n1, n2, n3, gs', n4, n5, n6⟩ | ⟨n1, n2, n3⟩
  · have fZ : Fr [20] g (sI g 20 (nI (j + 1))) := Fr.sI (by decide) _ _
    have hMZ := hM.go fZ (by decide) rfl n5 n2 (by omega)
    have lj := s1.len n2
    refine ⟨1, sI g 20 (nI (j + 1)), ?_, .inl ⟨rfl, j + 1, gr, gs', gp', gc, th, be, ca + 1, ?_, ⟨N, A, M, f, ce + k, E, hMZ, ⟨hcn.1, hcn.2.1, hcn.2.2.1, hcn.2.2.2⟩, ⟨by rw [(k2 4 (by decide)).1]; exact hgp.1, by rw [(k2 5 (by decide)).1]; exact hgp.2.1, k3⟩, ?_, fun z => ?_⟩, by omega, fZ.mono (by decide), Fr.refl _ _, n6, k2.mono (by decide), Fr.refl _ _⟩⟩
    · rw [bnd_s (show f_X12_need g 59 = _ from n3)]; rfl
    · rw [bnd_s (show f_X5_expect n gr gt gs g2 41 = _ from n4)]; rfl
    · rw [(tok_same fZ (by decide)).2.1]; omega
    · obtain ⟨⟨y1, y2, y3, y4, y5⟩, x13, xv, FA, tn, fn, rkk, P1, P2, P3⟩ := hopen z
      refine ⟨⟨y1, y2, by omega, y4⟩, FA, tn, fn, rkk, P1.same fZ (by decide) k2 (by decide) (Fr.refl [] gc) (by decide) (by omega), P2.keep (Nat.le_refl _) (fun _ _ => rfl) (fun q h1 h2 i hi => by rw [(fZ q (by simp; omega)).2.2.2.1]) (fun q h1 h2 i hi => by rw [(fZ q (by simp; omega)).2.2.2.1]) (fun q h1 h2 i hi => by rw [(k2 q (by simp; omega)).2.2.2.1]) (fun b hb => by rw [(k2 10 (by decide)).2.2.2.1]) (fun k hk => by rw [(k2 11 (by decide)).2.2.2.1]) (fun _ _ => ⟨rfl, rfl, rfl⟩), fun c hc => ?_⟩
      by_cases h : c = ca
      · rw [h]
        exact ⟨k, ce, hcm.1, by omega, hcm.2, by rw [(k2 13 (by decide)).2.2.2.1]; exact x13 hk, y5, fun i hi => by rw [(k2 12 (by decide)).2.2.2.2.2.1]; exact xv i hi⟩
      · obtain ⟨m, a, z1, z2, z3, z4, z5, z6⟩ := P3 c (by omega)
        exact ⟨m, a, z1, by omega, z3, by rw [(k2 13 (by decide)).2.2.2.1]; exact z4, z5, fun i hi => by rw [(k2 12 (by decide)).2.2.2.2.2.1]; exact z6 i hi⟩
  · rw [bnd_s (show f_X12_need g 59 = _ from n2), bnd_s (show f_X5_expect n gr gt gs g2 41 = _ from n3)]
    exact ⟨0, _, rfl, .inr ⟨rfl, RfI.of (Fr.refl _ _) s3 s2 (Fr.refl _ _) (Fr.refl _ _) (k2.mono (by decide)) (Fr.refl _ _)⟩⟩
theorem cam_loop {n hQ hP L T : Nat} {g2 gt : Gs} {B : Nat → Nat} {th be ca ce : Nat} {num : Int32} (hn : 20000 ≤ n) : ∀ (d k1 k2 : Nat) (g gr gs gp gc : Gs) (j k : Nat), T - j < d → d + 1 < k1 → d + 1 < k2 → CML n hQ hP L T g2 gt B g gr gs gp gc j 0 k th be ca ce num → ∃ b g', L_X12_cam n k1 g (nI ca) 1 = some (b, g') ∧ ItOut n hQ hP L T g2 gt B g gr gs gp gc j b g' (L_X5_readCam n hQ hP k2 gr gt gs g2 gp gc num 1 (nI k)) := by
  intro d
  induction d with
  | zero => intro k1 k2 g gr gs gp gc j k hd; omega
  | succ d ih =>
    intro k1 k2 g gr gs gp gc j k hd h1 h2 h
    obtain ⟨k1, rfl⟩ : ∃ q, k1 = q + 1 := ⟨k1 - 1, by omega⟩
    obtain ⟨k2, rfl⟩ : ∃ q, k2 = q + 1 := ⟨k2 - 1, by omega⟩
    have s3 := h.choose_spec.choose_spec.choose_spec.choose_spec.choose_spec.1.1.2.2
    show ∃ b g', h_X12_cam_125 n (L_X12_cam n k1) g (nI ca) 1 = some (b, g') ∧ ItOut n hQ hP L T g2 gt B g gr gs gp gc j b g' (h_X5_readCam_51 n hQ hP (L_X5_readCam n hQ hP k2) gr gt gs g2 gp gc num 1 (nI k))
    rcases cam_tooth (rec := L_X12_cam n k1) (rec' := L_X5_readCam n hQ hP k2) hn h with ⟨g', x1, x2⟩ | ⟨gZ, grZ, gsZ, gpZ, gcZ, jn, x1, x2, x3, x4, x5, x6, x7, x8, x9⟩
    · exact ⟨0, g', x1, .inr ⟨rfl, x2⟩⟩
    · rw [x8, x9]
      have x1' := x1
      obtain ⟨N, A, M, f, E, hM, hcn, hcm, hgp, hby, hnum, hopen⟩ := x1
      obtain ⟨⟨s1, s2, s3'⟩, ⟨a1, _⟩, _⟩ := id hM
      have hT := s1.2.2.1
      obtain ⟨v1, v2, v3, v4, v5⟩ := s1.tok s3'
      have ex := expect7 (n := n) (gt := gt) (g2 := g2) (gr := grZ) (gs := gsZ) (k := kc (tk gZ jn)) (K := 42) s2.2.1 (by have := kc_lt v3; omega) (by decide)
      by_cases h44 : tk gZ jn = 44
      · have k42 : kc (tk gZ jn) = 42 := by rw [h44]; decide
        have hT1 := tok_more s1 s3' (by omega)
        obtain ⟨gs', n1, n2, n3⟩ := s2.next s1 hT1
        rw [if_pos k42, bnd_s n1] at ex
        rw [if_pos h44, bnd_s (show f_X5_expect n grZ gt gsZ g2 42 = _ from ex)]
        have fZ : Fr [20] gZ (sI gZ 20 (nI (jn + 1))) := Fr.sI (by decide) _ _
        have mono := ta_mono s1 (show jn ≤ jn + 1 by omega) hT1
        have hC : CML n hQ hP L T g2 gt B (sI gZ 20 (nI (jn + 1))) grZ gs' gpZ gcZ (jn + 1) 0 (k + 1) th be ca ce num := ⟨N, A, M, f, E, hM.go fZ (by decide) rfl n2 hT1 (by omega), hcn, hcm, hgp, by rw [(tok_same fZ (by decide)).2.1]; rw [if_neg (by omega)] at hby ⊢; omega, hnum, fun z => by
          obtain ⟨y1, y2, y3, FA, tn, fn, rkk, P1, P2, P3⟩ := hopen z
          exact ⟨y1, y2, y3, FA, tn, fn, rkk, P1.same fZ (by decide) (Fr.refl [] gpZ) (by decide) (Fr.refl [] gcZ) (by decide) (by omega), P2.keep (Nat.le_refl _) (fun _ _ => rfl) (fun q h1 h2 i hi => by rw [(fZ q (by simp; omega)).2.2.2.1]) (fun q h1 h2 i hi => by rw [(fZ q (by simp; omega)).2.2.2.1]) (fun _ _ _ _ _ => rfl) (fun _ _ => rfl) (fun _ _ => rfl) (fun _ _ => ⟨rfl, rfl, rfl⟩), P3⟩⟩
        obtain ⟨b, g', y1, y2⟩ := ih k1 k2 _ grZ gs' gpZ gcZ (jn + 1) (k + 1) (by omega) (by omega) (by omega) hC
        exact ⟨b, g', y1, y2.after (by omega) (x3.trans (fZ.mono (by decide))) x4 (x5.trans n3) x6 x7⟩
      · have k42 : ¬ kc (tk gZ jn) = 42 := fun z => h44 ((kk0 _ v3).2.2.2.2.2.2.2.1.mp z)
        rw [if_neg k42] at ex
        rw [if_neg h44, bnd_s (show f_X5_expect n grZ gt gsZ g2 42 = _ from ex)]
        obtain ⟨k1, rfl⟩ : ∃ q, k1 = q + 1 := ⟨k1 - 1, by omega⟩
        obtain ⟨k2, rfl⟩ : ∃ q, k2 = q + 1 := ⟨k2 - 1, by omega⟩
        obtain ⟨b, g', y1, y2⟩ := cam_end (rec' := L_X5_readCam n hQ hP k2) x1' (by omega)
        refine ⟨b, g', ?_, ?_⟩
        · show h_X12_cam_125 n (L_X12_cam n k1) gZ (nI ca) 0 = _
          unfold h_X12_cam_125
          rw [if_pos rfl]; exact y1
        · show ItOut n hQ hP L T g2 gt B g gr gs gp gc j b g' (h_X5_readCam_51 n hQ hP (L_X5_readCam n hQ hP k2) grZ gt gsZ g2 gpZ gcZ num 0 (nI (k + 1)))
          unfold h_X5_readCam_51
          rw [if_pos (show (0 : Int32) = 0 from rfl), ite_self]
          exact y2.after (by omega) x3 x4 x5 x6 x7
def caA (W : Gs) (ca j ce : Nat) : Gs := sIA (sIA (sIA W 53 (upd (gIA W 53) ca (nI j))) 54 (upd (gIA W 54) ca (nI ce))) 55 (upd (gIA W 55) ca 0)
theorem caA_fr (W : Gs) (ca j ce : Nat) : Fr [53, 54, 55] W (caA W ca j ce) := ((Fr.sIA (by decide) _ _).trans (Fr.sIA (by decide) _ _)).trans (Fr.sIA (by decide) _ _)
theorem cam_65 {n hQ hP L T : Nat} {g2 gt : Gs} {B : Nat → Nat} {g W gr gs gp gc gr' gs' gp' gc' : Gs} {j N A M f th be ca ce : Nat} {num : Int32} {E : Nat → Nat × Nat × Nat} (hn : 20000 ≤ n) (hM : MR n hQ hP L T g2 gt B g gr gs gc j N A M f E) (hcn : gI g 33 = nI th ∧ gI g 34 = nI be ∧ gI g 35 = nI ca ∧ gI g 36 = nI ce) (hgp : gI gp 4 = nI (min th 40) ∧ gI gp 5 = nI (min be 12) ∧ gI gp 6 = nI (min ca 8)) (hby : 8 * th ≤ ta g j ∧ 8 * be ≤ ta g j ∧ 8 * ca ≤ ta g j ∧ 2 * ce ≤ j) (hk : 200 ≤ tk g j ∧ tk g j < 226) (hj2 : j + 2 < T) (hk2 : tk g (j + 1) = 2) (hW : Fr [20, 23, 35] g W) (hW20 : gI W 20 = nI (j + 1)) (hW35 : gI W 35 = nI (ca + 1))
    (ht : TokAt L B g gt (j + 2) gs') (hs : Fr scA gs gs') (htm : Tm W gr') (hr : Fr [16] gr gr') (hc : Fr [10] gc gc') (h16 : gI gr' 16 = -1 ↔ gI gc' 10 = 0)
    (hnum : (num = nI ca ∧ ca < 8 ∧ gr' = gr ∧ gc' = gc ∧ gp' = nameP gp gt (52 + ca) (ta g (j + 1)) (te g (j + 1) - ta g (j + 1))) ∨ (num = -1 ∧ 8 ≤ ca ∧ gp' = gp ∧ ¬ gI gc' 10 = 0))
    (hopen : gI gc 10 = 0 → (th ≤ 40 ∧ be ≤ 12 ∧ ca ≤ 8 ∧ f ≤ 2 * th + be) ∧ ∃ FA tn fn rkk, PN T g gt gp gc j th be ca f A M E FA ∧ PI g gp gc th be f FA M tn fn rkk ∧ PCm g gp ca ce) :
    ∃ b g', b_X12_cam_65 n (L_X12_cam n n) W (nI ca) = some (b, g') ∧ ItOut n hQ hP L T g2 gt B g gr gs gp gc j b g' (bnd (f_X5_expect n gr' gt gs' g2 (43 : Int32)) (fun q_6 => if q_6.1 = 0 then (some ((0 : Int32), gr', q_6.2, gp', gc')) else ((L_X5_readCam n hQ hP n) gr' gt q_6.2 g2 gp' gc' num (1 : Int32) (0 : Int32)))) := by
  obtain ⟨⟨s1, s2, s3⟩, ⟨a1, a2, a3, a4, a5⟩, c1, ⟨d1, d2⟩, e1, e2, ⟨q1, q2, q3⟩, ⟨r1, r2, r3⟩, o1⟩ := id hM
  have hL : L ≤ 3000 := s2.1.1
  have hT := s1.2.2.1
  have htL := (s1.tok s3).2.2.2.2
  have hca : ca < 400 := by omega
  have cca : (nI ca).toNatClampNeg = ca := nI_clamp (by omega)
  have l0 := s1.len (show j + 1 < T by omega)
  have l1 := s1.len (show j + 1 + 1 < T from hj2)
  have w0 := l0.2.2.2.2.1 hk.1 hk.2
  have w1 := l0.2.2.2.2.2.1 (.inr hk) (.inl hk2)
  have hW36 : gI W 36 = nI ce := ((hW 36 (by decide)).1).trans hcn.2.2.2
  have fA := caA_fr W ca (j + 1) ce
  have hA27 : gI (caA W ca (j + 1) ce) 27 = nI M := ((fA 27 (by decide)).1).trans (((hW 27 (by decide)).1).trans a5)
  have nb := name12 (s := 0) (t := nI (j + 1)) (a := -1) hA27 (by omega)
  have fB := nameG_fr (caA W ca (j + 1) ce) M 0 (nI (j + 1)) (-1)
  obtain ⟨w28, w29, w30, w31, w32⟩ := nameG_at (caA W ca (j + 1) ce) M 0 (nI (j + 1)) (-1)
  have nkB := nameG_nk (caA W ca (j + 1) ce) M 0 (nI (j + 1)) (-1)
  have hB20 : gI (nameG (caA W ca (j + 1) ce) M 0 (nI (j + 1)) (-1)) 20 = nI (j + 1) := ((fB 20 (by decide)).1).trans (((fA 20 (by decide)).1).trans hW20)
  have fC : Fr [20, 23, 27, 28, 29, 30, 31, 32, 35, 53, 54, 55] g (sI (nameG (caA W ca (j + 1) ce) M 0 (nI (j + 1)) (-1)) 20 (nI (j + 2))) := (((hW.mono (by decide)).trans (fA.mono (by decide))).trans (fB.mono (by decide))).trans (Fr.sI (by decide) _ _)
  have hXC : nTk [20, 23, 27, 28, 29, 30, 31, 32, 35, 53, 54, 55] := by decide
  have hMC : MR n hQ hP L T g2 gt B (sI (nameG (caA W ca (j + 1) ce) M 0 (nI (j + 1)) (-1)) 20 (nI (j + 2))) gr' gs' gc' (j + 2) N A (M + 1) f E := by
    refine ⟨⟨s1.base fC hXC, ht.base fC hXC, hj2⟩, ⟨rfl, ((fC 25 (by decide)).1).trans a2, ((fC 24 (by decide)).1).trans a3, ((fC 19 (by decide)).1).trans a4, rfl⟩, fun i hi => ((c1 i hi).fr fC (by decide)).base fC hXC, ⟨by rw [(hr 14 (by decide)).2.2.2.2.2.2]; exact d1, by rw [(hr 15 (by decide)).2.2.2.2.2.2]; exact d2⟩, ⟨?_, ?_⟩, h16, ⟨by rw [(hc 9 (by decide)).1]; exact q1, by rw [(hc 18 (by decide)).1]; exact q2, q3⟩, ⟨by omega, r2, by omega⟩, fun z => ?_⟩
    · rw [show gI (sI (nameG (caA W ca (j + 1) ce) M 0 (nI (j + 1)) (-1)) 20 (nI (j + 2))) 23 = gI W 23 from rfl]; exact htm.1
    · rw [show gI (sI (nameG (caA W ca (j + 1) ce) M 0 (nI (j + 1)) (-1)) 20 (nI (j + 2))) 23 = gI W 23 from rfl]; exact htm.2
    · rcases hnum with ⟨_, _, _, h, _⟩ | ⟨_, _, _, h⟩
      · rw [h] at z ⊢
        exact ⟨(o1 z).1, (o1 z).2.1, fun i hi => ((o1 z).2.2 i hi).base fC hXC⟩
      · exact absurd z h
  have hgp' : Fr [1, 2, 3] gp gp' := by
    rcases hnum with ⟨_, _, _, _, h⟩ | ⟨_, _, h, _⟩
    · rw [h]; exact nameP_fr _ _ _ _ _
    · rw [h]; exact Fr.refl _ _
  have z54 : gIA (sI (nameG (caA W ca (j + 1) ce) M 0 (nI (j + 1)) (-1)) 20 (nI (j + 2))) 54 = upd (gIA g 54) ca (nI ce) := by show upd (gIA W 54) ca _ = _; rw [(hW 54 (by decide)).2.2.2.1]
  have z55 : gIA (sI (nameG (caA W ca (j + 1) ce) M 0 (nI (j + 1)) (-1)) 20 (nI (j + 2))) 55 = upd (gIA g 55) ca (nI 0) := by show upd (gIA W 55) ca _ = _; rw [(hW 55 (by decide)).2.2.2.1]; rfl
  have openC : gI gc' 10 = 0 → (th ≤ 40 ∧ be ≤ 12 ∧ ca < 8 ∧ f ≤ 2 * th + be) ∧ ∃ FA tn fn rkk, PN T (sI (nameG (caA W ca (j + 1) ce) M 0 (nI (j + 1)) (-1)) 20 (nI (j + 2))) gt gp' gc' (j + 2) th be (ca + 1) f A (M + 1) E FA ∧ PI (sI (nameG (caA W ca (j + 1) ce) M 0 (nI (j + 1)) (-1)) 20 (nI (j + 2))) gp' gc' th be f FA (M + 1) tn fn rkk ∧ PCm (sI (nameG (caA W ca (j + 1) ce) M 0 (nI (j + 1)) (-1)) 20 (nI (j + 2))) gp' ca ce := by
    intro z
    rcases hnum with ⟨_, h8, _, hgc, hgp2⟩ | ⟨_, _, _, h⟩
    · rw [hgc] at z ⊢
      obtain ⟨⟨y1, y2, y3, y4⟩, FA, tn, fn, rkk, P1, P2, P3⟩ := hopen z
      refine ⟨⟨y1, y2, h8, y4⟩, FA, tn, fn, rkk, ?_, P2.keep (by omega) (fun _ _ => rfl) (fun q h1 h2 i hi => by rw [(fC q (by simp; omega)).2.2.2.1]) (fun q h1 h2 i hi => by rw [(fC q (by simp; omega)).2.2.2.1]) (fun q h1 h2 i hi => by rw [(hgp' q (by simp; omega)).2.2.2.1]) (fun b hb => by rw [(hgp' 10 (by decide)).2.2.2.1]) (fun k hk => by rw [(hgp' 11 (by decide)).2.2.2.1]) (fun _ _ => ⟨rfl, rfl, rfl⟩), fun c hc' => ?_⟩
      · rw [hgp2]
        exact P1.tellC s1 fC hXC (by show upd (gIA W 53) ca (nI (j + 1)) = _; rw [(hW 53 (by decide)).2.2.2.1]) ((fC 37 (by decide)).2.2.2.1) ((fC 48 (by decide)).2.2.2.1) ((Nk.fr 0 M (X := [20, 23, 35, 53, 54, 55]) ((hW.mono (by decide)).trans (fA.mono (by decide))) (by decide)).trans (nkB.trans (Nk.fr 0 M (X := [20]) (Fr.sI (by decide) _ _) (by decide)) (by omega) (by omega)) (by omega) (by omega)) w28 w29 (by omega) (by omega) (by omega) hk2 ⟨y1, y2, by omega⟩ h8 hT
      · obtain ⟨m, a, z1, z2, z3, z4, z5, z6⟩ := P3 c hc'
        exact ⟨m, a, by rw [z54, pk_un (by omega)]; exact z1, z2, by rw [z55, pk_un (by omega)]; exact z3, by rw [(hgp' 13 (by decide)).2.2.2.1]; exact z4, z5, fun k hk => by rw [(fC 56 (by decide)).2.2.2.2.1, (hgp' 12 (by decide)).2.2.2.2.2.1]; exact z6 k hk⟩
    · exact absurd z h
  have frr : Fr rdA gr gr' := hr.mono (by decide)
  have frc : Fr cfA gc gc' := hc.mono (by decide)
  have fpl : Fr plA gp gp' := hgp'.mono (by decide)
  have fCP : Fr parP g (sI (nameG (caA W ca (j + 1) ce) M 0 (nI (j + 1)) (-1)) 20 (nI (j + 2))) := fC.mono (by decide)
  have hC35 : gI (sI (nameG (caA W ca (j + 1) ce) M 0 (nI (j + 1)) (-1)) 20 (nI (j + 2))) 35 = nI (ca + 1) := hW35
  have e65 : b_X12_cam_65 n (L_X12_cam n n) W (nI ca) = bnd (f_X12_need (sI (nameG (caA W ca (j + 1) ce) M 0 (nI (j + 1)) (-1)) 20 (nI (j + 2))) (61 : Int32)) (fun q_7 => if q_7.1 = 0 then (some ((0 : Int32), q_7.2)) else (L_X12_cam n n q_7.2 (nI ca) (1 : Int32))) := by
    unfold b_X12_cam_65
    rw [grd_t (inB_nI hca (by decide)), grd_t (inB_nI hca (by decide)), grd_t (inB_nI hca (by decide)), cca, hW20, hW36]
    show bnd (f_X12_name (caA W ca (j + 1) ce) 0 (nI (j + 1)) (-1)) _ = _
    rw [bnd_s nb, hB20, nI_1]
  rw [e65]
  generalize sI (nameG (caA W ca (j + 1) ce) M 0 (nI (j + 1)) (-1)) 20 (nI (j + 2)) = C at *
  obtain ⟨⟨S1, S2, S3⟩, ⟨A1, _⟩, _, ⟨D1, D2⟩, _⟩ := id hMC
  have nd := need_both (gr := gr') (K := 61) (k := 43) S1 A1 S2 S3 (by decide) (by decide) kk61
  rcases nd with ⟨n1, n2, n3, gs3, n4, n5, n6⟩ | ⟨n1, n2, n3⟩
  · rw [bnd_s (show f_X12_need C 61 = _ from n3), bnd_s (show f_X5_expect n gr' gt gs' g2 43 = _ from n4), if_neg (show ¬ (1 : Int32) = 0 by decide), if_neg (show ¬ (1 : Int32) = 0 by decide)]
    have fD : Fr [20] C (sI C 20 (nI (j + 2 + 1))) := Fr.sI (by decide) _ _
    have hMD := hMC.go fD (by decide) rfl n5 n2 (by omega)
    have fCD : Fr parP g (sI C 20 (nI (j + 2 + 1))) := fCP.trans (fD.mono (by decide))
    have etD := (tok_same fCD (by decide)).2.1
    have l2 := s1.len (show j + 2 + 1 < T from n2)
    have e12 : ta g (j + 1 + 1) = ta g (j + 2) := rfl
    have hC : CML n hQ hP L T g2 gt B (sI C 20 (nI (j + 2 + 1))) gr' gs3 gp' gc' (j + 2 + 1) 0 0 th be ca ce num := ⟨N, A, M + 1, f, E, hMD, ⟨by rw [show gI (sI C 20 (nI (j + 2 + 1))) 33 = gI C 33 from rfl, (fC 33 (by decide)).1]; exact hcn.1, by rw [show gI (sI C 20 (nI (j + 2 + 1))) 34 = gI C 34 from rfl, (fC 34 (by decide)).1]; exact hcn.2.1, hC35, by rw [show gI (sI C 20 (nI (j + 2 + 1))) 36 = gI C 36 from rfl, (fC 36 (by decide)).1]; exact hcn.2.2.2⟩, ⟨by rw [show gIA (sI C 20 (nI (j + 2 + 1))) 54 = gIA C 54 from rfl, z54, pk_us], by rw [show gIA (sI C 20 (nI (j + 2 + 1))) 55 = gIA C 55 from rfl, z55, pk_us]⟩, ⟨by rw [(hgp' 4 (by decide)).1]; exact hgp.1, by rw [(hgp' 5 (by decide)).1]; exact hgp.2.1, by rw [(hgp' 6 (by decide)).1]; exact hgp.2.2⟩, by rw [etD, if_pos rfl]; omega, by
      rcases hnum with ⟨h1, h2, _⟩ | ⟨h1, h2, _, h3⟩
      · exact .inl ⟨h1, h2⟩
      · exact .inr ⟨h1, h2, h3⟩, fun z => by
      obtain ⟨y1, FA, tn, fn, rkk, P1, P2, P3⟩ := openC z
      exact ⟨⟨y1.1, y1.2.1, y1.2.2.1, y1.2.2.2, by omega⟩, fun z => by omega, fun i hi => by omega, FA, tn, fn, rkk, P1.same fD (by decide) (Fr.refl [] gp') (by decide) (Fr.refl [] gc') (by decide) (by omega), P2.keep (Nat.le_refl _) (fun _ _ => rfl) (fun q h1 h2 i hi => by rw [(fD q (by simp; omega)).2.2.2.1]) (fun q h1 h2 i hi => by rw [(fD q (by simp; omega)).2.2.2.1]) (fun _ _ _ _ _ => rfl) (fun _ _ => rfl) (fun _ _ => rfl) (fun _ _ => ⟨rfl, rfl, rfl⟩), P3⟩⟩
    obtain ⟨b, g', k1, k2⟩ := cam_loop hn (T + 1) n n _ gr' gs3 gp' gc' (j + 2 + 1) 0 (by omega) (by omega) (by omega) hC
    exact ⟨b, g', k1, k2.after (by omega) fCD frr (hs.trans n6) fpl frc⟩
  · rw [bnd_s (show f_X12_need C 61 = _ from n2), bnd_s (show f_X5_expect n gr' gt gs' g2 43 = _ from n3)]
    exact ⟨0, _, rfl, .inr ⟨rfl, RfI.of fCP S3 S2 frr hs fpl frc⟩⟩
theorem cam_both {n hQ hP L T : Nat} {g2 gt : Gs} {B : Nat → Nat} {g gr gs gp gc : Gs} {j th be ca : Nat} (hn : 20000 ≤ n) (hbt : ∀ q, q < L → byt (gIA gt 0 q)) (hM : MP n hQ hP L T g2 gt B g gr gs gp gc j th be ca) (hK : tk g j = 202) : ∃ b g', f_X12_cam n g = some (b, g') ∧ ItOut n hQ hP L T g2 gt B g gr gs gp gc j b g' (f_X5_readCam n hQ hP gr gt gs g2 gp gc) := by
  obtain ⟨N, A, M, f, ce, E, hM, hcn, hgp, hby, hopen⟩ := hM
  obtain ⟨⟨s1, s2, s3⟩, ⟨a1, a2, a3, a4, a5⟩, c1, ⟨d1, d2⟩, e1, e2, ⟨q1, q2, q3⟩, ⟨r1, r2, r3⟩, o1⟩ := id hM
  have hL : L ≤ 3000 := s2.1.1
  have hT := s1.2.2.1
  have hT1 := tok_more s1 s3 (by rw [hK]; decide)
  obtain ⟨gs1, b1, b2, b3⟩ := s2.next s1 hT1
  obtain ⟨v1, v2, v3, v4, v5⟩ := s1.tok hT1
  have h2 : gI gs1 4 = 2 ↔ tk g (j + 1) = 2 := by
    rw [b2.2.1, ← (kk0 _ v3).2.2.2.2.2.1]
    exact nIx (a := kc (tk g (j + 1))) (b := 2) (by have := kc_lt v3; omega) (by decide)
  have rq : rEq (gR gr 14) hQ = true := decide_eq_true d1
  unfold f_X12_cam f_X5_readCam
  rw [bnd_s b1, a1, nI_1, grd_t (inB_nI (by omega) (by decide)), nI_clamp (by omega), v1]
  by_cases hk2 : tk g (j + 1) = 2
  · rw [ifP (c := 2) (b := 2) rfl hk2, if_pos (h2.mpr hk2), grd_t rq]
    have hT2 := tok_more s1 hT1 (by rw [hk2]; decide)
    have fW : Fr [20, 35] g (sI (sI g 20 (nI (j + 1))) 35 (nI (ca + 1))) := (Fr.sI (by decide) _ _).trans (Fr.sI (by decide) _ _)
    obtain ⟨num, W, gr', gs', gp', gc', t1, t2, t3, t4, t5, t6, t7, t8, t9, t10⟩ := tell_both (g1 := sI (sI g 20 (nI (j + 1))) 35 (nI (ca + 1))) (gs := gs1) (gp := gp) (c := ca) (l := 8) (r0 := 52) s1 b2 hT2 hk2 ⟨d1, d2⟩ (show Tm (sI (sI g 20 (nI (j + 1))) 35 (nI (ca + 1))) gr from e1) e2 (fun z => (hopen z).1.2.2.1) (by decide) (by decide) hL hbt
    have t2' : f_X5_tell n hQ hP gr gt gs1 g2 gp gc 52 (gI gp 6) 8 = some (num, gr', gs', gp', gc') := by rw [hgp.2.2]; exact t2
    have fWW : Fr [20, 23, 35] g W := (fW.mono (by decide)).trans (t6.mono (by decide))
    have eW : (if gI g 35 + 1 = (9 : Int32) then bnd (f_X12_much (sI (sI g 20 (nI (j + 1))) 35 (gI g 35 + 1)) (gIA g 10 (j + 1))) (fun q_37 => b_X12_cam_65 n (L_X12_cam n n) q_37 (gI g 35)) else b_X12_cam_65 n (L_X12_cam n n) (sI (sI g 20 (nI (j + 1))) 35 (gI g 35 + 1)) (gI g 35)) = b_X12_cam_65 n (L_X12_cam n n) W (nI ca) := by
      rw [hcn.2.2.1, nI_1, v2]
      by_cases h8 : ca = 8
      · rw [if_pos h8] at t1
        rw [if_pos (show nI (ca + 1) = (9 : Int32) by rw [h8]; rfl), bnd_s t1]
      · rw [if_neg h8] at t1
        injection t1 with t1
        rw [if_neg (show ¬ nI (ca + 1) = (9 : Int32) from fun z => by have := (nI_eq (b := 9) (by have := (s1.tok s3).2.2.2.2; omega) (by decide)).mp z; omega), t1]
    obtain ⟨b, g', k1, k2⟩ := cam_65 (W := W) (gr' := gr') (gs' := gs') (gp' := gp') (gc' := gc') (num := num) (th := th) (be := be) (ca := ca) (ce := ce) hn hM hcn hgp hby (by omega) hT2 hk2 fWW (((t6 20 (by decide)).1).trans rfl) (((t6 35 (by decide)).1).trans rfl) t3 (b3.trans t4) t5 t7 t8 t9 (by
      rcases t10 with ⟨x1, x2, x3, x4, x5, x6⟩ | ⟨x1, x2, x3, x4⟩
      · exact .inl ⟨x1, x2, x4, x5, x6⟩
      · exact .inr ⟨x1, x2, x3, x4⟩) hopen
    refine ⟨b, g', ?_, ?_⟩
    · rw [← k1, ← eW]
      by_cases h41 : gI g 35 + 1 = (9 : Int32)
      · rw [if_pos h41, if_pos h41, grd_t (inB_nI (by omega) (by decide))]
      · rw [if_neg h41, if_neg h41]
    · rw [bnd_s t2']
      exact k2
  · rw [ifN (c := 2) (b := 2) rfl v4 (by decide) hk2, if_neg (fun z => hk2 (h2.mp z))]
    have fz : Fr [20] g (sI g 20 (nI (j + 1))) := Fr.sI (by decide) _ _
    rw [bnd_s (cannot12 (G := sI g 20 (nI (j + 1))) (j := j + 1) (s1.base fz (by decide)) (Fr.refl _ _) rfl hT1)]
    exact ⟨0, _, rfl, .inr ⟨rfl, RfI.of (fz.mono (by decide)) hT1 (b2.base fz (by decide)) (Fr.refl _ _) b3 (Fr.refl _ _) (Fr.refl _ _)⟩⟩
