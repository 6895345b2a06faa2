/-! settling: all of it, on both sides -/
theorem Nd.all {T : Nat} {g gt gp : Gs} {k row i : Nat} (h : Nd T g gt gp k row i) (hT : T ≤ 3001) : gIA g k i = nI (rtk g k i) ∧ rtk g k i < T ∧ tk g (rtk g k i) = 2 ∧ gIA gp 2 row = nI (te g (rtk g k i) - ta g (rtk g k i)) ∧ ∀ q, q < te g (rtk g k i) - ta g (rtk g k i) → gIA gp 1 (10 * row + q) = gIA gt 0 (ta g (rtk g k i) + q) := by
  obtain ⟨t, x1, x2, x3, x4, x5, x6⟩ := h
  have e : rtk g k i = t := by unfold rtk; rw [x1, nI_clamp (by omega)]
  rw [e]
  exact ⟨x1, x2, x3, x5, x6⟩
theorem name_same {n L T : Nat} {g2 g gt gp gG : Gs} {B : Nat → Nat} {k row i : Nat} (hS : ScR n g2 L B g T) (h : Nd T g gt gp k row i) (hK : Kn g gG row (rtk g k i)) (hTE : ∀ p, p < L → gIA g 5 p = gIA gt 0 p) : ∃ m, m ≤ 10 ∧ gIA gG 66 row = nI m ∧ gIA gp 2 row = nI m ∧ ∀ q, q < m → gIA gG 65 (10 * row + q) = gIA gp 1 (10 * row + q) := by
  obtain ⟨_, _, hT, _⟩ := id hS
  obtain ⟨x1, x2, x3, x4, x5⟩ := h.all hT
  obtain ⟨l1, l2, _⟩ := len10 hS x2 x3
  refine ⟨_, l1, hK.1, x4, fun q hq => ?_⟩
  rw [hK.2 q hq, x5 q hq, hTE _ (by omega)]
theorem PN.nd {T : Nat} {X : List Nat} {g g' gt gp gc : Gs} {j th be ca f A M : Nat} {E : Nat → Nat × Nat × Nat} {FA : Nat → Nat} (h : PN T g gt gp gc j th be ca f A M E FA) (hf : Fr X g g') (hX : nTk X ∧ 37 ∉ X ∧ 48 ∉ X ∧ 53 ∉ X) : (∀ i, i < th → Nd T g' gt gp 37 i i) ∧ (∀ b, b < be → Nd T g' gt gp 48 (40 + b) b) ∧ (∀ c, c < ca → Nd T g' gt gp 53 (52 + c) c) := by
  obtain ⟨_, ⟨n1, n2, n3, _⟩, _⟩ := h
  obtain ⟨e1, e2, e3, _, _⟩ := tok_same hf hX.1
  unfold Nd at *
  rw [e1, e2, e3, (hf 37 hX.2.1).2.2.2.1, (hf 48 hX.2.2.1).2.2.2.1, (hf 53 hX.2.2.2).2.2.2.1]
  exact ⟨n1, n2, n3⟩
theorem settle_both {n hQ hP L : Nat} {g2 gt g gp gc gs gm : Gs} {B : Nat → Nat} (hn : 20000 ≤ n) (hTb : Tb g2) (hL : L ≤ 3000) (hbt : ∀ q, q < L → byt (gIA gt 0 q)) (hPE : PE n hQ hP L g2 gt B g gp gc) (hStep : VR 7 (gL g 91) 0 (gD gs 15)) (hstr : ∀ k, k < 64 → gLA g 89 k = gLA gs 10 k ∧ gIA g 90 k = gIA gs 11 k) : ∃ th be ca srt gG gs1 gs2 gm', f_X12_settle n g = some gG ∧ f_X9_clear n gs = some gs1 ∧ f_X1_start n gm g2 (sI gs1 16 (gI gs1 16 + 1)) gp gc = some (gm', gs2) ∧ PlR gG gp gc srt th be ca ∧ NmR gG gp th be ca ∧ StR gG gs2 srt th be 0 0 ∧ Fr (setX ++ valX) g gG ∧ gI gG 64 = gI g 64 + 1 ∧ gI gG 63 = gI gc 9 ∧ Fr [0, 1, 2, 3, 6, 7, 8, 9, 12, 13, 14, 16] gs gs2 ∧ gI gs2 16 = gI gs 16 + 1 ∧ Fr [2, 3, 4, 5, 6] gm gm' := by
  obtain ⟨T, gE, gr, gs0, gc0, g1, gc1, gS, gS', j, th, be, ca, N, A, M, f, ce, E, FA, tn, fn, rkk, srt, hM, ⟨c33, c34, c35, c36⟩, ⟨p4, p5, p6⟩, h10, ⟨hth, hbe, hca, hf⟩, hPN, hPI, hPC, hce, hTE, y1, y2, y3, hsr, hFS, hgot⟩ := hPE
  obtain ⟨⟨s1, s2, s3⟩, ⟨a1, a2, a3, a4, a5⟩, _, _, _, _, ⟨q1, q2, q3⟩, ⟨r1, r2, r3⟩, o1⟩ := hM
  have hN := (o1 h10).1
  obtain ⟨_, _, hT, _⟩ := id s1
  have fE : Fr [15, 16, 46, 47, 57, 58, 59] gE g := (y1.mono (by decide)).trans (y3.1.mono (by decide))
  have fc : Fr [2, 3, 4, 5, 17] gc0 gc := (y2.mono (by decide)).trans (y3.2.2.1.mono (by decide))
  have hX : nTk [15, 16, 46, 47, 57, 58, 59] := by decide
  have hS := s1.base fE hX
  have e5 : gIA g 5 = gIA gE 5 := (fE 5 (by decide)).2.2.2.1
  have hTE' : ∀ p, p < L → gIA g 5 p = gIA gt 0 p := fun p hp => by rw [e5]; exact hTE p hp
  obtain ⟨n1, n2, n3⟩ := hPN.nd fE (by decide)
  have hI := hPI.same fE fc (by decide) (by decide)
  have e15 : rtk gc 15 = rtk gc0 15 := rtk_fr fc (by decide)
  have hFA : ∀ F, F < f → f_X0_beginOf gc (nI F) = some (nI (FA F)) ∧ f_X0_endOf gc (nI F) = some (nI (FA (F + 1))) ∧ FA (F + 1) ≤ A := fun F hF => by
    obtain ⟨z1, z2, z3, z4, _⟩ := hPN.1.2.2 F hF
    have c18 : gI gc 18 = nI f := by rw [(fc 18 (by decide)).1]; exact q2
    have c8 : gI gc 8 = nI A := by rw [(fc 8 (by decide)).1]; exact (o1 h10).2.1
    exact ⟨begin_of hF q3 c18 (by rw [(fc 11 (by decide)).2.2.2.1]; exact z1), end_of hF q3 c18 c8 (by omega) z4 (by rw [(fc 12 (by decide)).2.2.2.1]; exact z2), z4⟩
  have hC : ∀ c, c < ca → gIA g 54 c = nI (rtk gE 54 c) ∧ gIA g 55 c = nI (rtk gE 55 c) ∧ rtk gE 55 c ≤ 24 ∧ rtk gE 54 c + rtk gE 55 c ≤ 1600 := fun c hc => by
    obtain ⟨m, a, z1, z2, z3, z4, z5, z6⟩ := hPC c hc
    have ea : rtk gE 54 c = a := by unfold rtk; rw [z1, nI_clamp (by omega)]
    have em : rtk gE 55 c = m := by unfold rtk; rw [z3, nI_clamp (by omega)]
    rw [ea, em, (fE 54 (by decide)).2.2.2.1, (fE 55 (by decide)).2.2.2.1]
    exact ⟨z1, z3, z5, by omega⟩
  obtain ⟨gG, fr, u1, u2, u3, u4⟩ := settle_front (cs := rtk gE 54) (cm := rtk gE 55) hn hS hL (fun p hp => by rw [hTE' p hp]; exact hbt p hp) hth hbe hca (show M ≤ 3000 by omega) (show A ≤ 840 by omega) (by rw [(fE 19 (by decide)).1]; exact a4) (by rw [(fE 33 (by decide)).1]; exact c33) (by rw [(fE 34 (by decide)).1]; exact c34) (by rw [(fE 35 (by decide)).1]; exact c35) (fun i hi => (n1 i hi).rn hT) (fun i hi => (n2 i hi).rn hT) (fun i hi => (n3 i hi).rn hT) hC hI
  obtain ⟨⟨t60, t61, t62, t63, t64, t77, t87, t88⟩, hCp, hSn, hTt, hBt, hCt, hZ⟩ := id u4
  have hte : TeR gG gp ca := by
    refine ⟨⟨hca, p6⟩, fun c hc => ?_⟩
    obtain ⟨m, a, z1, z2, z3, z4, z5, z6⟩ := hPC c hc
    have ea : rtk gE 54 c = a := by unfold rtk; rw [z1, nI_clamp (by omega)]
    have em : rtk gE 55 c = m := by unfold rtk; rw [z3, nI_clamp (by omega)]
    obtain ⟨_, w1, w2⟩ := hCt c hc
    rw [em] at w1 w2
    rw [ea] at w2
    refine ⟨by rw [w1, z4], m, z5, w1, fun k hk => ?_⟩
    rw [w2 k hk, (fE 56 (by decide)).2.2.2.2.1]
    exact z6 k hk
  obtain ⟨hpl, hFi, h68⟩ := plr_of u4 hI hth hbe hca q3 (show A ≤ 840 by omega) hFA p4 p5 (fun i hi => by rw [(fE 38 (by decide)).2.2.2.1]; exact hsr i hi) (fun x hx => by rw [e15]; exact hFS x hx) hgot hte
  have hnm : NmR gG gp th be ca := by
    refine ⟨fun r hr => ?_, h68, hca, t62, p6⟩
    rcases hr with hr | ⟨r1, r2⟩ | ⟨r1, r2⟩
    · exact name_same hS (n1 r hr) (hTt r hr).1 hTE'
    · obtain ⟨b, rfl⟩ : ∃ b, r = 40 + b := ⟨r - 40, by omega⟩
      exact name_same hS (n2 b (by omega)) (hBt b (by omega)).1 hTE'
    · obtain ⟨c, rfl⟩ : ∃ c, r = 52 + c := ⟨r - 52, by omega⟩
      exact name_same hS (n3 c (by omega)) (hCt c (by omega)).1 hTE'
  obtain ⟨gs1, v1, v2, v3, v4, v5, v6, v7⟩ := clear_ok (n := n) (gs := gs) (by omega)
  have fs1 : Fr [0, 1, 2, 3, 6, 7, 8, 9, 12, 13, 14, 16] gs (sI gs1 16 (gI gs1 16 + 1)) := (v2.mono (by decide)).trans (Fr.sI (by decide) _ _)
  have hst : StR gG (sI gs1 16 (gI gs1 16 + 1)) srt 0 be 0 0 := by
    refine ⟨⟨by omega, by rw [t87]; exact v7.symm, ?_, fun a ha => by omega⟩, fun r hr => ?_, fun b hb => ?_, ⟨t88, v6.1, v6.2⟩, fun k hk => ?_, v7, fun a a1 a2 a3 => by omega⟩
    · rw [(u3 91 (by decide)).2.1, (fs1 15 (by decide)).2.2.1]; exact hStep
    · obtain ⟨z1, z2, z3⟩ := hZ r hr
      obtain ⟨w1, w2, w3⟩ := v4 r hr
      exact ⟨z1.trans w1.symm, z2.trans w2.symm, z3.trans w3.symm⟩
    · exact (hBt b hb).2.2.2.trans (v5 b (by omega)).symm
    · rw [(u3 89 (by decide)).2.2.2.2.1, (u3 90 (by decide)).2.2.2.1, (fs1 10 (by decide)).2.2.2.2.1, (fs1 11 (by decide)).2.2.2.1]; exact hstr k hk
  obtain ⟨gV, gsV, gmV, w1, w2, w3, w4, w5, w6⟩ := values_loop (n := n) (bells := be) (by omega) hTb hth p4 th 0 fr n gG (sI gs1 16 (gI gs1 16 + 1)) gm (by omega) (by omega) (by omega) t60 hte (fun a _ ha => hFi a ha) hst (fun a _ ha => v3 a ha)
  refine ⟨th, be, ca, srt, gV, gs1, gsV, gmV, u2.trans w1, v1, w2, hpl.fr w4 (by decide), ?_, w3, (u3.mono (by decide)).trans (w4.mono (by decide)), ?_, ?_, fs1.trans (w5.mono (by decide)), ?_, w6⟩
  · obtain ⟨m1, m2, m3, m4, m5⟩ := hnm
    unfold NmR
    rw [(w4 66 (by decide)).2.2.2.1, (w4 65 (by decide)).2.2.2.1, (w4 68 (by decide)).2.2.2.1, (w4 62 (by decide)).1]
    exact ⟨m1, m2, m3, m4, m5⟩
  · rw [(w4 64 (by decide)).1]; exact t64
  · rw [(w4 63 (by decide)).1, t63, (fE 24 (by decide)).1, a3, (fc 9 (by decide)).1, q1]
  · rw [(w5 16 (by decide)).1]
    show gI gs1 16 + 1 = _
    rw [(v2 16 (by decide)).1]
