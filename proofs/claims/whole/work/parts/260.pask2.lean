/-! asking: both sides up to the working out -/
theorem ask_first {n hQ hP L : Nat} {g2 gt g gr gs gp gc : Gs} {B : Nat → Nat} (hn : 20000 ≤ n) (hTb : Tb g2) (hL : L ≤ 3000) (h4 : gI g 4 = nI L) (hb : ∀ p, p < L → byt (gIA g 3 p)) (hB : ∀ p, p < L → B p < 256 ∧ gIA g 3 p &&& 255 = nI (B p)) (h7 : ∀ k, k < 26 → gLA g 7 k = lN (Wl.getD k 0)) (hE : ∀ p, p < L → gIA g 3 p = gIA gt 0 p) :
    ∃ T g1 gc1 gr1 gs1, f_X12_begins n g = some g1 ∧ f_X0_clear gc = some gc1 ∧ f_X5_begin hQ hP gr gp gc1 = some gr1 ∧ f_X7_begin n gs gt g2 (nI L) = some gs1 ∧ (∀ p, p < L → gIA g1 5 p = gIA gt 0 p) ∧ Fr [0, 1, 2, 4, 5, 6, 8, 9, 10, 11, 12, 13, 19, 20, 21, 23, 24, 25, 27] g g1 ∧ gI g1 4 = 0 ∧ (gI g1 19 = 2000 ∧ gI g1 24 = 0 ∧ gI g1 21 = 0) ∧ Fr [8, 9, 10, 18] gc gc1 ∧ Fr [14, 15, 16, 17] gr gr1 ∧ Fr [2, 3, 4, 5, 6, 7, 8, 9, 10, 11] gs gs1 ∧
      MR n hQ hP L T g2 gt B (sI g1 26 0) gr1 gs1 gc1 0 0 0 0 0 (fun _ => (0, 0, 0)) ∧ PN T (sI g1 26 0) gt gp gc1 0 0 0 0 0 0 0 (fun _ => (0, 0, 0)) (fun _ => 0) := by
  obtain ⟨gS, T, a1, a2, a3, a4, a5, a6, a7⟩ := scan_ok hn hTb hL h4 hb hB h7
  have hcl : ClsT (sI (sI gs 2 (nI L)) 3 0) gt L B := ⟨hL, rfl, fun p hp => ⟨(hB p hp).1, by rw [← hE p hp]; exact (hB p hp).2⟩⟩
  obtain ⟨gs1, b1, b2, b3⟩ := TokAt.first a2 hcl rfl
  have f1 : Fr [19, 20, 21, 23, 24, 25, 27] gS (sI (sI (sI (sI (sI (sI (sI gS 20 0) 19 2000) 23 (-1)) 24 0) 25 0) 27 0) 21 0) := ((((((Fr.sI (by decide) _ _).trans (Fr.sI (by decide) _ _)).trans (Fr.sI (by decide) _ _)).trans (Fr.sI (by decide) _ _)).trans (Fr.sI (by decide) _ _)).trans (Fr.sI (by decide) _ _)).trans (Fr.sI (by decide) _ _)
  have fX : Fr [19, 20, 21, 23, 24, 25, 26, 27] gS (sI (sI (sI (sI (sI (sI (sI (sI gS 20 0) 19 2000) 23 (-1)) 24 0) 25 0) 27 0) 21 0) 26 0) := (f1.mono (by decide)).trans (Fr.sI (by decide) _ _)
  have eL : (if (3000 : Int32) < nI L then (3000 : Int32) else nI L) = nI L := if_neg (show ¬ (3000 : Int32) < nI L from nI_nlt (a := 3000) hL (by omega))
  have hT0 : 0 < T := a2.2.1
  have sX := a2.base fX (by decide)
  have tX := b2.base fX (by decide)
  refine ⟨T, sI (sI (sI (sI (sI (sI (sI gS 20 0) 19 2000) 23 (-1)) 24 0) 25 0) 27 0) 21 0, sI (sI (sI (sI gc 8 0) 9 0) 18 0) 10 0, sI (sI (sR (sR gr 14 (some hQ)) 15 (some hP)) 16 (-1)) 17 (-1), gs1, ?_, rfl, rfl, ?_, fun p hp => ?_, (a7.mono (by decide)).trans (f1.mono (by decide)), ?_, ⟨rfl, rfl, rfl⟩, (((Fr.sI (by decide) _ _).trans (Fr.sI (by decide) _ _)).trans (Fr.sI (by decide) _ _)).trans (Fr.sI (by decide) _ _), ?_, ?_, ⟨⟨sX, tX, hT0⟩, ⟨rfl, rfl, rfl, rfl, rfl⟩, fun i hi => by omega, ⟨rfl, rfl⟩, ⟨rfl, .inl rfl⟩, ⟨fun _ => rfl, fun _ => rfl⟩, ⟨rfl, rfl, by omega⟩, ⟨by omega, by omega, by omega⟩, fun _ => ⟨by omega, rfl, fun i hi => by omega⟩⟩, ?_⟩
  · unfold f_X12_begins
    rw [bnd_s a1]
  · unfold f_X7_begin
    rw [eL, bnd_s b1]
  · show gIA gS 5 p = _
    rw [a5 p hp, hE p hp]
  · exact a6
  · exact (((Fr.sR (by decide) _ _).trans (Fr.sR (by decide) _ _)).trans (Fr.sI (by decide) _ _)).trans (Fr.sI (by decide) _ _)
  · exact ((Fr.sI (by decide) _ _).trans (Fr.sI (by decide) _ _)).trans (b3.mono (by decide))
  · exact ⟨⟨rfl, rfl, fun F hF => by omega⟩, ⟨fun i hi => by omega, fun i hi => by omega, fun i hi => by omega, fun i i' _ h => by omega, fun i i' _ h => by omega, fun i i' _ h => by omega⟩, fun m hm => by omega, fun m m' _ h => by omega, fun F a h => by omega, fun i hi => by omega, fun i hi => by omega, fun i hi => by omega⟩
/-- what is known of an asked formula once its text is read well -/
def AskN (n L T : Nat) (g2 gt g gp gc : Gs) (B : Nat → Nat) (E : Nat → Nat × Nat × Nat) (th ca A M : Nat) : Prop := ScR n g2 L B g T ∧ (∀ p, p < L → gIA g 5 p = gIA gt 0 p) ∧ (∀ i, i < th → Lt g gp i) ∧ (∀ i, i < ca → Lt g gp (52 + i)) ∧ (th ≤ 40 ∧ ca ≤ 8 ∧ M ≤ 3000 ∧ A ≤ 840 ∧ L ≤ 3000) ∧ (gI g 60 = nI th ∧ gI g 62 = nI ca ∧ gI g 27 = nI M ∧ gI gp 4 = nI th ∧ gI gp 6 = nI ca) ∧ (f_X0_beginOf gc (nI 0) = some (nI 0) ∧ f_X0_endOf gc (nI 0) = some (nI A) ∧ gIA gc 15 0 = nI 40 ∧ gIA gc 16 0 = nI 8 ∧ gI gc 18 = nI 1 ∧ gIA gc 13 0 = -1) ∧ (∀ m, m < M → gIA g 29 m = nI (nt g m) ∧ nt g m < T ∧ tk g (nt g m) = 2 ∧ ∃ a, NUa g E A m a) ∧ (∀ m m', m < m' → m' < M → nt g m < nt g m') ∧ (∀ a, a < A → opN (E a).1 → (E a).2.2 < T ∧ tk g (E a).2.2 = 2 ∧ ∃ m, m < M ∧ NUa g E A m a) ∧ (∀ a, a < A → (E a).1 < 100 ∧ RE g g a (E a) ∧ CE g gc a (E a))
theorem asked_names {n L T : Nat} {g2 gt g gp gc : Gs} {B : Nat → Nat} {E : Nat → Nat × Nat × Nat} {th ca A M : Nat} (hn : 20000 ≤ n) (h : AskN n L T g2 gt g gp gc B E th ca A M) (gN : Gs) : ∃ v gN' gc' g', f_X2_firstFaultAsked n gN gt gp gc = some (v, gN', gc') ∧ Fr [5] gc gc' ∧ Fr [1] gN gN' ∧ Fr [15, 21, 22] g g' ∧ (∀ q, q < 2000 → gIA g' 15 q = gIA g 15 q) ∧
    (((∃ t, t < 2 ^ 31 ∧ v = nI t) ∧ L_X12_asks n n g 0 = some (-1, g') ∧ gI g' 21 = 3 ∧ gI g' 22 = v) ∨
     (v = -1 ∧ L_X12_asks n n g 0 = bnd (f_X12_judged n g' 2000 (gI g' 19)) (fun q => some (q.1, q.2)) ∧ Fr [15] g g' ∧ ∀ a, a < A → Sd g' gc' gp th ca a (E a))) := by
  obtain ⟨hS, hTE, hl, hlc, ⟨hth, hca, hM, hA, hL⟩, ⟨h60, h62, h27, p4, p6⟩, ⟨c11, c12, c15, c16, c18, c13⟩, h29, hinc, hent, hcode⟩ := h
  have hT := hS.2.2.1
  have hv : ∀ a, a < A → opN (E a).1 → cvf n gp gt g E th ca a = some (-1) ∨ Fnd n gp gt g E th ca a := fun a ha ho => by
    obtain ⟨z1, z2, _⟩ := hent a ha ho
    obtain ⟨v, _, v2, v3⟩ := cv_both (a := a) hn hS hL hTE hl hlc hth hca z1 z2 (Fr.refl [15] g)
    rcases v3 with v3 | ⟨k, k1, k2⟩
    · exact .inl (by rw [v2, v3])
    · exact .inr ⟨k, k1, by rw [v2, k2]⟩
  obtain ⟨n', hn'⟩ : ∃ x, n = x + 2 := ⟨n - 2, by omega⟩
  obtain ⟨gN', gc', r1, r2, r3, r4, r5, r6⟩ := asked_cls hn hS hL hA c12 (fun a ha => (hcode a ha).1) (fun a ha => (hcode a ha).2.2) (fun a ha ho => ⟨(hent a ha ho).1, (hent a ha ho).2.1⟩) hv hth hca A (n' + 1) 0 (sI gN 1 (-1)) gc (fun _ => False) (by omega) (by omega) (.inl ⟨rfl, fun _ h => h⟩) (Fr.refl _ _) (fun _ _ => rfl)
  have eC : f_X2_firstFaultAsked n gN gt gp gc = some (gI gN' 1, gN', gc') := by
    unfold f_X2_firstFaultAsked f_X2_resolve
    have e1 : (L_X2_resolve n n).1 (sI gN 1 (-1)) gt gp gc 0 = some (gN', gc') := by
      rw [show L_X2_resolve n n = L_X2_resolve n (n' + 1 + 1) by rw [hn']]
      show h_X2_resolve_2 n (L_X2_resolve n (n' + 1)) (sI gN 1 (-1)) gt gp gc 0 = _
      unfold h_X2_resolve_2
      rw [c18, if_neg (show ¬ nI 1 ≤ (0 : Int32) by decide), grd_t (by decide), grd_t (by decide), bnd_s (show f_X0_beginOf gc (0 : Int32) = some (nI 0) from c11), show (0 : Int32).toNatClampNeg = 0 from rfl, c15, c16, p4, p6, min_lt (by omega) (by omega), min_lt (by omega) (by omega), Nat.min_eq_left hth, Nat.min_eq_left hca]
      refine Eq.trans (show _ = _ from r1) ?_
      obtain ⟨m, hm⟩ : ∃ m, n' + 1 - A - 1 = m + 1 := ⟨n' + 1 - A - 2, by omega⟩
      rw [hm]
      show h_X2_resolve_2 n (L_X2_resolve n m) gN' gt gp gc' (nI 1) = _
      unfold h_X2_resolve_2
      rw [(r3 18 (by decide)).1, c18, if_pos (nI_le (Nat.le_refl _) (by omega))]
    rw [bnd_s e1]
  obtain ⟨g', q1, q2, q3⟩ := asked_ref (A := A) hn hS hL hTE hl hlc hth hca h60 h62 h27 hM hA h29 M n 0 g (by omega) (by omega) (Fr.refl _ _) (fun _ _ => rfl) (fun _ _ => rfl) (fun m' hm' => by omega)
  refine ⟨gI gN' 1, gN', gc', g', eC, r3, (Fr.sI (by decide) _ _).trans r4, q1, q2, ?_⟩
  have bound : ∀ a, (if (E a).1 = 64 then ca else th) ≤ 40 := fun a => by split <;> omega
  rcases q3 with ⟨w1, w2, m0, a0, w3, w4, w5, w6, w7⟩ | ⟨w1, w2, w3, w4⟩
  · obtain ⟨z1, z2, z3, z4, z5⟩ := id w4
    rcases r2 with ⟨y1, y2⟩ | ⟨t, yt, y2, y3, y4⟩
    · exact absurd (.inr ⟨a0, Nat.zero_le _, z1, z2, rfl, w5⟩) (y2 (E a0).2.2)
    · rcases yt with yt | ⟨a', _, b2, b3, b4, b5⟩
      · exact yt.elim
      · obtain ⟨_, _, m', m1, m2⟩ := hent a' b2 b3
        have hle : m0 ≤ m' := by
          by_cases c : m' < m0
          · exact absurd b5 (w6 m' a' c m2)
          · omega
        have e1 : nt g m0 ≤ nt g m' := by
          by_cases c : m0 = m'
          · rw [c]; exact Nat.le_refl _
          · exact Nat.le_of_lt (hinc m0 m' (by omega) m1)
        have e2 : ta g (nt g m0) ≤ ta g (nt g m') := ta_mono hS e1 (h29 m' m1).2.1
        have e3 := y4 (E a0).2.2 (.inr ⟨a0, Nat.zero_le _, z1, z2, rfl, w5⟩)
        rw [z3] at e3
        have e4 : nt g m' = t := m2.2.2.1.symm.trans b4
        rw [e4] at e2
        have e5 : ta g (nt g m0) = ta g t := by omega
        exact .inl ⟨⟨ta g t, y3, y2⟩, w1, w2, by rw [w7, y2, e5]⟩
  · have nob : ∀ a, a < A → opN (E a).1 → ¬ cvf n gp gt g E th ca a = some (-1) := fun a ha ho z => by
      obtain ⟨_, _, m, m1, m2⟩ := hent a ha ho
      obtain ⟨k, k1, k2, _⟩ := w4 m m1 a m2
      rw [k2] at z
      have := bound a
      exact absurd (Option.some.inj z) (nI_ne_m1 (by omega))
    have hv1 : gI gN' 1 = -1 := by
      rcases r2 with ⟨y1, y2⟩ | ⟨t, yt, y2, y3, y4⟩
      · exact y1
      · rcases yt with yt | ⟨a', _, b2, b3, b4, b5⟩
        · exact yt.elim
        · exact absurd b5 (nob a' b2 b3)
    refine .inr ⟨hv1, w1, w2, fun a ha => ?_⟩
    refine sd_of (hcode a ha).2.1 (hcode a ha).2.2 w2 r3 (fun z => ⟨w3 a z, r5 a (.inr z)⟩) (fun z => ?_)
    obtain ⟨_, _, m, m1, m2⟩ := hent a ha z
    obtain ⟨k, k1, k2, k3⟩ := w4 m m1 a m2
    have := bound a
    exact ⟨k, k1, k3, r6 a k (Nat.zero_le _) ha z (by omega) k2⟩
/-- sorts of an asked formula -/
theorem asked_sorts {n th ca A : Nat} {g gS gp gc : Gs} {E : Nat → Nat × Nat × Nat} {srt : Nat → Nat} {mm : Nat} (hn : 20000 ≤ n) (hA : A ≤ 840) (h19 : gI g 19 = nI (2000 + A)) (hE : Eg E mm 0 A) (hcn : ecn E 0 A ≤ 500) (c11 : f_X0_beginOf gc (nI 0) = some (nI 0)) (c12 : f_X0_endOf gc (nI 0) = some (nI A)) (c18 : gI gc 18 = nI 1) (c13 : gIA gc 13 0 = -1) (h1 : ∀ i, i < A → ∃ x, x < 2 ^ 31 ∧ gIA gc 1 i = nI x) (hO : SO g gp srt th) (hSd : ∀ a, a < A → Sd g gc gp th ca a (E a)) :
    (∃ x g' gS' gc', x < 2 ^ 31 ∧ bnd (f_X12_judged n g 2000 (gI g 19)) (fun q => some (q.1, q.2)) = some (-1, g') ∧ f_X8_firstFault n gS gp gc = some (nI x, gS', gc') ∧ gI g' 21 = 4 ∧ gI g' 22 = nI x ∧ Fr [16, 21, 22, 57, 58] g g' ∧ (∀ q, q < 2000 → gIA g' 16 q = gIA g 16 q) ∧ Fr [0, 1] gS gS' ∧ Fr [2, 3, 4] gc gc') ∨
    (∃ t d g' gS' gc' m, t ≤ 7 ∧ d ≤ 400 ∧ bnd (f_X12_judged n g 2000 (gI g 19)) (fun q => some (q.1, q.2)) = some (nI t, g') ∧ f_X8_firstFault n gS gp gc = some (-1, gS', gc') ∧ Fr [16, 57, 58] g g' ∧ (∀ q, q < 2000 → gIA g' 16 q = gIA g 16 q) ∧ Fr [0, 1] gS gS' ∧ Fr [2, 3, 4, 17] gc gc' ∧ gIA gc' 17 0 = nI t ∧ Ex g' gc' 2000 srt th ca m 0 A t d) := by
  obtain ⟨d, d1, d2, d3⟩ := hE.deep
  obtain ⟨n', hn'⟩ : ∃ x, n = x + 1 := ⟨n - 1, by omega⟩
  have e1 : f_X8_firstFault n gS gp gc = (L_X8_firstFault n n').2 (sI gS 1 0) gp gc (nI 0) (nI 0) := by
    unfold f_X8_firstFault
    rw [show L_X8_firstFault n n = L_X8_firstFault n (n' + 1) by rw [hn']]
    show h_X8_firstFault_2 n (L_X8_firstFault n n') gS gp gc 0 = _
    unfold h_X8_firstFault_2
    rw [c18, if_neg (show ¬ nI 1 ≤ (0 : Int32) by decide), bnd_s (show f_X0_beginOf gc (0 : Int32) = some (nI 0) from c11)]
    rfl
  have e2 : f_X12_judged n g 2000 (gI g 19) = f_X12_judged n g (nI (2000 + 0)) (nI (2000 + A)) := by rw [h19]; rfl
  rw [e1, e2]
  rcases part_formula (gT := gS) (srt := srt) (many := th) (cams := ca) (F := 0) (fm := n') hn (by omega) hA d1 (by omega) (by omega) c12 hO (fun i _ hi => hSd i hi) with ⟨i, g', gT', gc', x1, x2, x3, x4, x5, x6, x7, x8, x9, x10⟩ | ⟨t, d', g', gT', gc', fm', x1, x2, x3, x4, x5, x6, x7, x8⟩
  · obtain ⟨x, y1, y2⟩ := h1 i x2
    exact .inl ⟨x, g', gT', gc', y1, by rw [bnd_s x3], by rw [x4, y2], x5, by rw [x6, y2], x7, x8, x9, x10⟩
  · refine .inr ⟨t, d', g', gT', sIA gc' 17 (upd (gIA gc' 17) 0 (nI t)), _, x2, by omega, by rw [bnd_s x4], ?_, x7.1, x7.2.2.2.1, x7.2.1, (x7.2.2.1.mono (by decide)).trans (Fr.sIA (by decide) _ _), ?_, Ex.same17 x8⟩
    · rw [x6]
      unfold b_X8_firstFault_74 b_X8_firstFault_131
      rw [grd_t (by decide), grd_t (by decide), show (nI 0).toNatClampNeg = 0 from rfl, (x7.2.2.1 13 (by decide)).2.2.2.1, c13, if_pos rfl]
      obtain ⟨f, rfl⟩ : ∃ x, fm' = x + 1 := ⟨fm' - 1, by omega⟩
      show h_X8_firstFault_2 n (L_X8_firstFault n f) gT' gp (sIA gc' 17 (upd (gIA gc' 17) 0 (nI t))) (nI 0 + 1) = _
      unfold h_X8_firstFault_2
      have e18 : gI (sIA gc' 17 (upd (gIA gc' 17) 0 (nI t))) 18 = nI 1 := (x7.2.2.1 18 (by decide)).1.trans c18
      rw [e18, nI_1, if_pos (nI_le (Nat.le_refl _) (by omega))]
    · show upd (gIA gc' 17) 0 (nI t) 0 = _
      rw [pk_us]
