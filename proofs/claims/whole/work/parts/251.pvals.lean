/-! settling: each thing's first value -/
abbrev valX : List Nat := [0, 1, 2, 80, 81, 83, 84, 85, 92, 93, 94, 95, 96]
/-- a thing's first formula, by the things before it -/
def Fi (g gp gc : Gs) (srt : Nat → Nat) (cams i : Nat) : Prop := gIA g 67 i = nI (srt i) ∧ gIA gp 7 i = nI (srt i) ∧ ∃ F j j' t, gIA gp 9 i = nI F ∧ gIA g 69 i = nI j ∧ gIA g 70 i = nI j' ∧ gIA g 72 i = nI t ∧ Fo g gc srt i cams F j j' t ∧ Co t (srt i)
theorem Fo.fr {g g' gc : Gs} {srt : Nat → Nat} {many cams F j j' t : Nat} {A : List Nat} (h : Fo g gc srt many cams F j j' t) (hf : Fr A g g') (hA : ∀ k, k ∈ [14, 15, 16, 17, 18] → k ∉ A) : Fo g' gc srt many cams F j j' t := by
  have i : ∀ k, k ∈ [14, 15, 16, 17, 18] → gIA g' k = gIA g k := fun k hk => (hf k (hA k hk)).2.2.2.1
  have ex := fun m => Ex.congr (g := g) (g' := g') (gc := gc) (off := 0) (srt := srt) (many := many) (cams := cams) (i 14 (by decide)) (i 15 (by decide)) (i 16 (by decide)) (i 17 (by decide)) (hf 18 (hA 18 (by decide))).2.2.2.2.1 m
  unfold Fo at *
  simp only [ex]
  exact h
theorem Fi.fr {g g' gp gc : Gs} {srt : Nat → Nat} {cams i : Nat} {A : List Nat} (h : Fi g gp gc srt cams i) (hf : Fr A g g') (hA : ∀ k, k ∈ [14, 15, 16, 17, 18, 67, 69, 70, 72] → k ∉ A) : Fi g' gp gc srt cams i := by
  obtain ⟨h1, h2, F, j, j', t, q1, q2, q3, q4, q5, q6⟩ := h
  refine ⟨?_, h2, F, j, j', t, q1, ?_, ?_, ?_, q5.fr hf (fun k hk => hA k ?_), q6⟩
  · rw [(hf 67 (hA 67 (by decide))).2.2.2.1]; exact h1
  · rw [(hf 69 (hA 69 (by decide))).2.2.2.1]; exact q2
  · rw [(hf 70 (hA 70 (by decide))).2.2.2.1]; exact q3
  · rw [(hf 72 (hA 72 (by decide))).2.2.2.1]; exact q4
  · have : ∀ q ∈ [14, 15, 16, 17, 18], q ∈ [14, 15, 16, 17, 18, 67, 69, 70, 72] := by decide
    exact this k hk
theorem TeR.fr {g g' gp : Gs} {cams : Nat} {A : List Nat} (h : TeR g gp cams) (hf : Fr A g g') (h78 : 78 ∉ A) (h79 : 79 ∉ A) : TeR g' gp cams := by
  unfold TeR at *
  rw [(hf 78 h78).2.2.2.1, (hf 79 h79).2.2.2.2.1]
  exact h
theorem StR.next {g g' gs gs' : Gs} {srt : Nat → Nat} {i bells S : Nat} {r w : Int64} {d : UInt64} (h : StR g gs srt i bells S 0) (hi : i < 40) (hv : VR (srt i) r w d) (hvi : VI (srt i) r) (f1 : Fr [80, 81] g g') (f2 : Fr [0, 1, 2, 3] gs gs') (e : gLA g' 80 i = r ∧ gLA g' 81 i = r ∧ gLA gs' 0 i = w ∧ gDA gs' 1 i = d ∧ gLA gs' 2 i = w ∧ gDA gs' 3 i = d) (o : ∀ a, a < i → gLA g' 80 a = gLA g 80 a ∧ gLA g' 81 a = gLA g 81 a ∧ gLA gs' 0 a = gLA gs 0 a ∧ gDA gs' 1 a = gDA gs 1 a ∧ gLA gs' 2 a = gLA gs 2 a ∧ gDA gs' 3 a = gDA gs 3 a) : StR g' gs' srt (i + 1) bells S 0 := by
  obtain ⟨⟨d1, d2, d3, d4⟩, h2, h3, h4, h5, h6, h7⟩ := h
  obtain ⟨e1, e2, e3, e4, e5, e6⟩ := e
  refine ⟨⟨by omega, ?_, ?_, fun a ha => ?_⟩, fun r hr => ?_, fun b hb => ?_, ?_, fun k hk => ?_, ?_, fun a a1 a2 a3 => by omega⟩
  · rw [(f1 87 (by decide)).2.1, (f2 14 (by decide)).2.1]; exact d2
  · rw [(f1 91 (by decide)).2.1, (f2 15 (by decide)).2.2.1]; exact d3
  · by_cases c : a = i
    · rw [c, e1, e2, e3, e4, e5, e6]; exact ⟨hv, hvi, hv, hvi⟩
    · obtain ⟨o1, o2, o3, o4, o5, o6⟩ := o a (by omega)
      rw [o1, o2, o3, o4, o5, o6]; exact d4 a (by omega)
  · rw [(f1 83 (by decide)).2.2.2.1, (f1 84 (by decide)).2.2.2.1, (f1 85 (by decide)).2.2.2.1, (f2 6 (by decide)).2.2.2.1, (f2 7 (by decide)).2.2.2.1, (f2 8 (by decide)).2.2.2.1]; exact h2 r hr
  · rw [(f1 86 (by decide)).2.2.2.1, (f2 9 (by decide)).2.2.2.1]; exact h3 b hb
  · rw [(f1 88 (by decide)).1, (f2 12 (by decide)).1, (f2 13 (by decide)).1]; exact h4
  · rw [(f1 89 (by decide)).2.2.2.2.1, (f1 90 (by decide)).2.2.2.1, (f2 10 (by decide)).2.2.2.2.1, (f2 11 (by decide)).2.2.2.1]; exact h5 k hk
  · rw [(f2 14 (by decide)).2.1]; exact h6
theorem vr_zero (t : Nat) : VR t 0 0 FP.dconst0 ∧ VI t 0 := by
  have hd : Dv FP.dconst0 false 0 := dv_zero
  refine ⟨?_, fun _ => by decide⟩
  unfold VR
  by_cases c : t ≤ 5
  · rw [if_pos c]
  · rw [if_neg c]
    by_cases c6 : t = 6
    · rw [if_pos c6]
      exact ⟨false, 0, ⟨0, 0, by omega, by decide, by decide, .inl rfl, by decide⟩, hd⟩
    · rw [if_neg c6]
      exact ⟨by rfl, false, 0, hd⟩
theorem noteJam_fr {gs gs3 : Gs} {r a b : Int32} (h : f_X9_noteJam gs r a b = some gs3) : Fr [6, 7, 8] gs gs3 := by
  have key : ∀ x y : Int32, b_X9_noteJam_29 gs r a b x y = some gs3 → Fr [6, 7, 8] gs gs3 := by
    intro x y h
    unfold b_X9_noteJam_29 at h
    have h := Option.some.inj (grd_some (grd_some (grd_some h).2).2).2
    rw [← h]
    exact ((Fr.sIA (by decide) _ _).trans (Fr.sIA (by decide) _ _)).trans (Fr.sIA (by decide) _ _)
  unfold f_X9_noteJam at h
  have h := (grd_some h).2
  by_cases c : (2147483647 : Int32) ≤ gIA gs 6 r.toNatClampNeg
  · rw [if_pos c] at h; exact key _ _ h
  · rw [if_neg c] at h; exact key _ _ (grd_some h).2
theorem values_loop {n th bells cams : Nat} {g2 gp gc : Gs} {srt : Nat → Nat} (hn : 3000 ≤ n) (hTb : Tb g2) (hth : th ≤ 40) (h4 : gI gp 4 = nI th) : ∀ (d i fr fm : Nat) (g gs gm : Gs), i + d = th → d < fr → d < fm → gI g 60 = nI th → TeR g gp cams → (∀ a, i ≤ a → a < th → Fi g gp gc srt cams a) → StR g gs srt i bells 0 0 → (∀ a, i ≤ a → a < 40 → gLA gs 0 a = 0 ∧ gDA gs 1 a = FP.dconst0) → ∃ g' gs' gm', (L_X12_settle n fr).2.2.2.2.2.1 g (nI i) = some g' ∧ L_X1_start n fm gm g2 gs gp gc (nI i) = some (gm', gs') ∧ StR g' gs' srt th bells 0 0 ∧ Fr valX g g' ∧ Fr [0, 1, 2, 3, 6, 7, 8] gs gs' ∧ Fr [2, 3, 4, 5, 6] gm gm' := by
  intro d
  induction d with
  | zero =>
    intro i fr fm g gs gm h1 h2 h3 h60 hT hF hS hz
    obtain ⟨fr, rfl⟩ : ∃ x, fr = x + 1 := ⟨fr - 1, by omega⟩
    obtain ⟨fm, rfl⟩ : ∃ x, fm = x + 1 := ⟨fm - 1, by omega⟩
    have ei : i = th := by omega
    refine ⟨g, gs, gm, ?_, ?_, by rw [ei] at hS; exact hS, Fr.refl _ _, Fr.refl _ _, Fr.refl _ _⟩
    · show h_X12_settle_624 n (L_X12_settle n fr) g (nI i) = _
      unfold h_X12_settle_624
      rw [h60, if_pos (nI_le (show th ≤ i by omega) (by omega))]
    · show h_X1_start_2 n (L_X1_start n fm) gm g2 gs gp gc (nI i) = _
      unfold h_X1_start_2
      rw [h4, if_pos (nI_le (show th ≤ i by omega) (by omega))]
  | succ d ih =>
    intro i fr fm g gs gm h1 h2 h3 h60 hT hF hS hz
    obtain ⟨fr, rfl⟩ : ∃ x, fr = x + 1 := ⟨fr - 1, by omega⟩
    obtain ⟨fm, rfl⟩ : ∃ x, fm = x + 1 := ⟨fm - 1, by omega⟩
    have i40 : inB (nI i) 40 = true := inB_nI (by omega) (by decide)
    have ci : (nI i).toNatClampNeg = i := nI_clamp (by omega)
    have f0 : Fr [80] g (sLA g 80 (vp_updL (gLA g 80) i 0)) := Fr.sLA (by decide) _ _
    obtain ⟨s1, s2, F, j, j', t, q1, q2, q3, q4, qF, hco⟩ := hF i (Nat.le_refl _) (by omega)
    obtain ⟨F92, j840, f11, f12, f17, m, dd, hex, hd4⟩ := qF.fr f0 (by decide)
    have F92' : inB (nI F) 92 = true := inB_nI F92 (by decide)
    have cF : (nI F).toNatClampNeg = F := nI_clamp (by omega)
    have hS0 : StR (sLA g 80 (vp_updL (gLA g 80) i 0)) gs srt i bells 0 0 := by
      obtain ⟨⟨d1, d2, d3, d4⟩, x⟩ := hS
      refine ⟨⟨d1, d2, d3, fun a ha => ?_⟩, x⟩
      show VR (srt a) (vp_updL (gLA g 80) i 0 a) _ _ ∧ VI (srt a) (vp_updL (gLA g 80) i 0 a) ∧ _
      rw [pk_uLn (by omega)]; exact d4 a ha
    have w := works_run (n := n) (g := sLA g 80 (vp_updL (gLA g 80) i 0)) (gm := gm) (g2 := g2) (gs := gs) (gp := gp) (gc := gc) (off := 0) hn hTb hS0.1 (hT.fr f0 (by decide) (by decide)) j840 (by omega) f11 f12 hex hd4
    simp only [Nat.zero_add] at w
    have eref : (L_X12_settle n (fr + 1)).2.2.2.2.2.1 g (nI i) = bnd (f_X12_works n (sLA g 80 (vp_updL (gLA g 80) i 0)) (nI j) (nI j')) (fun q_4 => if q_4.1 = 0 then (bnd (f_X12_jammed q_4.2 (nI i)) (fun q_6 => (L_X12_settle n fr).2.2.2.2.2.1 (sLA q_6 81 (vp_updL (gLA q_6 81) i (gLA q_6 80 i))) (nI (i + 1)))) else (bnd (f_X12_become n q_4.2 (gL q_4.2 94) (gIA q_4.2 72 i) (gIA q_4.2 67 i)) (fun q_12 => (L_X12_settle n fr).2.2.2.2.2.1 (sLA (sLA q_12.2 80 (vp_updL (gLA q_12.2 80) i q_12.1)) 81 (vp_updL (gLA q_12.2 81) i (vp_updL (gLA q_12.2 80) i q_12.1 i))) (nI (i + 1))))) := by
      show h_X12_settle_624 n (L_X12_settle n fr) g (nI i) = _
      unfold h_X12_settle_624 b_X12_settle_692
      simp only [h60, if_neg (nI_ge (a := i) (b := th) (by omega) (by omega)), grd_t i40, ci, q2, q3, nI_1]
      rfl
    have ecls : L_X1_start n (fm + 1) gm g2 gs gp gc (nI i) = bnd (f_X1_run n gm g2 gs gp gc (nI F)) (fun q_2 => if q_2.1 = 0 then (bnd (f_X9_noteJam gs (nI i) (gI q_2.2 5) (gI q_2.2 6)) (fun q_4 => L_X1_start n fm q_2.2 g2 (sDA (sLA q_4 2 (vp_updL (gLA q_4 2) i (gLA q_4 0 i))) 3 (vf_upd (gDA q_4 3) i (gDA q_4 1 i))) gp gc (nI (i + 1)))) else (bnd (f_X1_store q_2.2 gs (nI i) (nI t) (nI (srt i))) (fun q_12 => L_X1_start n fm q_12.1 g2 (sDA (sLA q_12.2 2 (vp_updL (gLA q_12.2 2) i (gLA q_12.2 0 i))) 3 (vf_upd (gDA q_12.2 3) i (gDA q_12.2 1 i))) gp gc (nI (i + 1))))) := by
      show h_X1_start_2 n (L_X1_start n fm) gm g2 gs gp gc (nI i) = _
      unfold h_X1_start_2 b_X1_start_69
      simp only [h4, if_neg (nI_ge (a := i) (b := th) (by omega) (by omega)), grd_t i40, ci, q1, grd_t F92', cF, f17, s2, nI_1]
    -- going on
    have go : ∀ (g1 gs1 gm1 : Gs), StR g1 gs1 srt (i + 1) bells 0 0 → Fr valX g g1 → Fr [0, 1, 2, 3, 6, 7, 8] gs gs1 → (∀ a, i + 1 ≤ a → a < 40 → gLA gs1 0 a = 0 ∧ gDA gs1 1 a = FP.dconst0) → Fr [2, 3, 4, 5, 6] gm gm1 → (L_X12_settle n (fr + 1)).2.2.2.2.2.1 g (nI i) = (L_X12_settle n fr).2.2.2.2.2.1 g1 (nI (i + 1)) → L_X1_start n (fm + 1) gm g2 gs gp gc (nI i) = L_X1_start n fm gm1 g2 gs1 gp gc (nI (i + 1)) → ∃ g' gs' gm', (L_X12_settle n (fr + 1)).2.2.2.2.2.1 g (nI i) = some g' ∧ L_X1_start n (fm + 1) gm g2 gs gp gc (nI i) = some (gm', gs') ∧ StR g' gs' srt th bells 0 0 ∧ Fr valX g g' ∧ Fr [0, 1, 2, 3, 6, 7, 8] gs gs' ∧ Fr [2, 3, 4, 5, 6] gm gm' := by
      intro g1 gs1 gm1 w1 w2 w3 w4 w5 w6 w7
      obtain ⟨g', gs', gm', y1, y2, y3, y4, y5, y6⟩ := ih (i + 1) fr fm g1 gs1 gm1 (by omega) (by omega) (by omega) (by rw [(w2 60 (by decide)).1]; exact h60) (hT.fr w2 (by decide) (by decide)) (fun a a1 a2 => (hF a (by omega) a2).fr w2 (by decide)) w1 w4
      exact ⟨g', gs', gm', w6.trans y1, w7.trans y2, y3, w2.trans y4, w3.trans y5, w5.trans y6⟩
    rcases w with ⟨g1, gm1, w1, w2, w3, w4, w5, w6, w7⟩ | ⟨g1, gm1, w1, w2, w3, w4, w5, w6, w7⟩
    · obtain ⟨r, g3, gm3, ww, dv, y1, y2, y3, y4, y5, y6⟩ := sto_both (n := n) (g := g1) (gm := gm1) (gs := gs) (i := i) (u := srt i) (by omega) (by omega) hco w6 w7
      have f3 : Fr valX g g3 := ((f0.mono (by decide)).trans (w3.mono (by decide))).trans (y2.fr.mono (by decide))
      have hS3 : StR g3 gs srt i bells 0 0 := (hS0.fr w3 (by decide)).fr y2.fr (by decide)
      have e72 : gIA g1 72 i = nI t := by rw [(w3 72 (by decide)).2.2.2.1]; exact q4
      have e67 : gIA g1 67 i = nI (srt i) := by rw [(w3 67 (by decide)).2.2.2.1]; exact s1
      refine go (sLA (sLA g3 80 (vp_updL (gLA g3 80) i r)) 81 (vp_updL (gLA g3 81) i (vp_updL (gLA g3 80) i r i))) (sDA (sLA (sDA (sLA gs 0 (vp_updL (gLA gs 0) i ww)) 1 (vf_upd (gDA gs 1) i dv)) 2 (vp_updL (gLA gs 2) i (vp_updL (gLA gs 0) i ww i))) 3 (vf_upd (gDA gs 3) i (vf_upd (gDA gs 1) i dv i))) gm3 ?_ ((f3.trans (Fr.sLA (by decide) _ _)).trans (Fr.sLA (by decide) _ _)) ((((Fr.sLA (by decide) _ _).trans (Fr.sDA (by decide) _ _)).trans (Fr.sLA (by decide) _ _)).trans (Fr.sDA (by decide) _ _)) (fun a a1 a2 => ?_) (w4.trans y4) ?_ ?_
      · refine hS3.next (by omega) y5 y6 ((Fr.sLA (by decide) _ _).trans (Fr.sLA (by decide) _ _)) ((((Fr.sLA (by decide) _ _).trans (Fr.sDA (by decide) _ _)).trans (Fr.sLA (by decide) _ _)).trans (Fr.sDA (by decide) _ _)) ⟨pk_uLs, ?_, pk_uLs, if_pos rfl, ?_, ?_⟩ (fun a ha => ⟨pk_uLn (by omega), pk_uLn (by omega), pk_uLn (by omega), if_neg (by omega), pk_uLn (by omega), if_neg (by omega)⟩)
        · show vp_updL (gLA g3 81) i (vp_updL (gLA g3 80) i r i) i = r
          rw [pk_uLs, pk_uLs]
        · show vp_updL (gLA gs 2) i (vp_updL (gLA gs 0) i ww i) i = ww
          rw [pk_uLs, pk_uLs]
        · show vf_upd (gDA gs 3) i (vf_upd (gDA gs 1) i dv i) i = dv
          rw [show vf_upd (gDA gs 3) i (vf_upd (gDA gs 1) i dv i) i = vf_upd (gDA gs 1) i dv i from if_pos rfl]
          exact if_pos rfl
      · obtain ⟨z1, z2⟩ := hz a (by omega) a2
        exact ⟨(pk_uLn (by omega)).trans z1, (if_neg (by omega)).trans z2⟩
      · rw [eref, bnd_s w1]
        show (if (1 : Int32) = 0 then _ else _) = _
        rw [if_neg (by decide), e72, e67, bnd_s y1]
      · rw [ecls, bnd_s w2]
        show (if (1 : Int32) = 0 then _ else _) = _
        rw [if_neg (by decide), bnd_s y3]
        rfl
    · obtain ⟨g3, gs3, y1, y2, y3, y4⟩ := jam_both (row := i) (hS0.fr w3 (by decide)) (by omega)
      obtain ⟨z1, z2⟩ := hz i (Nat.le_refl _) (by omega)
      have fj : Fr [6, 7, 8] gs gs3 := noteJam_fr y2
      have f3 : Fr valX g g3 := ((f0.mono (by decide)).trans (w3.mono (by decide))).trans (y4.mono (by decide))
      have e80 : gLA g3 80 i = 0 := by
        rw [(y4 80 (by decide)).2.2.2.2.1, (w3 80 (by decide)).2.2.2.2.1]
        exact pk_uLs
      have e0 : gLA gs3 0 i = 0 := by rw [(fj 0 (by decide)).2.2.2.2.1]; exact z1
      have e1 : gDA gs3 1 i = FP.dconst0 := by rw [(fj 1 (by decide)).2.2.2.2.2.1]; exact z2
      refine go (sLA g3 81 (vp_updL (gLA g3 81) i (gLA g3 80 i))) (sDA (sLA gs3 2 (vp_updL (gLA gs3 2) i (gLA gs3 0 i))) 3 (vf_upd (gDA gs3 3) i (gDA gs3 1 i))) gm1 ?_ (f3.trans (Fr.sLA (by decide) _ _)) (((fj.mono (by decide)).trans (Fr.sLA (by decide) _ _)).trans (Fr.sDA (by decide) _ _)) (fun a a1 a2 => ?_) w4 ?_ ?_
      · refine y3.next (r := 0) (w := 0) (d := FP.dconst0) (by omega) (vr_zero _).1 (vr_zero _).2 (Fr.sLA (by decide) _ _) ((Fr.sLA (by decide) _ _).trans (Fr.sDA (by decide) _ _)) ⟨e80, ?_, e0, e1, ?_, ?_⟩ (fun a ha => ⟨rfl, pk_uLn (by omega), rfl, rfl, pk_uLn (by omega), if_neg (by omega)⟩)
        · show vp_updL (gLA g3 81) i (gLA g3 80 i) i = _
          rw [pk_uLs]; exact e80
        · show vp_updL (gLA gs3 2) i (gLA gs3 0 i) i = _
          rw [pk_uLs]; exact e0
        · show vf_upd (gDA gs3 3) i (gDA gs3 1 i) i = _
          rw [show vf_upd (gDA gs3 3) i (gDA gs3 1 i) i = gDA gs3 1 i from if_pos rfl]; exact e1
      · obtain ⟨z1, z2⟩ := hz a (by omega) a2
        show gLA gs3 0 a = 0 ∧ gDA gs3 1 a = FP.dconst0
        rw [(fj 0 (by decide)).2.2.2.2.1, (fj 1 (by decide)).2.2.2.2.2.1]
        exact ⟨z1, z2⟩
      · rw [eref, bnd_s w1]
        show (if (0 : Int32) = 0 then _ else _) = _
        rw [if_pos rfl, bnd_s y1]
      · rw [ecls, bnd_s w2]
        show (if (0 : Int32) = 0 then _ else _) = _
        rw [if_pos rfl, ← w6, ← w7, bnd_s y2]
