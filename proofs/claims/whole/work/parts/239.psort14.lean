/-! sorts: from the parser's code on; a plan's sorts on both sides -/
theorem sd_of {g0 g' gc0 gc' gp : Gs} {many cams i : Nat} {q : Nat × Nat × Nat} (hR : RE g0 g0 i q) (hC : CE g0 gc0 i q) (h15 : Fr [15] g0 g') (h5 : Fr [5] gc0 gc') (hno : ¬ opN q.1 → gIA g' 15 (2000 + i) = gIA g0 15 (2000 + i) ∧ gIA gc' 5 i = gIA gc0 5 i) (hna : opN q.1 → ∃ k, (k < if q.1 = 64 then cams else many) ∧ gIA g' 15 (2000 + i) = nI k ∧ gIA gc' 5 i = nI k) : Sd g' gc' gp many cams i q := by
  obtain ⟨r1, r2, r3, r4, r5, r6, r7⟩ := hR
  obtain ⟨c1, c2, c3, c4, c5, c6, c7⟩ := hC
  have e14 := (h15 14 (by decide)).2.2.2.1
  have e17 := (h15 17 (by decide)).2.2.2.1
  have e18 := (h15 18 (by decide)).2.2.2.2.1
  have d0 := (h5 0 (by decide)).2.2.2.1
  have d1 := (h5 1 (by decide)).2.2.2.1
  have d2 := (h5 2 (by decide)).2.2.2.1
  have d6 := (h5 6 (by decide)).2.2.2.2.1
  have d7 := (h5 7 (by decide)).2.2.2.2.2.1
  unfold Sd
  rw [e14, e17, e18, d0, d1, d2, d6, d7]
  refine ⟨c1, r1, c2.trans r2.symm, fun z => ?_, fun z => ?_, fun z => ?_, fun z => ?_, fun z => ?_, fun z z2 => ?_, fun z => ?_⟩
  · have nn := hno (by rw [z]; unfold opN; omega)
    rw [nn.1]
    rcases c3 z with ⟨k1, k2, k3, k4, k5⟩ | ⟨k1, k2, k3⟩ | ⟨k1, k2, k3⟩
    · rcases r3 z with ⟨_, l2, l3⟩ | ⟨l1, _⟩ | ⟨l1, _⟩
      · exact ⟨ts g0 q.2.1, k4, l2, k2, by rw [l3]; exact k3, by rw [l3]; exact k5⟩
      · omega
      · omega
    · rcases r3 z with ⟨l1, _⟩ | ⟨_, l2, l3⟩ | ⟨l1, _⟩
      · omega
      · exact ⟨0, by decide, l2, k2, (VR.whole (by decide)).mpr (by rw [l3, k3]), fun y => absurd y (by decide)⟩
      · omega
    · rcases r3 z with ⟨l1, _⟩ | ⟨l1, _⟩ | ⟨_, l2, l3⟩
      · omega
      · omega
      · exact ⟨0, by decide, l2, k2, (VR.whole (by decide)).mpr (by rw [l3, k3]), fun y => absurd y (by decide)⟩
  · obtain ⟨k, k1, k2, k3⟩ := hna (by unfold opN; omega)
    rw [if_neg (by omega)] at k1
    exact ⟨k, k1, k3, k2⟩
  · obtain ⟨k, k1, k2, k3⟩ := hna (by unfold opN; omega)
    rw [if_pos z] at k1
    exact ⟨k, k1, k3, k2⟩
  · have nn := hno (by unfold opT at z; unfold opN; omega)
    rw [nn.1]
    obtain ⟨l1, l2, l3⟩ := r4 z
    exact ⟨_, l3, l1, l2⟩
  · have nn := hno (by rw [z]; unfold opN; omega)
    rw [nn.1]
    exact ⟨(r5 z).1, c4 z, (r5 z).2⟩
  · have nn := hno (by unfold opJ at z; unfold opN; omega)
    rw [nn.1, nn.2]
    exact ⟨r6 z z2, c6 z z2⟩
  · have nn := hno (by rw [z]; unfold opN; omega)
    rw [nn.1, nn.2]
    exact ⟨r7 z, c7 z⟩
theorem sorts_both {n th be ca f A M : Nat} {g gT gp gc : Gs} {E : Nat → Nat × Nat × Nat} {FA tn fn rkk mn : Nat → Nat} (hn : 20000 ≤ n) (hc : th ≤ 40 ∧ be ≤ 12) (hM : M ≤ 3000) (hf : f ≤ 92) (hA : A ≤ 840) (f1 : FA 0 = 0 ∧ FA f = A ∧ ∀ F, F < f → gIA gc 11 F = nI (FA F) ∧ gIA gc 12 F = nI (FA (F + 1)) ∧ FA F ≤ FA (F + 1) ∧ FA (F + 1) ≤ A ∧ ∃ mm, Eg E mm (FA F) (FA (F + 1)) ∧ ∃ z, z ≤ 3000 ∧ gIA gc 14 F = nI z) (hcn : ecn E 0 A ≤ 500) (h18 : gI gc 18 = nI f ∧ gI gc 8 = nI A ∧ gI gp 4 = nI th) (h33 : gI g 33 = nI th) (h34 : gI g 34 = nI be) (hI : PI g gp gc th be f FA M tn fn rkk) (hSd : ∀ F, F < f → mn F ≤ th ∧ ∀ q, FA F ≤ q → q < FA (F + 1) → Sd g gc gp (mn F) ca q (E q)) :
    JF A f g gT gc (f_X12_judges n g) (f_X8_firstFault n gT gp gc) ∨
    ∃ g' gT' gc' srt, f_X12_judges n g = some (1, g') ∧ f_X8_firstFault n gT gp gc = some (-1, gT', gc') ∧ Cg 0 0 0 g gT gc g' gT' gc' ∧ (∀ i, i < th → srt i ≤ 7 ∧ gIA gp 7 i = nI (srt i) ∧ gIA g 38 i = nI (srt i)) ∧ (∀ x, x < f → FS g' gp gc' srt (mn x) ca x (FA x) (FA (x + 1))) ∧ (∀ k', k' < th + be → tn (k' + 1) = tn k' + 1 → gIA g' 46 (tn k') = gIA gc' 17 (fn k') ∧ (fn (k' + 1) = fn k' + 2 → gIA g' 47 (tn k') = gIA gc' 17 (fn k' + 1))) := by
  obtain ⟨b1, b2, b3⟩ := f1
  have mono : ∀ F F', F ≤ F' → F' ≤ f → FA F ≤ FA F' := fun F F' h1 h2 => FA_mono (fun F hF => (b3 F hF).2.2.1) h1 h2
  have hsrt : ∀ i, i < th → ∃ s, s ≤ 7 ∧ gIA gp 7 i = nI s ∧ gIA g 38 i = nI s := by
    intro i hi
    obtain ⟨k, _, k1, k2, k3⟩ := hI.thing hi (th + be) 0 (by omega) (by rw [hI.1.1]; omega)
    rcases hI.2.2.2.2 k k1 with ⟨_, s, p, y1, y2, y3, y4, _⟩ | ⟨z, _⟩
    · rw [k2] at y3 y4
      exact ⟨s, y1, y4, y3⟩
    · omega
  have hS2 : ∀ i, i < th → (gIA gp 7 i).toNatClampNeg ≤ 7 ∧ gIA gp 7 i = nI (gIA gp 7 i).toNatClampNeg ∧ gIA g 38 i = nI (gIA gp 7 i).toNatClampNeg := by
    intro i hi
    obtain ⟨s, s1, s2, s3⟩ := hsrt i hi
    rw [s2, nI_clamp (by omega)]
    exact ⟨s1, rfl, s3⟩
  have fg : Fr [59] g (sI g 59 1) := Fr.sI (by decide) _ _
  have hJ : JH n th be ca f A (FA (fn 0)) (sI g 59 1) gp gc E FA (fun i => (gIA gp 7 i).toNatClampNeg) mn := by
    refine ⟨hn, hf, hA, b2, mono, fun F hF => ?_, h18.1, fun F hF => ⟨begin_of hF hf h18.1 (b3 F hF).1, end_of hF hf h18.1 h18.2.1 hA (b3 F hF).2.2.2.1 (b3 F hF).2.1⟩, ⟨h33, h34, rfl⟩, ⟨hc.1, fun a ha => ⟨(hS2 a ha).1, ⟨(hS2 a ha).2.1, sort_of ha hc.1 h18.2.2 (hS2 a ha).2.1⟩, ?_⟩⟩, fun F hF => ⟨(hSd F hF).1, fun q _ q2 q3 => ((hSd F hF).2 q q2 q3).rows (Sx.of fg (Fr.refl [] gc) (by decide) (by decide)) ⟨rfl, rfl, rfl, rfl⟩⟩⟩
    · obtain ⟨mm, hE, _⟩ := (b3 F hF).2.2.2.2
      obtain ⟨d, d1, d2, d3⟩ := hE.deep
      have m1 := (b3 F hF).2.2.1
      have m2 := (b3 F hF).2.2.2.1
      have := ecn_add (E := E) (a := 0) (b := FA F) (c := A) (by omega) (by omega)
      have := ecn_add (E := E) (a := FA F) (b := FA (F + 1)) (c := A) m1 m2
      exact ⟨mm, d, by omega, d1⟩
    · unfold f_X12_sortOf
      rw [show gI (sI g 59 1) 59 = 1 from rfl, if_neg (by decide), grd_t (inB_nI (by omega) (by decide)), nI_clamp (by omega)]
      show some (gIA g 38 a) = _
      rw [(hS2 a ha).2.2]
  have hI' := hI.same (gc' := gc) (Y := []) fg (Fr.refl _ _) (by decide) (by decide)
  have c59 : Cg 0 0 0 g gT gc (sI g 59 1) gT gc := ⟨fg.mono (by decide), Fr.refl _ _, Fr.refl _ _, fun _ _ => rfl, fun _ _ => ⟨rfl, rfl, rfl, rfl⟩, fun _ _ => rfl, fun _ _ => ⟨rfl, rfl⟩⟩
  have hl := judges_loop (ca := ca) hc hM (th + be) 0 n n (sI g 59 1) gT gc (by omega) (by omega) (by omega) hI' hJ
  rw [hI.1.1, hI.1.2.2.1, Nat.sub_zero] at hl
  rcases hl with hN | ⟨g', gT', gc', w1, w2, w3, w4, w5⟩
  · exact .inl (JF.after hN c59)
  · exact .inr ⟨g', gT', gc', _, w1, w2, c59.trans w3 (by omega) (by omega) (by omega), hS2, fun x hx => w4 x (by omega) hx, fun k' q1 q2 => w5 k' (by omega) q1 q2⟩
