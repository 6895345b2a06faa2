/-! sorts: a whole plan -/
theorem PI.same {g g' gp gc gc' : Gs} {th be f M : Nat} {FA tn fn rkk : Nat → Nat} {X Y : List Nat} (h : PI g gp gc th be f FA M tn fn rkk) (h1 : Fr X g g') (h2 : Fr Y gc gc') (hX : 38 ∉ X ∧ 39 ∉ X ∧ 40 ∉ X ∧ 41 ∉ X ∧ 42 ∉ X ∧ 43 ∉ X ∧ 44 ∉ X ∧ 45 ∉ X ∧ 49 ∉ X ∧ 50 ∉ X ∧ 51 ∉ X ∧ 52 ∉ X) (hY : 13 ∉ Y ∧ 14 ∉ Y ∧ 15 ∉ Y) : PI g' gp gc' th be f FA M tn fn rkk := by
  obtain ⟨x1, x2, x3, x4, x5, x6, x7, x8, x9, x10, x11, x12⟩ := hX
  unfold PI ItT ItB at *
  rw [(h1 38 x1).2.2.2.1, (h1 39 x2).2.2.2.1, (h1 40 x3).2.2.2.1, (h1 41 x4).2.2.2.1, (h1 42 x5).2.2.2.1, (h1 43 x6).2.2.2.1, (h1 44 x7).2.2.2.1, (h1 45 x8).2.2.2.1, (h1 49 x9).2.2.2.1, (h1 50 x10).2.2.2.1, (h1 51 x11).2.2.2.1, (h1 52 x12).2.2.2.1, (h2 13 hY.1).2.2.2.1, (h2 14 hY.2.1).2.2.2.1, (h2 15 hY.2.2).2.2.2.1]
  exact h
theorem judges_loop {n th be ca f A M : Nat} {gp : Gs} {E : Nat → Nat × Nat × Nat} {FA tn fn rkk srt mn : Nat → Nat} (hc : th ≤ 40 ∧ be ≤ 12) (hM : M ≤ 3000) : ∀ (d k fr fm : Nat) (g gT gc : Gs), k + d = th + be → d + 2 ≤ fr → A - FA (fn k) + 2 * (f - fn k) + 1 ≤ fm → PI g gp gc th be f FA M tn fn rkk → JH n th be ca f A (FA (fn k)) g gp gc E FA srt mn →
    JF A f g gT gc (L_X12_judges n fr g 1 (nI (tn k)) (nI (k - tn k))) ((L_X8_firstFault n fm).1 gT gp gc (nI (fn k))) ∨
    ∃ g' gT' gc', L_X12_judges n fr g 1 (nI (tn k)) (nI (k - tn k)) = some (1, g') ∧ (L_X8_firstFault n fm).1 gT gp gc (nI (fn k)) = some (-1, gT', gc') ∧ Cg (FA (fn k)) (fn k) (tn k) g gT gc g' gT' gc' ∧ (∀ x, fn k ≤ x → x < f → FS g' gp gc' srt (mn x) ca x (FA x) (FA (x + 1))) ∧ (∀ k', k ≤ k' → k' < th + be → tn (k' + 1) = tn k' + 1 → gIA g' 46 (tn k') = gIA gc' 17 (fn k') ∧ (fn (k' + 1) = fn k' + 2 → gIA g' 47 (tn k') = gIA gc' 17 (fn k' + 1))) := by
  intro d
  have z1 : ¬ (1 : Int32) = 0 := by decide
  induction d with
  | zero =>
    intro k fr fm g gT gc hk hfr hfm hI hJ
    obtain ⟨fr, rfl⟩ : ∃ x, fr = x + 1 := ⟨fr - 1, by omega⟩
    obtain ⟨fm, rfl⟩ : ∃ x, fm = x + 1 := ⟨fm - 1, by omega⟩
    obtain ⟨i1, i2, i3, i4⟩ := hI.1
    have ek : k = th + be := by omega
    rw [ek, i2, i4, show th + be - th = be by omega]
    obtain ⟨_, hf, _, _, _, _, h18, _, ⟨h33, h34, _⟩, _⟩ := hJ
    refine .inr ⟨sI g 59 0, gT, gc, ?_, ?_, ⟨Fr.sI (by decide) _ _, Fr.refl _ _, Fr.refl _ _, fun _ _ => rfl, fun _ _ => ⟨rfl, rfl, rfl, rfl⟩, fun _ _ => rfl, fun _ _ => ⟨rfl, rfl⟩⟩, fun x x1 x2 => by omega, fun k' k1 k2 => by omega⟩
    · show h_X12_judges_11 n (L_X12_judges n fr) g 1 (nI th) (nI be) = _
      unfold h_X12_judges_11 b_X12_judges_197
      rw [if_neg z1, h33, if_neg (nI_nlt (Nat.le_refl _) (by omega)), h34, if_pos (nI_le (Nat.le_refl _) (by omega))]; rfl
    · show h_X8_firstFault_2 n (L_X8_firstFault n fm) gT gp gc (nI f) = _
      unfold h_X8_firstFault_2
      rw [h18, if_pos (nI_le (Nat.le_refl _) (by omega))]
  | succ d ih =>
    intro k fr fm g gT gc hk hfr hfm hI hJ
    obtain ⟨fr, rfl⟩ : ∃ x, fr = x + 2 := ⟨fr - 2, by omega⟩
    have h33 := hJ.2.2.2.2.2.2.2.2.1.1
    have h34 := hJ.2.2.2.2.2.2.2.2.1.2.1
    have t0 := hI.2.1 k (by omega)
    have t1 := hI.2.1 (k + 1) (by omega)
    have hrk := hI.2.2.1
    have hinc := hI.2.2.2.1
    have hmono := hJ.2.2.2.2.1
    have hAf := hJ.2.2.2.1
    have en : L_X12_judges n (fr + 2) g 1 (nI (tn k)) (nI (k - tn k)) = h_X12_judges_11 n (L_X12_judges n (fr + 1)) g 1 (nI (tn k)) (nI (k - tn k)) := rfl
    have ct : (nI (tn k)).toNatClampNeg = tn k := nI_clamp (by omega)
    have cb : (nI (k - tn k)).toNatClampNeg = k - tn k := nI_clamp (by omega)
    rcases hI.2.2.2.2 k (by omega) with ⟨s1, s2⟩ | ⟨s1, s2⟩
    · -- a thing
      have hlt : tn k < th := by omega
      obtain ⟨s, p, y1, y2, y3, y4, y5, y6, y7, y8, y9, y10, y11, y12, y13, y14, y15, y16, y17⟩ := id s2
      have e62 : h_X12_judges_11 n (L_X12_judges n (fr + 1)) g 1 (nI (tn k)) (nI (k - tn k)) = b_X12_judges_62 n (L_X12_judges n (fr + 1)) g (nI (tn k)) (nI (k - tn k)) := by
        unfold h_X12_judges_11 b_X12_judges_31
        rw [if_neg z1, h33, if_pos (nI_lt hlt (by omega)), h34]
        by_cases hb : k - tn k = be
        · rw [if_pos (by rw [hb])]
        · have hb' : k - tn k < be := by omega
          rw [if_neg (fun z => hb ((nI_eq (by omega) (by omega)).mp z)), if_neg (nI_ge hlt (by omega)), grd_t (inB_nI (by omega) (by decide)), grd_t (inB_nI (by omega) (by decide)), ct, cb]
          obtain ⟨k', q1, q2, q3, q4⟩ := hI.bell hb' (d + 1) k hk (Nat.le_refl _)
          have hne : k ≠ k' := fun z => by rw [← z] at q4; omega
          have hr := hinc k k' (by omega) q2
          have e52 : gIA g 52 (k - tn k) = nI (rkk k') := by
            rcases hI.2.2.2.2 k' q2 with ⟨z, _⟩ | ⟨_, z1, z2, z3, z4, z5, z6, z7⟩
            · omega
            · rw [q3] at z6; exact z6
          have e45 : gIA g 45 (tn k) = nI (rkk k) := y14
          have := hrk k' q2
          rw [e52, e45, if_neg (nI_ge hr (by omega))]
      have hfk : fn k + p < f := by omega
      have hAk : FA (fn k) ≤ A := by rw [← hAf]; exact hmono (fn k) f (by omega) (Nat.le_refl _)
      have hm1 : FA (fn k) ≤ FA (fn k + 1 + p) := hmono (fn k) (fn k + 1 + p) (by omega) (by omega)
      have hm2 : FA (fn k + 1 + p) ≤ A := by rw [← hAf]; exact hmono (fn k + 1 + p) f (by omega) (Nat.le_refl _)
      rw [en, e62]
      rcases jd_thing (gT := gT) (fm := fm) (fr := fr) (v3 := nI (k - tn k)) hJ hfk (show tn k < 40 by omega) y1 y5 y3 y4 y6 y11 y12 y13 y15.1 y16 y17 (by omega) with hN | ⟨g1, gT1, gc1, fm1, x1, x2, x3, x4, x5, x6, x7, x8⟩
      · exact .inl hN
      · rw [x2, x3]
        have ek : nI (k - tn k) = nI (k + 1 - tn (k + 1)) := by rw [s1]; congr 1; omega
        have et : nI (tn k + 1) = nI (tn (k + 1)) := by rw [s1]
        have ef : fn k + 1 + p = fn (k + 1) := by omega
        rw [ek, et, ef]
        rw [ef] at x1 x5 x8 hm1 hm2
        rcases ih (k + 1) (fr + 1) fm1 g1 gT1 gc1 (by omega) (by omega) (by omega) (hI.same x4.1 x4.2.2.1 (by decide) (by decide)) x8 with hN | ⟨g', gT', gc', w1, w2, w3, w4, w5⟩
        · exact .inl (hN.after x4)
        · refine .inr ⟨g', gT', gc', w1, w2, x4.trans w3 hm1 (by omega) (by omega), fun x q1 q2 => ?_, fun k' q1 q2 q3 => ?_⟩
          · by_cases hx : x < fn (k + 1)
            · exact (x5 x q1 hx).keep w3 hx (hmono (x + 1) (fn (k + 1)) (by omega) (by omega))
            · exact w4 x (by omega) q2
          · by_cases hx : k' = k
            · rw [hx]
              have v := w3.2.2.2.2.2.2 (tn k) (by omega)
              have u := w3.2.2.2.2.2.1
              refine ⟨by rw [v.1, u (fn k) (by omega)]; exact x6, fun z => ?_⟩
              rw [v.2, u (fn k + 1) (by omega)]
              exact x7 (by omega)
            · exact w5 k' (by omega) q2 q3
    · -- a bell
      obtain ⟨y1, y2, y3, y4, y5, y6, y7, y8⟩ := id s2
      have hbl : k - tn k < be := by omega
      have e167 : h_X12_judges_11 n (L_X12_judges n (fr + 1)) g 1 (nI (tn k)) (nI (k - tn k)) = b_X12_judges_167 n (L_X12_judges n (fr + 1)) g (nI (tn k)) (nI (k - tn k)) := by
        unfold h_X12_judges_11 b_X12_judges_31
        rw [if_neg z1, h33, h34, if_neg (show ¬ nI (k - tn k) = nI be from fun z => by have := (nI_eq (by omega) (by omega)).mp z; omega)]
        by_cases ht : tn k < th
        · rw [if_pos (nI_lt ht (by omega)), if_neg (nI_ge ht (by omega)), grd_t (inB_nI (by omega) (by decide)), grd_t (inB_nI (by omega) (by decide)), ct, cb]
          obtain ⟨k', q1, q2, q3, q4⟩ := hI.thing ht (d + 1) k hk (Nat.le_refl _)
          have hne : k ≠ k' := fun z => by rw [← z] at q4; omega
          have hr := hinc k k' (by omega) q2
          have e45 : gIA g 45 (tn k) = nI (rkk k') := by
            rcases hI.2.2.2.2 k' q2 with ⟨_, _, _, _, _, _, _, _, _, _, _, _, _, _, _, _, z, _⟩ | ⟨z, _⟩
            · rw [q3] at z; exact z
            · omega
          have e52 : gIA g 52 (k - tn k) = nI (rkk k) := y6
          have := hrk k' q2
          rw [e52, e45, if_pos (nI_le (by omega) (by omega))]
        · rw [if_neg (nI_nlt (by omega) (by omega)), if_neg (nI_ge hbl (by omega)), if_pos (nI_le (by omega) (by omega))]
      have hfk : fn k < f := by omega
      have hAk : FA (fn k) ≤ A := by rw [← hAf]; exact hmono (fn k) f (by omega) (Nat.le_refl _)
      have hm1 : FA (fn k) ≤ FA (fn k + 1) := hmono (fn k) (fn k + 1) (by omega) (by omega)
      have hm2 : FA (fn k + 1) ≤ A := by rw [← hAf]; exact hmono (fn k + 1) f (by omega) (Nat.le_refl _)
      rw [en, e167]
      rcases jd_bell (gT := gT) (fm := fm) (fr := fr) (i := tn k) (v2 := nI (tn k)) hJ hfk (show k - tn k < 12 by omega) y4 y5 y7 y8 (by omega) with hN | ⟨g1, gT1, gc1, fm1, x1, x2, x3, x4, x5, x8⟩
      · exact .inl hN
      · rw [x2, x3]
        have ek : nI (k - tn k + 1) = nI (k + 1 - tn (k + 1)) := by rw [s1]; congr 1; omega
        have et : nI (tn k) = nI (tn (k + 1)) := by rw [s1]
        rw [ek, et, ← y3]
        rw [← y3] at x1 x5 x8 hm1 hm2
        rcases ih (k + 1) (fr + 1) fm1 g1 gT1 gc1 (by omega) (by omega) (by omega) (hI.same x4.1 x4.2.2.1 (by decide) (by decide)) x8 with hN | ⟨g', gT', gc', w1, w2, w3, w4, w5⟩
        · exact .inl (hN.after x4)
        · refine .inr ⟨g', gT', gc', w1, w2, x4.trans w3 hm1 (by omega) (by omega), fun x q1 q2 => ?_, fun k' q1 q2 q3 => ?_⟩
          · by_cases hx : x < fn (k + 1)
            · rw [show x = fn k by omega, ← y3]
              exact x5.keep w3 (by omega) (Nat.le_refl _)
            · exact w4 x (by omega) q2
          · by_cases hx : k' = k
            · rw [hx] at q3; omega
            · exact w5 k' (by omega) q2 q3
