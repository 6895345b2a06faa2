/-! settling: counts cleared -/
theorem clear_loop {n : Nat} {g : Gs} : ∀ (d fr k : Nat) (gx : Gs), k + d = 52 → d < fr → Fr [83, 84, 85] g gx → (∀ i, i < k → gIA gx 83 i = 0 ∧ gIA gx 84 i = 0 ∧ gIA gx 85 i = -1) → ∃ g', (L_X12_settle n fr).2.2.2.2.1 gx (nI k) = (L_X12_settle n (fr - d - 1)).2.2.2.2.2.1 g' 0 ∧ Fr [83, 84, 85] g g' ∧ (∀ i, i < 52 → gIA g' 83 i = 0 ∧ gIA g' 84 i = 0 ∧ gIA g' 85 i = -1) := by
  intro d
  induction d with
  | zero =>
    intro fr k gx h1 h2 h3 h6
    obtain ⟨fr, rfl⟩ : ∃ x, fr = x + 1 := ⟨fr - 1, by omega⟩
    have ek : k = 52 := by omega
    rw [ek] at h6
    refine ⟨gx, ?_, h3, h6⟩
    show h_X12_settle_589 n (L_X12_settle n fr) gx (nI k) = _
    unfold h_X12_settle_589
    rw [ek, if_pos (show (52 : Int32) ≤ nI 52 by decide)]
    rfl
  | succ d ih =>
    intro fr k gx h1 h2 h3 h6
    obtain ⟨fr, rfl⟩ : ∃ x, fr = x + 1 := ⟨fr - 1, by omega⟩
    have ef : fr + 1 - (d + 1) - 1 = fr - d - 1 := by omega
    rw [ef]
    have b : inB (nI k) 52 = true := inB_nI (by omega) (by decide)
    have ck : (nI k).toNatClampNeg = k := nI_clamp (by omega)
    have e : (L_X12_settle n (fr + 1)).2.2.2.2.1 gx (nI k) = (L_X12_settle n fr).2.2.2.2.1 (sIA (sIA (sIA gx 83 (upd (gIA gx 83) k 0)) 84 (upd (gIA gx 84) k 0)) 85 (upd (gIA gx 85) k (-1))) (nI (k + 1)) := by
      show h_X12_settle_589 n (L_X12_settle n fr) gx (nI k) = _
      unfold h_X12_settle_589
      rw [if_neg (show ¬ (52 : Int32) ≤ nI k from nI_ge (b := 52) (by omega) (by decide)), grd_t b, grd_t b, grd_t b, ck, nI_1]
    rw [e]
    refine ih fr (k + 1) _ (by omega) (by omega) (((h3.trans (Fr.sIA (by decide) _ _)).trans (Fr.sIA (by decide) _ _)).trans (Fr.sIA (by decide) _ _)) (fun i hi => ?_)
    by_cases c : i = k
    · rw [c]
      refine ⟨?_, ?_, ?_⟩
      · show upd (gIA gx 83) k _ k = _; rw [pk_us]
      · show upd (gIA gx 84) k _ k = _; rw [pk_us]
      · show upd (gIA gx 85) k _ k = _; rw [pk_us]
    · obtain ⟨y1, y2, y3⟩ := h6 i (by omega)
      refine ⟨?_, ?_, ?_⟩
      · show upd (gIA gx 83) k _ i = _; rw [pk_un c]; exact y1
      · show upd (gIA gx 84) k _ i = _; rw [pk_un c]; exact y2
      · show upd (gIA gx 85) k _ i = _; rw [pk_un c]; exact y3
