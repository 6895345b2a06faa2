/-! ticks: one thing or bell -/
theorem sto_both {n : Nat} {g gm gs : Gs} {i t u : Nat} {v : Int64} (hn : 65 ≤ n) (hi : i < 40) (hc : Co t u) (hv : VR t v (gLA gm 2 0) (gDA gm 3 0)) (hvi : VI t v) : ∃ r g' gm' w d, f_X12_become n g v (nI t) (nI u) = some (r, g') ∧ Sc g g' ∧ f_X1_store gm gs (nI i) (nI t) (nI u) = some (gm', sDA (sLA gs 0 (vp_updL (gLA gs 0) i w)) 1 (vf_upd (gDA gs 1) i d)) ∧ Fr [2, 3, 4, 5, 6] gm gm' ∧ VR u r w d ∧ VI u r := by
  have i40 : inB (nI i) 40 = true := inB_nI hi (by decide)
  have ci : (nI i).toNatClampNeg = i := nI_clamp (by omega)
  have st : ∀ gm', f_X1_become gm 0 (nI t) (nI u) = some gm' → f_X1_store gm gs (nI i) (nI t) (nI u) = some (gm', sDA (sLA gs 0 (vp_updL (gLA gs 0) i (gLA gm' 2 0))) 1 (vf_upd (gDA gs 1) i (gDA gm' 3 0))) := by
    intro gm' hb
    unfold f_X1_store
    rw [bnd_s hb, grd_t (show inB 0 512 = true from by decide), grd_t i40, grd_t (show inB 0 512 = true from by decide), grd_t i40, ci]
    rfl
  obtain ⟨t7, u7, hc⟩ := hc
  rcases hc with ⟨rfl, rfl⟩ | ⟨t1, tu⟩
  · have eb : f_X12_become n g v (nI 0) (nI 0) = some (v, g) := by unfold f_X12_become; exact if_pos rfl
    exact ⟨v, g, gm, _, _, eb, Sc.refl g, st gm (bec_same (T := 0) (by decide)), Fr.refl _ _, hv, hvi⟩
  · obtain ⟨r, g', gm', w', d', b1, b2, b3, b4, b5, b6, b7⟩ := bec_two (n := n) (g := g) (t := u) hn (show 0 < 512 by omega) t1 t7 (by omega) u7 (by omega) rfl rfl hv hvi
    refine ⟨r, g', gm', _, _, b1, b2, st gm' b3, b4.2.2.2.mono (by decide), ?_, b7⟩
    rw [b4.1, b4.2.1]; exact b6
theorem jam_both {g gs : Gs} {srt : Nat → Nat} {many bells S t row : Nat} (h : StR g gs srt many bells S t) (hr : row < 52) : ∃ g' gs', f_X12_jammed g (nI row) = some g' ∧ f_X9_noteJam gs (nI row) (gI g 95) (gI g 96) = some gs' ∧ StR g' gs' srt many bells S t ∧ Fr [83, 84, 85] g g' := by
  have r52 : inB (nI row) 52 = true := inB_nI hr (by decide)
  have cr : (nI row).toNatClampNeg = row := nI_clamp (by omega)
  obtain ⟨h1, h2, h3, h4, h5, h6, h7⟩ := h
  obtain ⟨e1, e2, e3⟩ := h2 row hr
  have key : ∀ J : Int32, (∀ r, r < 52 → upd (gIA g 83) row J r = upd (gIA gs 6) row J r ∧ upd (gIA g 84) row (gI g 95) r = upd (gIA gs 7) row (gI g 95) r ∧ upd (gIA g 85) row (gI g 96) r = upd (gIA gs 8) row (gI g 96) r) := by
    intro J r hr
    by_cases hq : r = row
    · subst hq; rw [pk_us, pk_us, pk_us, pk_us, pk_us, pk_us]; exact ⟨rfl, rfl, rfl⟩
    · rw [pk_un hq, pk_un hq, pk_un hq, pk_un hq, pk_un hq, pk_un hq]; exact h2 r hr
  unfold f_X12_jammed f_X9_noteJam
  rw [grd_t r52, grd_t r52, cr, ← e1]
  by_cases hm : (2147483647 : Int32) ≤ gIA g 83 row
  · rw [if_pos hm, if_pos hm]
    unfold b_X12_jammed_22 b_X9_noteJam_29
    simp only [grd_t r52, cr]
    refine ⟨_, _, rfl, rfl, ⟨h1, ?_, h3, h4, h5, h6, h7⟩, (Fr.sIA (by decide) _ _).trans (Fr.sIA (by decide) _ _)⟩
    have hJ : gIA g 83 row = 2147483647 := Int32.le_antisymm (by rw [Int32.le_iff_toInt_le]; have := Int32.toInt_lt (gIA g 83 row); have : (2147483647 : Int32).toInt = 2147483647 := by decide
                                                                 omega) hm
    have hu : upd (gIA g 83) row 2147483647 = gIA g 83 := by
      funext r
      by_cases hq : r = row
      · subst hq; rw [pk_us, hJ]
      · exact pk_un hq
    have k2 := key 2147483647
    rw [hu] at k2
    exact k2
  · rw [if_neg hm, if_neg hm, grd_t r52, grd_t r52, grd_t r52]
    unfold b_X12_jammed_22 b_X9_noteJam_29
    simp only [grd_t r52, cr]
    exact ⟨_, _, rfl, rfl, ⟨h1, key _, h3, h4, h5, h6, h7⟩, ((Fr.sIA (by decide) _ _).trans (Fr.sIA (by decide) _ _)).trans (Fr.sIA (by decide) _ _)⟩
theorem strk_both {n : Nat} {g gs : Gs} {srt : Nat → Nat} {many bells S t b : Nat} (h : StR g gs srt many bells S t) (hb : b < bells) (hb12 : bells ≤ 12) (hS : S < 2 ^ 31 - 2) : ∃ g' gs', (if (2147483647 : Int32) ≤ (gIA g 86 b) then (b_X12_strikes_60 n g (nI b)) else b_X12_strikes_60 n (sIA g 86 (upd (gIA g 86) b ((gIA g 86 b) + (1 : Int32)))) (nI b)) = some g' ∧ f_X9_noteStrike gs (nI b) = some gs' ∧ StR g' gs' srt many bells (S + 1) t ∧ Fr [86, 88, 89, 90] g g' := by
  have b12 : inB (nI b) 12 = true := inB_nI (by omega) (by decide)
  have cr : (nI b).toNatClampNeg = b := nI_clamp (by omega)
  obtain ⟨h1, h2, h3, ⟨h4, h4', h4''⟩, h5, h6, h7⟩ := h
  have e63 : nI S &&& (63 : Int32) = nI (S % 64) := pk_andN (by omega) 6 (by decide)
  have erem : nI (S % 64 + 1) - nI (S % 64 + 1) / 64 * 64 = nI ((S + 1) % 64) := by
    have h : (S % 64 + 1) % 64 = (S + 1) % 64 := by omega
    rw [← h]
    exact pk_rem (d := 64) (by omega) (by decide) (by decide)
  have ek : (if (64 : Int32) < nI (min S 64 + 1) then (64 : Int32) else nI (min S 64 + 1)) = nI (min (S + 1) 64) := by
    by_cases h : 64 ≤ S
    · have a1 : min S 64 + 1 = 65 := by omega
      have a2 : min (S + 1) 64 = 64 := by omega
      rw [a1, a2]; decide
    · have a1 : min S 64 + 1 = S + 1 := by omega
      have a2 : min (S + 1) 64 = S + 1 := by omega
      rw [a1, a2, if_neg (show ¬ (64 : Int32) < nI (S + 1) from nI_nlt (a := 64) (by omega) (by decide))]
  have i64 : inB (nI (S % 64)) 64 = true := inB_nI (by omega) (by decide)
  have c64 : (nI (S % 64)).toNatClampNeg = S % 64 := nI_clamp (by omega)
  have hS1 : ¬ nI S = (2147483647 : Int32) := fun z => by have := (nI_eq (b := 2147483647) (by omega) (by decide)).mp z; omega
  have key : ∀ J : Int32, (∀ r, r < bells → upd (gIA g 86) b J r = upd (gIA gs 9) b J r) := by
    intro J r hr
    by_cases hq : r = b
    · subst hq; rw [pk_us, pk_us]
    · rw [pk_un hq, pk_un hq]; exact h3 r hr
  have key2 : ∀ k, k < 64 → vp_updL (gLA g 89) (S % 64) (gL g 87) k = vp_updL (gLA gs 10) (S % 64) (gL gs 14) k ∧ upd (gIA g 90) (S % 64) (nI b) k = upd (gIA gs 11) (S % 64) (nI b) k := by
    intro k hk
    by_cases hq : k = S % 64
    · rw [hq, pk_uLs, pk_uLs, pk_us, pk_us]; exact ⟨h1.2.1, rfl⟩
    · rw [pk_uLn hq, pk_uLn hq, pk_un hq, pk_un hq]; exact h5 k hk
  have cls : ∀ J, b_X9_noteStrike_29 gs (nI b) J (nI b) = some (sI (sI (sIA (sLA (sIA gs 9 (upd (gIA gs 9) b J)) 10 (vp_updL (gLA gs 10) (S % 64) (gL gs 14))) 11 (upd (gIA gs 11) (S % 64) (nI b))) 13 (nI ((S + 1) % 64))) 12 (nI (min (S + 1) 64))) := by
    intro J
    unfold b_X9_noteStrike_29
    rw [h4'', h4', grd_t b12, grd_t i64, grd_t i64, cr, c64, nI_1 (S % 64), nI_1 (min S 64), erem, ek]
  have ref : ∀ g1 : Gs, gI g1 88 = nI S → b_X12_strikes_60 n g1 (nI b) = some (sI (sIA (sLA g1 89 (vp_updL (gLA g1 89) (S % 64) (gL g1 87))) 90 (upd (gIA g1 90) (S % 64) (nI b))) 88 (nI (S + 1))) := by
    intro g1 hg
    unfold b_X12_strikes_60
    rw [hg, e63, grd_t i64, grd_t i64, c64, if_neg hS1]
    unfold b_X12_strikes_121
    rw [nI_1]
  unfold f_X9_noteStrike
  rw [grd_t b12, cr, ← h3 b hb]
  by_cases hm : (2147483647 : Int32) ≤ gIA g 86 b
  · rw [if_pos hm, if_pos hm, cls, ref g h4]
    refine ⟨_, _, rfl, rfl, ⟨h1, h2, ?_, ⟨rfl, rfl, rfl⟩, key2, h6, h7⟩, ?_⟩
    · have hJ : gIA g 86 b = 2147483647 := Int32.le_antisymm (by rw [Int32.le_iff_toInt_le]; have := Int32.toInt_lt (gIA g 86 b); have : (2147483647 : Int32).toInt = 2147483647 := by decide
                                                                 omega) hm
      have hu : upd (gIA g 86) b 2147483647 = gIA g 86 := by
        funext r
        by_cases hq : r = b
        · subst hq; rw [pk_us, hJ]
        · exact pk_un hq
      have k2 := key 2147483647
      rw [hu] at k2
      exact k2
    · exact ((Fr.sLA (by decide) _ _).trans (Fr.sIA (by decide) _ _)).trans (Fr.sI (by decide) _ _)
  · rw [if_neg hm, if_neg hm, grd_t b12, cls, ref (sIA g 86 (upd (gIA g 86) b (gIA g 86 b + 1))) h4]
    exact ⟨_, _, rfl, rfl, ⟨h1, h2, key _, ⟨rfl, rfl, rfl⟩, key2, h6, h7⟩, (((Fr.sIA (by decide) _ _).trans (Fr.sLA (by decide) _ _)).trans (Fr.sIA (by decide) _ _)).trans (Fr.sI (by decide) _ _)⟩
