/-! a whole tick -/
theorem beg_ref {n many a : Nat} (hm : many ≤ 40) (ha : a < 32) : ∀ (d k i : Nat) (g : Gs), i + d = many → gI g 60 = nI many → d < k → ∃ g' k', k ≤ k' + d + 1 ∧ (L_X12_tick1 n k).1 g (nI a) (nI i) = (L_X12_tick1 n k').2 g' 0 ∧ Fr [81, 82] g g' ∧ (∀ j, j < many → gLA g' 81 j = if i ≤ j then gLA g 80 j else gLA g 81 j) ∧ (∀ j c, j < many → c < 32 → gLA g' 82 (32 * j + c) = if i ≤ j ∧ c = a then gLA g 80 j else gLA g 82 (32 * j + c)) := by
  intro d
  induction d with
  | zero =>
    intro k i g hi h60 hk
    obtain ⟨k, rfl⟩ : ∃ q, k = q + 1 := ⟨k - 1, by omega⟩
    refine ⟨g, k, by omega, ?_, Fr.refl _ _, ?_, ?_⟩
    · show h_X12_tick1_22 n (L_X12_tick1 n k) g (nI a) (nI i) = _
      unfold h_X12_tick1_22
      rw [h60, if_pos (nI_le (by omega) (by omega))]
    · intro j hj; rw [if_neg (by omega)]
    · intro j c hj hc; rw [if_neg (by omega)]
  | succ d ih =>
    intro k i g hi h60 hk
    obtain ⟨k, rfl⟩ : ∃ q, k = q + 1 := ⟨k - 1, by omega⟩
    have i40 : inB (nI i) 40 = true := inB_nI (by omega) (by decide)
    obtain ⟨g', k', h1, h2, h3, h4, h5⟩ := ih k (i + 1) (sLA (sLA g 81 (vp_updL (gLA g 81) i (gLA g 80 i))) 82 (vp_updL (gLA g 82) (32 * i + a) (gLA g 80 i))) (by omega) h60 (by omega)
    refine ⟨g', k', by omega, ?_, ((Fr.sLA (by decide) _ _).trans (Fr.sLA (by decide) _ _)).trans h3, ?_, ?_⟩
    · rw [← h2]
      show h_X12_tick1_22 n (L_X12_tick1 n k) g (nI a) (nI i) = _
      unfold h_X12_tick1_22
      have e1 : (32 : Int32) * nI i + nI a = nI (32 * i + a) := by rw [show (32 : Int32) = nI 32 from rfl, pk_mul, nI_add]
      rw [h60, if_neg (nI_ge (by omega) (by omega)), grd_t i40, grd_t i40, grd_t i40, e1, grd_t (inB_nI (by omega) (by decide)), nI_clamp (by omega), nI_clamp (by omega), nI_1]
    · intro j hj
      rw [h4 j hj]
      show (if i + 1 ≤ j then gLA g 80 j else vp_updL (gLA g 81) i (gLA g 80 i) j) = _
      by_cases hq : j = i
      · rw [if_neg (by omega), hq, pk_uLs, if_pos (by omega)]
      · rw [pk_uLn hq]
        by_cases h : i ≤ j
        · rw [if_pos (by omega), if_pos h]
        · rw [if_neg (by omega), if_neg h]
    · intro j c hj hc
      rw [h5 j c hj hc]
      show (if i + 1 ≤ j ∧ c = a then gLA g 80 j else vp_updL (gLA g 82) (32 * i + a) (gLA g 80 i) (32 * j + c)) = _
      by_cases hq : 32 * j + c = 32 * i + a
      · have : j = i := by omega
        rw [if_neg (by omega), hq, pk_uLs, if_pos (by omega), this]
      · rw [pk_uLn hq]
        by_cases h : i ≤ j ∧ c = a
        · rw [if_pos (by omega), if_pos h]
        · rw [if_neg (by omega), if_neg h]
theorem beg_cls {gs : Gs} {t : Nat} (ht : gL gs 14 = lN t) (ht2 : t < 2 ^ 60) : f_X9_beginTick gs = some (sDA (sLA (sDA (sLA (sL gs 14 (lN (t + 1))) 4 (va_cpy (gLA gs 0) (gLA gs 4) 0 (t % 32 * 40) 40)) 5 (va_cpy (gDA gs 1) (gDA gs 5) 0 (t % 32 * 40) 40)) 2 (va_cpy (gLA gs 0) (gLA gs 2) 0 0 40)) 3 (va_cpy (gDA gs 1) (gDA gs 3) 0 0 40)) := by
  have e1 : gL gs 14 + 1 = lN (t + 1) := by
    apply uL_inj
    rw [ht, uL_add, uL_lN (by omega), uL_lN (by omega), show uL 1 = 1 from by decide]
    omega
  have e2 : f_X9_pastRow (sL gs 14 (lN (t + 1))) 1 = some (nI (t % 32 * 40)) := by
    unfold f_X9_pastRow
    have e3 : gL (sL gs 14 (lN (t + 1))) 14 - (1 : Int32).toInt64 = lN t := by
      apply uL_inj
      show uL (lN (t + 1) - 1) = _
      rw [uL_sub, uL_lN (by omega), uL_lN (by omega), show uL 1 = 1 from by decide]
      omega
    have e4 : (lN (t % 32)).toInt32 = nI (t % 32) := by
      have h32 : t % 32 < 32 := Nat.mod_lt _ (by decide)
      have : ∀ m : Fin 32, (lN m.val).toInt32 = nI m.val := by decide
      exact this ⟨t % 32, h32⟩
    rw [e3, lN_and (by omega) 5 (by decide), show t % 2 ^ 5 = t % 32 from rfl, e4, show (40 : Int32) = nI 40 from rfl, pk_mul]
  unfold f_X9_beginTick
  have hr : t % 32 * 40 + 40 ≤ 1280 := by have := Nat.mod_lt t (show 0 < 32 by decide); omega
  have c1 : cpB (0 : Int32) (nI (t % 32 * 40)) (40 : Int32) 40 1280 = true := by
    have h32 : t % 32 < 32 := Nat.mod_lt _ (by decide)
    have : ∀ m : Fin 32, cpB (0 : Int32) (nI (m.val * 40)) (40 : Int32) 40 1280 = true := by decide
    exact this ⟨t % 32, h32⟩
  rw [e1, bnd_s e2, grd_t c1, grd_t c1, grd_t (by decide), grd_t (by decide), nI_clamp (by omega)]
  rfl
theorem beg_both {n : Nat} {g gs : Gs} {srt : Nat → Nat} {many bells S t : Nat} (h : StR g gs srt many bells S t) (h60 : gI g 60 = nI many) (hn : 3000 ≤ n) (ht : t < 2 ^ 60) : ∃ g' gs' k', 2900 ≤ k' ∧ f_X12_tick1 n g = (L_X12_tick1 n k').2 g' 0 ∧ f_X9_beginTick gs = some gs' ∧ StR g' gs' srt many bells S (t + 1) ∧ Fr [81, 82, 87] g g' := by
  obtain ⟨⟨d1, d2, d3, d4⟩, h2, h3, h4, h5, h6, h7⟩ := h
  have e1 : gL g 87 + 1 = lN (t + 1) := by
    apply uL_inj
    rw [d2, h6, uL_add, uL_lN (by omega), uL_lN (by omega), show uL 1 = 1 from by decide]
    omega
  have e2 : ((lN (t + 1)) &&& (31 : Int64)).toInt32 = nI ((t + 1) % 32) := by
    rw [lN_and (by omega) 5 (by decide)]
    have h32 : (t + 1) % 32 < 32 := Nat.mod_lt _ (by decide)
    have : ∀ m : Fin 32, (lN m.val).toInt32 = nI m.val := by decide
    exact this ⟨(t + 1) % 32, h32⟩
  obtain ⟨g', k', b1, b2, b3, b4, b5⟩ := beg_ref (n := n) d1 (Nat.mod_lt (t + 1) (show 0 < 32 by decide)) many n 0 (sL g 87 (lN (t + 1))) (by omega) h60 (by omega)
  refine ⟨g', _, k', by omega, ?_, beg_cls h6 ht, ?_, (Fr.sL (by decide) _ _).trans (b3.mono (by decide))⟩
  · rw [← b2]
    unfold f_X12_tick1
    rw [e1, e2]
    rfl
  have f : ∀ k, k ∉ [81, 82] → _ := b3
  have g80 : gLA g' 80 = gLA g 80 := (b3 80 (by decide)).2.2.2.2.1
  refine ⟨⟨d1, ?_, ?_, ?_⟩, ?_, ?_, ?_, ?_, rfl, ?_⟩
  · exact (b3 87 (by decide)).2.1
  · rw [show gL g' 91 = gL g 91 from (b3 91 (by decide)).2.1]; exact d3
  · intro a ha
    obtain ⟨v1, v2, v3, v4⟩ := d4 a ha
    rw [g80, b4 a ha, if_pos (by omega)]
    refine ⟨v1, v2, ?_, v2⟩
    show VR (srt a) (gLA g 80 a) (va_cpy (gLA gs 0) (gLA gs 2) 0 0 40 a) (va_cpy (gDA gs 1) (gDA gs 3) 0 0 40 a)
    rw [pk_cpy_in (by omega) (by omega), pk_cpy_in (by omega) (by omega)]
    simpa using v1
  · rw [show gIA g' 83 = gIA g 83 from (b3 83 (by decide)).2.2.2.1, show gIA g' 84 = gIA g 84 from (b3 84 (by decide)).2.2.2.1, show gIA g' 85 = gIA g 85 from (b3 85 (by decide)).2.2.2.1]
    exact h2
  · rw [show gIA g' 86 = gIA g 86 from (b3 86 (by decide)).2.2.2.1]; exact h3
  · rw [show gI g' 88 = gI g 88 from (b3 88 (by decide)).1]; exact h4
  · rw [show gLA g' 89 = gLA g 89 from (b3 89 (by decide)).2.2.2.2.1, show gIA g' 90 = gIA g 90 from (b3 90 (by decide)).2.2.2.1]; exact h5
  · intro a a1 a32 at1 i hi
    have hm : (t + 1 - a + 1) % 32 < 32 := Nat.mod_lt _ (by decide)
    rw [b5 i _ hi hm]
    show VR (srt i) (if 0 ≤ i ∧ (t + 1 - a + 1) % 32 = (t + 1) % 32 then gLA g 80 i else gLA g 82 (32 * i + (t + 1 - a + 1) % 32)) (va_cpy (gLA gs 0) (gLA gs 4) 0 (t % 32 * 40) 40 ((t + 1 - a) % 32 * 40 + i)) (va_cpy (gDA gs 1) (gDA gs 5) 0 (t % 32 * 40) 40 ((t + 1 - a) % 32 * 40 + i))
    by_cases ha : a = 1
    · subst ha
      have e1 : t + 1 - 1 = t := by omega
      rw [e1, if_pos ⟨by omega, rfl⟩, pk_cpy_in (by omega) (by omega), pk_cpy_in (by omega) (by omega)]
      have e2 : 0 + (t % 32 * 40 + i - t % 32 * 40) = i := by omega
      rw [e2]
      exact (d4 i hi).1
    · have e1 : t + 1 - a = t - (a - 1) := by omega
      have e3 : ¬ (0 ≤ i ∧ (t + 1 - a + 1) % 32 = (t + 1) % 32) := by omega
      have e4 : (t + 1 - a) % 32 * 40 + i < t % 32 * 40 ∨ t % 32 * 40 + 40 ≤ (t + 1 - a) % 32 * 40 + i := by omega
      rw [if_neg e3, pk_cpy_out e4, pk_cpy_out e4, e1]
      exact h7 (a - 1) (by omega) (by omega) (by omega) i hi
