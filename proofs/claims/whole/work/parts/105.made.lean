theorem made_any0 {n M : Nat} {x0 e : Int32} (hn : 65 ≤ n) (hM : M = 0) : f_X12_made n x0 (lN M) e 7 = some (lN (if x0 = 0 then 0 else 2 ^ 63)) := by
  have h67 : ∀ v, b_X12_made_67 n x0 7 53 (-1074) (lN M) e v = some (lN (if x0 = 0 then 0 else 2 ^ 63)) := by
    intro v
    rw [hM]
    exact made_67_any0
  have hM2 : M < 2 ^ 64 := by omega
  clear hM
  unfold f_X12_made b_X12_made_14 b_X12_made_32
  rw [if_neg (by decide), if_neg (by decide), f_lengthOf hn hM2]
  show (if (-1074 : Int32) ≤ e + (nI (lenN M) - (53 : Int32)) then _ else _) = _
  split <;> exact h67 _
theorem bitsOr_zero {x0 : Int32} {q : Int} : bitsOr (decide (¬ x0 = 0)) (.fin false 0 q) = lN (if x0 = 0 then 0 else 2 ^ 63) := by
  have hs : (if decide (¬ x0 = 0) = true then 2 ^ 63 else 0 : Nat) = (if x0 = 0 then 0 else 2 ^ 63) := by
    by_cases h : x0 = 0 <;> simp [h]
  unfold bitsOr
  dsimp only
  have e : Jvm.FP.Core.encode Jvm.FP.Core.b64 (.fin (decide (¬ x0 = 0)) 0 q) = Jvm.FP.Core.encode Jvm.FP.Core.b64 (.fin (decide (¬ x0 = 0)) 0 (((0 : Nat) : Int) - 1074)) := by
    unfold Jvm.FP.Core.encode
    dsimp only
    rw [if_pos (Jvm.FP.Core.tails_pos _), if_pos (Jvm.FP.Core.tails_pos _)]
  rw [e, enc_fin, hs, if_pos (show 0 < 2 ^ 52 by decide), Nat.add_zero]
theorem f_made {n M : Nat} {x0 e : Int32} {E : Int} (hn : 65 ≤ n) (hM : M < 2 ^ 63) (he : e.toInt = E) (h1 : -4000 ≤ E) (h2 : E ≤ 4000) : f_X12_made n x0 (lN M) e 7 = some (bitsOr (decide (¬ x0 = 0)) (Jvm.FP.Core.roundRatio Jvm.FP.Core.b64 false M 1 E)) := by
  by_cases hM0 : M = 0
  · subst hM0
    rw [made_any0 hn rfl]
    unfold Jvm.FP.Core.roundRatio
    rw [if_pos rfl, bitsOr_zero]
  obtain ⟨v, hv, hf⟩ := f_made_67 (x0 := x0) hn hM0 hM he h1 h2
  rw [hf]
  have hL : lenN M ≤ 64 := lenN_le (by omega)
  have hB := lenN_bounds hM0
  have hL1 : 1 ≤ lenN M := by unfold lenN; rw [if_neg hM0]; omega
  have hup := Jvm.FP.Core.nearest_units_le (f := Jvm.FP.Core.b64) (A := M) (B := 1) (by omega) (by decide) E
  have hQ := quant64 hM0 E
  unfold Jvm.FP.Core.roundRatio Jvm.FP.Core.roundAt
  rw [if_neg hM0]
  have t63 : (63 : Int32).toInt = 63 := by decide
  have tl : (-1074 : Int32).toInt = -1074 := by decide
  generalize Jvm.FP.Core.quantum Jvm.FP.Core.b64 M 1 E = Q at hv hup hQ ⊢
  unfold Jvm.FP.Core.unitsNum Jvm.FP.Core.unitsDen at hup ⊢
  rw [Nat.one_mul] at hup ⊢
  have hp : Jvm.FP.Core.b64.p = 53 := rfl
  rw [hp] at hup
  obtain ⟨k, hk⟩ : ∃ k : Nat, Q = (k : Int) - 1074 := ⟨(Q + 1074).toNat, by omega⟩
  by_cases c1 : Q - E ≤ 63
  · by_cases c2 : 0 < Q - E
    · obtain ⟨d, hd⟩ : ∃ d : Nat, Q - E = (d : Int) := ⟨(Q - E).toNat, by omega⟩
      have e1 : (E - Q).toNat = 0 := by omega
      have e2 : (Q - E).toNat = d := by omega
      rw [e1, e2, Nat.pow_zero, Nat.mul_one] at hup ⊢
      rw [i32_nI (hv.trans hd) (by omega), made_67_pos hM (by omega) (by omega)]
      have h3 : (nI d).toInt = (d : Int) := nI_toInt (by omega)
      have h4 : (e + nI d).toInt = Q := by
        rw [i32_add (by rw [h3, he]; omega) (by rw [h3, he]; omega), h3, he]; omega
      have h5 : e + nI d - (-1074 : Int32) = nI k := by
        refine i32_nI ?_ (by omega)
        rw [i32_sub (by rw [h4, tl]; omega) (by rw [h4, tl]; omega), h4, tl]; omega
      rw [made_178 hup ?_ (by omega) h5, hk]
      intro hlt
      by_cases hk0 : k = 0
      · exact hk0
      · exfalso
        have hd' : d + 53 = lenN M := by omega
        have : 2 ^ 52 ≤ Jvm.FP.Core.nearest M (2 ^ d) := by
          refine Jvm.FP.Core.nearest_ge (Nat.two_pow_pos d) ?_
          rw [← Nat.pow_add, show 52 + d = lenN M - 1 by omega]
          exact hB.1
        omega
    · obtain ⟨d, hd⟩ : ∃ d : Nat, Q - E = -(d : Int) := ⟨(E - Q).toNat, by omega⟩
      have e1 : (E - Q).toNat = d := by omega
      have e2 : (Q - E).toNat = 0 := by omega
      rw [e1, e2, Nat.pow_zero] at hup ⊢
      have hx := Jvm.FP.Core.nearest_exact (B := 1) (M * 2 ^ d) (by decide)
      rw [Nat.mul_one] at hx
      rw [hx] at hup ⊢
      have hlt : M * 2 ^ d < 2 ^ 63 := Nat.lt_of_le_of_lt hup (by decide)
      rw [i32_neg (hv.trans hd) (by omega), made_67_neg (by omega) (by omega) hlt]
      have h3 : (-nI d).toInt = -(d : Int) := sb_negT (by omega)
      have h4 : (e + -nI d).toInt = Q := by
        rw [i32_add (by rw [h3, he]; omega) (by rw [h3, he]; omega), h3, he]; omega
      have h5 : e + -nI d - (-1074 : Int32) = nI k := by
        refine i32_nI ?_ (by omega)
        rw [i32_sub (by rw [h4, tl]; omega) (by rw [h4, tl]; omega), h4, tl]; omega
      rw [made_178 hup ?_ (by omega) h5, hk]
      intro hlt2
      by_cases hk0 : k = 0
      · exact hk0
      · exfalso
        have hd' : d + lenN M = 53 := by omega
        have : 2 ^ 52 ≤ M * 2 ^ d := by
          have := Nat.mul_le_mul_right (2 ^ d) hB.1
          rw [← Nat.pow_add, show lenN M - 1 + d = 52 by omega] at this
          exact this
        omega
  · have hc : ¬ v ≤ (63 : Int32) := by
      rw [Int32.le_iff_toInt_le, hv, t63]; omega
    have e1 : (E - Q).toNat = 0 := by omega
    have hk0 : Q = -1074 := by omega
    unfold b_X12_made_67
    rw [if_neg hc, e1, Nat.pow_zero, Nat.mul_one]
    have hge : 2 ^ 64 ≤ 2 ^ (Q - E).toNat := Nat.pow_le_pow_right (by decide) (by omega)
    have hz : Jvm.FP.Core.nearest M (2 ^ (Q - E).toNat) = 0 := by
      unfold Jvm.FP.Core.nearest
      rw [Nat.mod_eq_of_lt (by omega), if_pos (by omega), Nat.div_eq_of_lt (by omega)]
    rw [hz]
    unfold Jvm.FP.Core.settle Jvm.FP.Core.bound
    rw [if_pos (Nat.two_pow_pos _), if_pos (by rw [hk0]; decide), bitsOr_zero]
    exact made_178_zero
