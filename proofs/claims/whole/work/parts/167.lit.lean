/-! reals in a text -/
def tenf : Nat → UInt64
  | 0 => FP.dconst1
  | i + 1 => FP.dmul (tenf i) (4621819117588971520 : UInt64)
theorem dv_tenf : ∀ i, i ≤ 15 → Dv (tenf i) false (10 ^ i * Jvm.FP.Core.one64) := by
  intro i
  induction i with
  | zero => intro _; rw [Nat.pow_zero, Nat.one_mul]; exact dv_one
  | succ i ih =>
    intro h
    have h1 := ih (by omega)
    have hlt : 10 ^ (i + 1) < 2 ^ 53 := Nat.lt_of_le_of_lt (Nat.pow_le_pow_right (by decide) h) (by decide)
    have h2 := dv_mul (c := 10 ^ (i + 1)) (k := 1074) h1 dv_const10 hlt (by decide) (by
      rw [one64_eq]
      generalize (2 : Nat) ^ 1074 = X
      rw [Nat.pow_succ]
      ac_rfl)
    rw [one64_eq]
    exact h2
theorem val_quot2 {a b : UInt64} {n m : Nat} (da : Dv a false (n * Jvm.FP.Core.one64)) (db : Dv b false (m * Jvm.FP.Core.one64)) (hm0 : 0 < m) : Jvm.FP.Core.val64 (FP.ddiv a b) = Jvm.FP.Core.roundRatio Jvm.FP.Core.b64 false n m 0 := by
  have fa := Jvm.FP.Core.val64_fits a
  have fb := Jvm.FP.Core.val64_fits b
  obtain ⟨c, q, h1, h2⟩ := da
  obtain ⟨d, r, h3, h4⟩ := db
  rw [h1] at fa
  rw [h3] at fb
  have g1 := fa.2.1
  have g2 := fb.2.1
  rw [dv_qmin] at g1 g2
  have e := Jvm.FP.Core.val64_ddiv a b
  rw [h1, h3] at e
  have hd : d ≠ 0 := fun z => by
    rw [z] at h4
    unfold Jvm.FP.Core.inUnits at h4
    rw [Nat.zero_mul] at h4
    have := Nat.mul_pos hm0 Jvm.FP.Core.one64_pos
    omega
  have e2 : Jvm.FP.Core.quotient Jvm.FP.Core.b64 (.fin false c q) (.fin false d r) = Jvm.FP.Core.roundRatio Jvm.FP.Core.b64 false c d (q - r) := by
    unfold Jvm.FP.Core.quotient
    dsimp only
    rw [if_neg hd]; rfl
  refine (e.trans e2).trans (Jvm.FP.Core.roundRatio_congr (by omega) hm0 ?_)
  unfold Jvm.FP.Core.inUnits at h2 h4
  have hx : c * m * 2 ^ (q - -1074).toNat = n * d * 2 ^ (r - -1074).toNat := by
    refine Nat.eq_of_mul_eq_mul_right Jvm.FP.Core.one64_pos ?_
    rw [ac4a, ac4b, h2, h4]
  by_cases hqr : r ≤ q
  · rw [show (0 - (q - r)).toNat = 0 by omega, Nat.pow_zero, Nat.mul_one]
    have e3 : 2 ^ (q - -1074).toNat = 2 ^ (q - r - 0).toNat * 2 ^ (r - -1074).toNat := by rw [← Nat.pow_add]; congr 1; omega
    rw [e3, ← Nat.mul_assoc] at hx
    exact Nat.eq_of_mul_eq_mul_right (Nat.two_pow_pos _) hx
  · rw [show (q - r - 0).toNat = 0 by omega, Nat.pow_zero, Nat.mul_one]
    have e3 : 2 ^ (r - -1074).toNat = 2 ^ (0 - (q - r)).toNat * 2 ^ (q - -1074).toNat := by rw [← Nat.pow_add]; congr 1; omega
    rw [e3, ← Nat.mul_assoc] at hx
    exact Nat.eq_of_mul_eq_mul_right (Nat.two_pow_pos _) hx
/-- w over a power of ten -/
theorem lit_quot {w b : Nat} (hw : w < 10 ^ 15) (hb : b ≤ 15) : ∃ X, Dv (FP.ddiv (FP.l2d (lN w)) (tenf b)) false X ∧ (w = 0 → X = 0) ∧ (0 < w → 2 ^ 1024 ≤ X) ∧ X ≤ 2 ^ 1124 := by
  have h10 : 0 < 10 ^ b := Nat.pow_pos (by decide)
  have hv := val_quot2 (dv_l2d (show w < 2 ^ 53 from Nat.lt_trans hw (by decide))) (dv_tenf b hb) h10
  have up : rr w (10 ^ b) 0 ≤ 10 ^ 15 * 2 ^ 1074 := by
    have h1 : rr (10 ^ 15) 1 0 = 10 ^ 15 * 2 ^ 1074 := rr_sized (by decide) (by decide) (by
      rw [show ((0 : Int) + 1074).toNat = 1074 by decide, show (-((0 : Int) + 1074)).toNat = 0 by decide, Nat.pow_zero, Nat.mul_one])
    rw [← h1]
    refine rr_mono h10 (by decide) ?_
    rw [Nat.mul_one]
    have : 10 ^ 15 * 1 ≤ 10 ^ 15 * 10 ^ b := Nat.mul_le_mul_left _ h10
    omega
  have big : (10 : Nat) ^ 15 * 2 ^ 1074 ≤ 2 ^ 1124 := by
    have : (2 : Nat) ^ 1124 = 2 ^ 50 * 2 ^ 1074 := by rw [← Nat.pow_add]
    rw [this]
    exact Nat.mul_le_mul_right _ (by decide)
  have lt : rr w (10 ^ b) 0 < 2 ^ 53 * 2 ^ 2045 := by
    refine Nat.lt_of_le_of_lt (Nat.le_trans up big) ?_
    rw [← Nat.pow_add]
    exact Nat.pow_lt_pow_right (by decide) (by decide)
  refine ⟨rr w (10 ^ b) 0, dv_of_rr hv lt, ?_, ?_, Nat.le_trans up big⟩
  · intro h; rw [h]; exact rr_zero _ _
  · intro h
    have h1 : rr 1 (2 ^ 50) 0 = 2 ^ 1024 := by
      have e1 : rr 1 (2 ^ 50) 0 = rr 1 1 (-50) := rr_congr (by decide) (by decide) (by decide)
      rw [e1]
      have := rr_sized (C := 1) (c := 1) (k := 1024) (Q := -50) (by decide) (by decide) (by
        rw [show ((-50 : Int) + 1074).toNat = 1024 by decide, show (-((-50 : Int) + 1074)).toNat = 0 by decide, Nat.pow_zero, Nat.mul_one])
      rw [this, Nat.one_mul]
    rw [← h1]
    refine rr_mono (by decide) h10 ?_
    have h2 : 10 ^ b ≤ 10 ^ 15 := Nat.pow_le_pow_right (by decide) hb
    have h3 : 1 * 2 ^ 50 ≤ w * 2 ^ 50 := Nat.mul_le_mul_right _ h
    have h4 : (10 : Nat) ^ 15 ≤ 2 ^ 50 := by decide
    omega
theorem or_bits {r : UInt64} {A : Nat} {e : Int} (h : Jvm.FP.Core.val64 r = Jvm.FP.Core.roundRatio Jvm.FP.Core.b64 false A 1 e) : (∃ v, Dv r false v ∧ bitsOr false (Jvm.FP.Core.roundRatio Jvm.FP.Core.b64 false A 1 e) = r.toInt64) ∨ (Jvm.FP.Core.val64 r = .inf false ∧ bitsOr false (Jvm.FP.Core.roundRatio Jvm.FP.Core.b64 false A 1 e) = 9223372036854775807) := by
  have hf := Jvm.FP.Core.roundRatio_fits Jvm.FP.Core.good_b64 false A (B := 1) (by decide) e
  rcases Jvm.FP.Core.roundRatio_cases Jvm.FP.Core.b64 false A 1 e with ⟨c, q, hc⟩ | hi
  · rw [hc] at h hf ⊢
    have d1 := bitsOr_dv (s := false) hf
    have d2 : Dv r false (Jvm.FP.Core.inUnits c q (-1074)) := ⟨c, q, h, rfl⟩
    left
    refine ⟨_, d2, ?_⟩
    have := d1.inj d2
    rw [← this]; simp
  · rw [hi] at h ⊢
    right
    exact ⟨h, rfl⟩
/-- scaled by two powers of two, the first product being exact, against made -/
theorem lit_scaled {n : Nat} {g g2 : Gs} {x : UInt64} {X : Nat} {p : Int32} {U : Int} (hn : 65 ≤ n) (hTb : Tb g2) (hx : Dv x false X) (h0 : X = 0 ∨ 2 ^ 1024 ≤ X) (hX : X ≤ 2 ^ 1124) (hp : p.toInt = U) (h1 : -1100 ≤ U) (h2 : U ≤ 1100) : ∃ r bits gb, f_X6_scaled g2 x p = some r ∧ (∃ c e, f_X12_open g x.toInt64 7 = some gb ∧ gL gb 1 = lN c ∧ gI gb 2 = e ∧ f_X12_made n 0 (lN c) (e + p) 7 = some bits) ∧ Sc g gb ∧ ((∃ v, Dv r false v ∧ bits = r.toInt64) ∨ (Jvm.FP.Core.val64 r = .inf false ∧ bits = 9223372036854775807)) := by
  have hx' : Dv x.toInt64.toUInt64 false X := by simpa using hx
  obtain ⟨gb, c, k, e, o1, o2, o3, o4, o5, o6, o7, o8, o9, o10⟩ := f_open (g := g) hx'
  -- a decomposition with a middle exponent
  obtain ⟨k', hk1, hk2, hk3⟩ : ∃ k', X = c * 2 ^ k' ∧ (972 ≤ k' ∧ k' ≤ 1124) ∧ (c = 0 ∨ k' = k) := by
    rcases h0 with h0 | h0
    · have hc : c = 0 := by
        rw [h0] at o7
        rcases Nat.mul_eq_zero.mp o7.symm with h | h
        · exact h
        · exact absurd h (by have := Nat.two_pow_pos k; omega)
      exact ⟨1000, by rw [h0, hc, Nat.zero_mul], by decide, .inl hc⟩
    · refine ⟨k, o7, ⟨?_, ?_⟩, .inr rfl⟩
      · refine Classical.byContradiction fun hlt => ?_
        have a1 : c * 2 ^ k < 2 ^ 53 * 2 ^ k := Nat.mul_lt_mul_of_pos_right o8 (Nat.two_pow_pos k)
        have a2 : 2 ^ 53 * 2 ^ k ≤ 2 ^ 53 * 2 ^ 971 := Nat.mul_le_mul_left _ (Nat.pow_le_pow_right (by decide) (by omega))
        have a3 : (2 : Nat) ^ 53 * 2 ^ 971 = 2 ^ 1024 := by rw [← Nat.pow_add]
        rw [o7] at h0
        rw [a3] at a2
        exact absurd (Nat.lt_of_le_of_lt h0 (Nat.lt_of_lt_of_le a1 a2)) (Nat.lt_irrefl _)
      · refine Classical.byContradiction fun hlt => ?_
        have hc : 1 ≤ c := by
          refine Nat.pos_of_ne_zero fun z => ?_
          rw [z, Nat.zero_mul] at o7
          rw [o7] at h0
          exact absurd h0 (Nat.not_le.mpr (Nat.two_pow_pos _))
        have a1 : 1 * 2 ^ 1125 ≤ c * 2 ^ k := Nat.mul_le_mul hc (Nat.pow_le_pow_right (by decide) (by omega))
        have a2 : (2 : Nat) ^ 1124 < 1 * 2 ^ 1125 := by rw [Nat.one_mul]; exact Nat.pow_lt_pow_right (by decide) (by decide)
        rw [o7] at hX
        exact absurd (Nat.lt_of_lt_of_le a2 (Nat.le_trans a1 hX)) (Nat.lt_irrefl _)
  obtain ⟨i, j, hi, hj, i1, j1, hf⟩ := f_scaled_two (g := g2) (x := x) hp (by omega) (by omega)
  have hb : -550 ≤ U.tdiv 2 ∧ U.tdiv 2 ≤ 550 := by
    rcases Int.le_total 0 U with h | h
    · rw [Int.tdiv_eq_ediv_of_nonneg h]; omega
    · have : U.tdiv 2 = -((-U).tdiv 2) := by rw [Int.neg_tdiv, Int.neg_neg]
      rw [this, Int.tdiv_eq_ediv_of_nonneg (by omega)]; omega
  rw [hk1] at hx
  have d1 := dv_two hTb (l := k' + i - 1074) hx o8 i1 (by omega) (by omega)
  have hv := val_prod d1 (hTb j j1)
  have hm := f_made (n := n) (M := c) (x0 := 0) (e := e + p) (E := (k : Int) - 1074 + U) hn (by omega) (by
    rw [i32_add (by rw [o6, hp]; omega) (by rw [o6, hp]; omega), o6, hp]) (by omega) (by omega)
  have hcong : Jvm.FP.Core.roundRatio Jvm.FP.Core.b64 false (c * 2 ^ (k' + i - 1074) * 2 ^ j) 1 (-2148) = Jvm.FP.Core.roundRatio Jvm.FP.Core.b64 false c 1 ((k : Int) - 1074 + U) := by
    refine Jvm.FP.Core.roundRatio_congr (by decide) (by decide) ?_
    rcases hk3 with hk3 | hk3
    · rw [hk3]; simp
    · subst hk3
      rw [Nat.mul_one, Nat.mul_one, Nat.mul_assoc, Nat.mul_assoc, ← Nat.pow_add, ← Nat.pow_add]
      congr 2
      omega
  rw [hcong] at hv
  have nn : Jvm.FP.Core.val64 (FP.dmul (FP.dmul x (gDA g2 0 i)) (gDA g2 0 j)) ≠ .nan := by
    rw [hv]
    rcases Jvm.FP.Core.roundRatio_cases Jvm.FP.Core.b64 false c 1 ((k : Int) - 1074 + U) with ⟨c, q, hc⟩ | hi
    · rw [hc]; intro z; cases z
    · rw [hi]; intro z; cases z
  refine ⟨_, _, gb, ?_, ⟨c, e, o1, o4, o5, hm⟩, o2, or_bits hv⟩
  rw [hf, grd_t d1.n64, grd_t (n64_of nn)]
