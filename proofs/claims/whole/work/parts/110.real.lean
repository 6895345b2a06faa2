/-! the class's reals: signs and sizes -/
theorem jv_c0 : Jvm.FP.Core.val64 FP.dconst0 = .fin false 0 Jvm.FP.Core.b64.qmin := Jvm.FP.Core.val64_dconst0
theorem jv_c1 : Jvm.FP.Core.val64 FP.dconst1 = .fin false (2 ^ 52) (-52) := Jvm.FP.Core.val64_dconst1
theorem dv_sub0 {x : UInt64} {s : Bool} {u : Nat} (h : Dv x s u) (hs : s = true ∨ u = 0) : Dv (FP.dsub FP.dconst0 x) false u := by
  by_cases h0 : u = 0
  · subst h0
    cases s with
    | true =>
      have e : x = Jvm.FP.Core.dzeroNeg := h.inj ⟨0, -1074, by rw [← dv_qmin]; exact Jvm.FP.Core.val64_dzeroNeg, by unfold Jvm.FP.Core.inUnits; rw [Nat.zero_mul]⟩
      rw [e, show FP.dsub FP.dconst0 Jvm.FP.Core.dzeroNeg = FP.dconst0 by decide +kernel]
      exact dv_zero
    | false =>
      have e : x = FP.dconst0 := h.inj dv_zero
      rw [e, show FP.dsub FP.dconst0 FP.dconst0 = FP.dconst0 by decide +kernel]
      exact dv_zero
  · have hs' : s = true := by
      rcases hs with h | h
      · exact h
      · exact absurd h h0
    subst hs'
    have hfit := Jvm.FP.Core.val64_fits x
    obtain ⟨c, q, h1, h2⟩ := h
    have hc : c ≠ 0 := fun z => h0 (by rw [← h2, z]; unfold Jvm.FP.Core.inUnits; rw [Nat.zero_mul])
    refine ⟨c, q, ?_, h2⟩
    have e := Jvm.FP.Core.val64_dsub FP.dconst0 x
    rw [h1] at hfit
    rw [h1, jv_c0, Jvm.FP.Core.exactSum_comm] at e
    have e2 := Jvm.FP.Core.round_sum_zero Jvm.FP.Core.good_b64 (d := Jvm.FP.Core.negate (.fin true c q)) (Jvm.FP.Core.negate_fits hfit) false (by
      intro s' q' hd
      injection hd with a1 a2 a3
      exact absurd a2 hc)
    rw [e2] at e
    exact e
theorem f_sizeOf {x : UInt64} {s : Bool} {u : Nat} (h : Dv x s u) : ∃ y, f_X6_sizeOf x = some y ∧ Dv y false u := by
  unfold f_X6_sizeOf
  by_cases c : 0 < Op.cmpValue (FP.dcmp x FP.dconst0) .g
  · rw [if_pos c]
    refine ⟨x, rfl, ?_⟩
    rw [cv_gt h.dz dv_zero.dz] at c
    cases s with
    | true => rw [sg_t, sg_f] at c; omega
    | false => exact h
  · rw [if_neg c]
    rw [cv_gt h.dz dv_zero.dz] at c
    have hd := dv_sub0 h (by
      cases s with
      | true => exact .inl rfl
      | false => rw [sg_f, sg_f] at c; exact .inr (by omega))
    exact ⟨_, grd_t hd.n64, hd⟩
theorem dz_inv0 {x : UInt64} {s : Bool} (h : Dv x s 0) : ∃ m : Nat, 0 < m ∧ Dz (FP.ddiv FP.dconst1 x) (Jvm.FP.Core.signed s m) := by
  obtain ⟨c, q, h1, h2⟩ := h
  have hc : c = 0 := by
    unfold Jvm.FP.Core.inUnits at h2
    rcases Nat.mul_eq_zero.mp h2 with h | h
    · exact h
    · exact absurd h (Nat.ne_of_gt (Nat.two_pow_pos _))
  subst hc
  have e := Jvm.FP.Core.val64_ddiv FP.dconst1 x
  rw [h1, jv_c1] at e
  have e2 : Jvm.FP.Core.val64 (FP.ddiv FP.dconst1 x) = .inf s := by
    have : Jvm.FP.Core.quotient Jvm.FP.Core.b64 (.fin false (2 ^ 52) (-52)) (.fin s 0 q) = .inf s := by
      unfold Jvm.FP.Core.quotient
      dsimp only
      rw [if_pos rfl, if_neg (by decide)]
      cases s <;> rfl
    exact e.trans this
  refine ⟨Jvm.FP.Core.b64.tails * 2 ^ (Jvm.FP.Core.b64.exps - 2), Nat.mul_pos (Jvm.FP.Core.tails_pos _) (Nat.two_pow_pos _), ?_, ?_⟩
  · rw [e2]; intro z; cases z
  · rw [e2]; rfl
theorem f_isNegative {x : UInt64} {s : Bool} {u : Nat} (h : Dv x s u) : f_X6_isNegative x = some (sgB s) := by
  unfold f_X6_isNegative
  by_cases c : Op.cmpValue (FP.dcmp x FP.dconst0) .g < 0
  · rw [if_pos c]
    rw [cv_lt h.dz dv_zero.dz] at c
    cases s with
    | true => rfl
    | false => rw [sg_f, sg_f] at c; omega
  · rw [if_neg c]
    rw [cv_lt h.dz dv_zero.dz] at c
    by_cases c2 : Op.cmpValue (FP.dcmp x FP.dconst0) .l = 0
    · rw [if_pos c2]
      rw [cv_eq h.dz dv_zero.dz] at c2
      have hu : u = 0 := by
        cases s with
        | true => rw [sg_t, sg_f] at c2; omega
        | false => rw [sg_f, sg_f] at c2; omega
      subst hu
      obtain ⟨m, m1, m2⟩ := dz_inv0 h
      rw [grd_t m2.n64]
      cases s with
      | true =>
        rw [if_neg]
        · rfl
        · rw [cv_ge m2 dv_zero.dz, sg_t, sg_f]; omega
      | false =>
        rw [if_pos]
        · rfl
        · rw [cv_ge m2 dv_zero.dz, sg_f, sg_f]; omega
    · rw [if_neg c2]
      rw [cv_eq h.dz dv_zero.dz] at c2
      cases s with
      | true => rw [sg_t, sg_f] at c c2; omega
      | false => rfl
/-! the table of powers -/
def Tb (g : Gs) : Prop := ∀ k, k < 2098 → Dv (gDA g 0 k) false (2 ^ k)
theorem half_i32 {p : Int32} {P : Int} (hp : p.toInt = P) (h1 : -3000 ≤ P) (h2 : P ≤ 3000) : ((p / (2 : Int32)) - (-1074 : Int32)).toInt = P.tdiv 2 + 1074 ∧ ((p - (p / (2 : Int32))) - (-1074 : Int32)).toInt = P - P.tdiv 2 + 1074 := by
  have t2 : (2 : Int32).toInt = 2 := by decide
  have tl : (-1074 : Int32).toInt = -1074 := by decide
  have hb : -3000 ≤ P.tdiv 2 ∧ P.tdiv 2 ≤ 3000 := by
    rcases Int.le_total 0 P with h | h
    · rw [Int.tdiv_eq_ediv_of_nonneg h]; omega
    · have : P.tdiv 2 = -((-P).tdiv 2) := by rw [Int.neg_tdiv, Int.neg_neg]
      rw [this, Int.tdiv_eq_ediv_of_nonneg (by omega)]; omega
  have e1 : (p / (2 : Int32)).toInt = P.tdiv 2 := by
    rw [Int32.toInt_div, hp, t2]
    exact Int.bmod_eq_of_le (by omega) (by omega)
  have e2 : (p - (p / (2 : Int32))).toInt = P - P.tdiv 2 := by
    rw [i32_sub (by rw [hp, e1]; omega) (by rw [hp, e1]; omega), hp, e1]
  constructor
  · rw [i32_sub (by rw [e1, tl]; omega) (by rw [e1, tl]; omega), e1, tl]; omega
  · rw [i32_sub (by rw [e2, tl]; omega) (by rw [e2, tl]; omega), e2, tl]; omega
/-- scaled is two products, where the powers are in the table -/
theorem f_scaled_two {g : Gs} {x : UInt64} {p : Int32} {P : Int} (hp : p.toInt = P) (h1 : -2146 ≤ P) (h2 : P ≤ 2046) : ∃ i j : Nat, (i : Int) = P.tdiv 2 + 1074 ∧ (j : Int) = P - P.tdiv 2 + 1074 ∧ i < 2098 ∧ j < 2098 ∧ f_X6_scaled g x p = grd (n64 (FP.dmul x (gDA g 0 i))) (grd (n64 (FP.dmul (FP.dmul x (gDA g 0 i)) (gDA g 0 j))) (some (FP.dmul (FP.dmul x (gDA g 0 i)) (gDA g 0 j)))) := by
  obtain ⟨a1, a2⟩ := half_i32 hp (by omega) (by omega)
  have hb : -1073 ≤ P.tdiv 2 ∧ P.tdiv 2 ≤ 1023 ∧ -1073 ≤ P - P.tdiv 2 ∧ P - P.tdiv 2 ≤ 1023 := by
    rcases Int.le_total 0 P with h | h
    · rw [Int.tdiv_eq_ediv_of_nonneg h]; omega
    · have : P.tdiv 2 = -((-P).tdiv 2) := by rw [Int.neg_tdiv, Int.neg_neg]
      rw [this, Int.tdiv_eq_ediv_of_nonneg (by omega)]; omega
  obtain ⟨i, hi⟩ : ∃ i : Nat, (i : Int) = P.tdiv 2 + 1074 := ⟨(P.tdiv 2 + 1074).toNat, by omega⟩
  obtain ⟨j, hj⟩ : ∃ j : Nat, (j : Int) = P - P.tdiv 2 + 1074 := ⟨(P - P.tdiv 2 + 1074).toNat, by omega⟩
  have e1 : (p / (2 : Int32)) - (-1074 : Int32) = nI i := i32_nI (by rw [a1, hi]) (by omega)
  have e2 : (p - (p / (2 : Int32))) - (-1074 : Int32) = nI j := i32_nI (by rw [a2, hj]) (by omega)
  refine ⟨i, j, hi, hj, by omega, by omega, ?_⟩
  have b1 : inB (nI i) 2098 = true := decide_eq_true (nI_in (by omega) (by decide))
  have b2 : inB (nI j) 2098 = true := decide_eq_true (nI_in (by omega) (by decide))
  unfold f_X6_scaled
  rw [e1, e2, if_neg (nI_pos (by omega)), if_neg (nI_pos (by omega)), if_neg (show ¬ (2098 : Int32) ≤ nI i from nI_ge (a := i) (b := 2098) (by omega) (by decide)), if_pos (show nI j < (2098 : Int32) from nI_lt (a := j) (b := 2098) (by omega) (by decide)), grd_t b1, grd_t b2, nI_clamp (by omega), nI_clamp (by omega)]
theorem dv_two {g : Gs} (hT : Tb g) {x : UInt64} {s : Bool} {c k i l : Nat} (hx : Dv x s (c * 2 ^ k)) (hc : c < 2 ^ 53) (hi : i < 2098) (hl : l + 1074 = k + i) (hl2 : l ≤ 2045) : Dv (FP.dmul x (gDA g 0 i)) s (c * 2 ^ l) := by
  have h := dv_mul (c := c) (k := l) hx (hT i hi) hc hl2 (by
    unfold Jvm.FP.Core.one64
    rw [Nat.mul_assoc, ← Nat.pow_add, Nat.mul_assoc, ← Nat.pow_add, hl])
  cases s <;> exact h
/-- scaled where both products are exact -/
theorem f_scaled {g : Gs} (hT : Tb g) {x : UInt64} {s : Bool} {c k l : Nat} {p : Int32} {P : Int} (hp : p.toInt = P) (h1 : -2146 ≤ P) (h2 : P ≤ 2046) (hx : Dv x s (c * 2 ^ k)) (hc : c < 2 ^ 53) (hk : k ≤ 2045) (hl : (l : Int) = k + P) (hl2 : l ≤ 2045) : ∃ r, f_X6_scaled g x p = some r ∧ Dv r s (c * 2 ^ l) := by
  obtain ⟨i, j, hi, hj, i1, j1, hf⟩ := f_scaled_two (g := g) (x := x) hp h1 h2
  have hb : (0 ≤ P ∧ 0 ≤ P.tdiv 2 ∧ P.tdiv 2 ≤ P) ∨ (P ≤ 0 ∧ P ≤ P.tdiv 2 ∧ P.tdiv 2 ≤ 0) := by
    rcases Int.le_total 0 P with h | h
    · rw [Int.tdiv_eq_ediv_of_nonneg h]; omega
    · have : P.tdiv 2 = -((-P).tdiv 2) := by rw [Int.neg_tdiv, Int.neg_neg]
      rw [this, Int.tdiv_eq_ediv_of_nonneg (by omega)]; omega
  obtain ⟨m, hm⟩ : ∃ m : Nat, m + 1074 = k + i := ⟨k + i - 1074, by omega⟩
  have d1 := dv_two hT hx hc i1 hm (by omega)
  have d2 := dv_two hT d1 hc j1 (l := l) (by omega) hl2
  refine ⟨_, ?_, d2⟩
  rw [hf, grd_t d1.n64, grd_t d2.n64]
