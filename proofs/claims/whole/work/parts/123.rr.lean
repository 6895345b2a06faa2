/-! rounding grows with what is rounded -/
theorem nearest_mono {A B A' B' : Nat} (hB : 0 < B) (hB' : 0 < B') (h : A * B' ≤ A' * B) : Jvm.FP.Core.nearest A B ≤ Jvm.FP.Core.nearest A' B' := by
  obtain ⟨a1, a2, -⟩ := Jvm.FP.Core.nearest_spec A B hB
  obtain ⟨b1, b2, -⟩ := Jvm.FP.Core.nearest_spec A' B' hB'
  rcases Nat.lt_or_ge (Jvm.FP.Core.nearest A' B') (Jvm.FP.Core.nearest A B) with hlt | hge
  · have e : A * B' = A' * B := by
      generalize Jvm.FP.Core.nearest A B = N at *
      generalize Jvm.FP.Core.nearest A' B' = N' at *
      obtain ⟨k, rfl⟩ : ∃ k, N = N' + 1 + k := ⟨N - N' - 1, by omega⟩
      -- (2N - 1) B B' <= 2 A B' <= 2 A' B <= (2N' + 1) B B'
      have c1 : (2 * (N' + 1 + k)) * B * B' ≤ (2 * A + B) * B' := Nat.mul_le_mul_right _ a2
      have c2 : 2 * A' * B ≤ (2 * N' + 1) * B' * B := Nat.mul_le_mul_right _ b1
      have c3 : (2 * (N' + 1 + k)) * B * B' = (2 * N' + 1) * B' * B + B * B' + 2 * k * (B * B') := by
        rw [show 2 * (N' + 1 + k) = (2 * N' + 1) + 1 + 2 * k by omega, Nat.add_mul, Nat.add_mul, Nat.add_mul, Nat.add_mul, Nat.one_mul]
        rw [Nat.mul_assoc (2 * N' + 1), Nat.mul_assoc (2 * N' + 1), Nat.mul_comm B' B, Nat.mul_assoc (2 * k)]
      have c4 : (2 * A + B) * B' = 2 * (A * B') + B * B' := by rw [Nat.add_mul, Nat.mul_assoc]
      have c5 : 2 * A' * B = 2 * (A' * B) := Nat.mul_assoc _ _ _
      rw [c3, c4] at c1
      rw [c5] at c2
      generalize A * B' = X at *
      generalize A' * B = Y at *
      generalize (2 * N' + 1) * B' * B = Z at *
      generalize 2 * k * (B * B') = V at *
      omega
    rw [Jvm.FP.Core.nearest_congr hB hB' e]
    exact Nat.le_refl _
  · exact hge
def rr (A B : Nat) (e : Int) : Nat := Jvm.FP.Core.zmag Jvm.FP.Core.b64 (Jvm.FP.Core.roundRatio Jvm.FP.Core.b64 false A B e)
def topU : Nat := Jvm.FP.Core.b64.tails * 2 ^ (Jvm.FP.Core.b64.exps - 2)
theorem settle_zmag {c : Nat} {k : Nat} (hc : c ≤ 2 ^ 53) (hn : k = 0 ∨ 2 ^ 52 ≤ c) : Jvm.FP.Core.zmag Jvm.FP.Core.b64 (Jvm.FP.Core.settle Jvm.FP.Core.b64 false c ((k : Int) - 1074)) = min (c * 2 ^ k) (2 ^ 53 * 2 ^ 2045) := by
  have hp : Jvm.FP.Core.b64.p = 53 := rfl
  have hq : Jvm.FP.Core.b64.qmax = 971 := by decide
  have ht : Jvm.FP.Core.b64.tails = 2 ^ 52 := by decide
  have he : Jvm.FP.Core.b64.exps - 2 = 2046 := by decide
  have top : (2 : Nat) ^ 52 * 2 ^ 2046 = 2 ^ 53 * 2 ^ 2045 := by rw [← Nat.pow_add, ← Nat.pow_add]
  unfold Jvm.FP.Core.settle Jvm.FP.Core.bound
  rw [hp, hq, ht]
  by_cases h1 : c < 2 ^ 53
  · rw [if_pos h1]
    by_cases h2 : (k : Int) - 1074 ≤ 971
    · rw [if_pos h2]
      show Jvm.FP.Core.inUnits c ((k : Int) - 1074) Jvm.FP.Core.b64.qmin = _
      rw [dv_qmin]
      unfold Jvm.FP.Core.inUnits
      rw [show ((k : Int) - 1074 - -1074).toNat = k by omega]
      refine (Nat.min_eq_left ?_).symm
      exact Nat.mul_le_mul (by omega) (Nat.pow_le_pow_right (by decide) (by omega))
    · rw [if_neg h2]
      show Jvm.FP.Core.b64.tails * 2 ^ (Jvm.FP.Core.b64.exps - 2) = _
      rw [ht, he, top]
      refine (Nat.min_eq_right ?_).symm
      rw [← top]
      exact Nat.mul_le_mul (by omega) (Nat.pow_le_pow_right (by decide) (by omega))
  · have hc' : c = 2 ^ 53 := by omega
    rw [if_neg h1]
    by_cases h2 : (k : Int) - 1074 + 1 ≤ 971
    · rw [if_pos h2]
      show Jvm.FP.Core.inUnits (2 ^ 52) ((k : Int) - 1074 + 1) Jvm.FP.Core.b64.qmin = _
      rw [dv_qmin, hc']
      unfold Jvm.FP.Core.inUnits
      rw [show ((k : Int) - 1074 + 1 - -1074).toNat = k + 1 by omega]
      have e : (2 : Nat) ^ 52 * 2 ^ (k + 1) = 2 ^ 53 * 2 ^ k := by rw [← Nat.pow_add, ← Nat.pow_add, show 52 + (k + 1) = 53 + k by omega]
      rw [e]
      refine (Nat.min_eq_left ?_).symm
      exact Nat.mul_le_mul_left _ (Nat.pow_le_pow_right (by decide) (by omega))
    · rw [if_neg h2]
      show Jvm.FP.Core.b64.tails * 2 ^ (Jvm.FP.Core.b64.exps - 2) = _
      rw [ht, he, top, hc']
      refine (Nat.min_eq_right ?_).symm
      exact Nat.mul_le_mul_left _ (Nat.pow_le_pow_right (by decide) (by omega))
/-- a rounded ratio: its digits, its shift -/
theorem rr_shape {A B : Nat} {e : Int} (hA : 0 < A) (hB : 0 < B) : ∃ (c k : Nat), rr A B e = min (c * 2 ^ k) (2 ^ 53 * 2 ^ 2045) ∧ c = Jvm.FP.Core.nearest (Jvm.FP.Core.unitsNum A e ((k : Int) - 1074)) (Jvm.FP.Core.unitsDen B e ((k : Int) - 1074)) ∧ c ≤ 2 ^ 53 ∧ (k = 0 ∨ 2 ^ 52 ≤ c) ∧ Jvm.FP.Core.Below A B ((k : Int) - 1074 - e + 53) ∧ (k = 0 ∨ ¬ Jvm.FP.Core.Below A B ((k : Int) - 1074 - e + 52)) := by
  have hge := Jvm.FP.Core.quantum_ge Jvm.FP.Core.b64 A B e
  have hbl := Jvm.FP.Core.quantum_below (f := Jvm.FP.Core.b64) hA hB e
  have hnb := Jvm.FP.Core.quantum_not_below (f := Jvm.FP.Core.b64) hA hB e
  have hup := Jvm.FP.Core.nearest_units_le (f := Jvm.FP.Core.b64) hA hB e
  have hrr : rr A B e = Jvm.FP.Core.zmag Jvm.FP.Core.b64 (Jvm.FP.Core.settle Jvm.FP.Core.b64 false (Jvm.FP.Core.nearest (Jvm.FP.Core.unitsNum A e (Jvm.FP.Core.quantum Jvm.FP.Core.b64 A B e)) (Jvm.FP.Core.unitsDen B e (Jvm.FP.Core.quantum Jvm.FP.Core.b64 A B e))) (Jvm.FP.Core.quantum Jvm.FP.Core.b64 A B e)) := by
    unfold rr Jvm.FP.Core.roundRatio Jvm.FP.Core.roundAt
    rw [if_neg (by omega)]
  rw [hrr]
  rw [dv_qmin] at hge hnb
  have hp : ((Jvm.FP.Core.b64.p : Nat) : Int) = 53 := rfl
  have hp' : Jvm.FP.Core.b64.p = 53 := rfl
  rw [hp] at hbl hnb
  rw [hp'] at hup
  generalize Jvm.FP.Core.quantum Jvm.FP.Core.b64 A B e = Q at *
  obtain ⟨k, rfl⟩ : ∃ k : Nat, Q = (k : Int) - 1074 := ⟨(Q + 1074).toNat, by omega⟩
  have hnb' : k = 0 ∨ ¬ Jvm.FP.Core.Below A B ((k : Int) - 1074 - e + 52) := by
    rcases hnb with h | h
    · exact .inl (by omega)
    · exact .inr (by rw [show (53 : Int) - 1 = 52 from rfl] at h; exact h)
  have hlow : k = 0 ∨ 2 ^ 52 ≤ Jvm.FP.Core.nearest (Jvm.FP.Core.unitsNum A e ((k : Int) - 1074)) (Jvm.FP.Core.unitsDen B e ((k : Int) - 1074)) := by
    rcases hnb' with h | h
    · exact .inl h
    · refine .inr (Jvm.FP.Core.nearest_ge (Jvm.FP.Core.unitsDen_pos hB _ _) ?_)
      refine Nat.not_lt.mp (fun z => h ?_)
      exact (Jvm.FP.Core.units_below A B e ((k : Int) - 1074) 52).mp z
  exact ⟨_, k, settle_zmag hup hlow, rfl, hup, hlow, hbl, hnb'⟩
theorem below_le {A B A' B' : Nat} {a : Int} (hB : 0 < B) (h : A * B' ≤ A' * B) (hb : Jvm.FP.Core.Below A' B' a) : Jvm.FP.Core.Below A B a := by
  unfold Jvm.FP.Core.Below at hb ⊢
  rcases Nat.lt_or_ge (A * 2 ^ (-a).toNat) (B * 2 ^ a.toNat) with h1 | h1
  · exact h1
  · exfalso
    have c1 : A' * 2 ^ (-a).toNat * B < B' * 2 ^ a.toNat * B := Nat.mul_lt_mul_of_pos_right hb hB
    have c2 : B * 2 ^ a.toNat * B' ≤ A * 2 ^ (-a).toNat * B' := Nat.mul_le_mul_right _ h1
    have c3 : A * B' * 2 ^ (-a).toNat ≤ A' * B * 2 ^ (-a).toNat := Nat.mul_le_mul_right _ h
    have e1 : A' * 2 ^ (-a).toNat * B = A' * B * 2 ^ (-a).toNat := by ac_rfl
    have e2 : A * 2 ^ (-a).toNat * B' = A * B' * 2 ^ (-a).toNat := by ac_rfl
    have e3 : B' * 2 ^ a.toNat * B = B * 2 ^ a.toNat * B' := by ac_rfl
    omega
theorem rr_zero (B : Nat) (e : Int) : rr 0 B e = 0 := by
  unfold rr Jvm.FP.Core.roundRatio
  rw [if_pos rfl]
  show Jvm.FP.Core.inUnits 0 _ _ = 0
  unfold Jvm.FP.Core.inUnits
  rw [Nat.zero_mul]
theorem rr_mono {A B A' B' : Nat} {e : Int} (hB : 0 < B) (hB' : 0 < B') (h : A * B' ≤ A' * B) : rr A B e ≤ rr A' B' e := by
  rcases Nat.eq_zero_or_pos A with h0 | hA
  · rw [h0, rr_zero]; exact Nat.zero_le _
  · have hA' : 0 < A' := by
      rcases Nat.eq_zero_or_pos A' with h1 | h1
      · rw [h1, Nat.zero_mul] at h
        have := Nat.mul_pos hA hB'
        omega
      · exact h1
    obtain ⟨c, k, r1, r2, r3, r4, r5, r6⟩ := rr_shape (e := e) hA hB
    obtain ⟨c', k', s1, s2, s3, s4, s5, s6⟩ := rr_shape (e := e) hA' hB'
    rw [r1, s1]
    have key : c * 2 ^ k ≤ c' * 2 ^ k' := by
      rcases Nat.lt_trichotomy k k' with hk | hk | hk
      · have h52 : 2 ^ 52 ≤ c' := by omega
        have e1 : 2 ^ k' = 2 ^ (k' - k) * 2 ^ k := by rw [← Nat.pow_add]; congr 1; omega
        have e2 : 2 ≤ 2 ^ (k' - k) := by
          have := Nat.pow_le_pow_right (n := 2) (by decide) (show 1 ≤ k' - k by omega)
          simpa using this
        rw [e1, ← Nat.mul_assoc]
        refine Nat.mul_le_mul_right _ ?_
        have := Nat.mul_le_mul h52 e2
        omega
      · subst hk
        refine Nat.mul_le_mul_right _ ?_
        rw [r2, s2]
        refine nearest_mono (Jvm.FP.Core.unitsDen_pos hB _ _) (Jvm.FP.Core.unitsDen_pos hB' _ _) ?_
        unfold Jvm.FP.Core.unitsNum Jvm.FP.Core.unitsDen
        have := Nat.mul_le_mul_right (2 ^ (e - ((k : Int) - 1074)).toNat * 2 ^ ((k : Int) - 1074 - e).toNat) h
        have e1 : A * 2 ^ (e - ((k : Int) - 1074)).toNat * (B' * 2 ^ ((k : Int) - 1074 - e).toNat) = A * B' * (2 ^ (e - ((k : Int) - 1074)).toNat * 2 ^ ((k : Int) - 1074 - e).toNat) := by ac_rfl
        have e2 : A' * 2 ^ (e - ((k : Int) - 1074)).toNat * (B * 2 ^ ((k : Int) - 1074 - e).toNat) = A' * B * (2 ^ (e - ((k : Int) - 1074)).toNat * 2 ^ ((k : Int) - 1074 - e).toNat) := by ac_rfl
        rw [e1, e2]
        exact this
      · exfalso
        rcases r6 with h6 | h6
        · omega
        · exact h6 (Jvm.FP.Core.below_mono (by omega) (below_le hB h s5))
    generalize c * 2 ^ k = X at *
    generalize c' * 2 ^ k' = Y at *
    generalize (2 : Nat) ^ 53 * 2 ^ 2045 = T at *
    omega
