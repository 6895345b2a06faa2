/-! rounding to FLOAT grows with what is rounded -/
def rr3 (A B : Nat) (e : Int) : Nat := Jvm.FP.Core.zmag Jvm.FP.Core.b32 (Jvm.FP.Core.roundRatio Jvm.FP.Core.b32 false A B e)
theorem settle_zmag3 {c : Nat} {k : Nat} (hc : c ≤ 2 ^ 24) (hn : k = 0 ∨ 2 ^ 23 ≤ c) : Jvm.FP.Core.zmag Jvm.FP.Core.b32 (Jvm.FP.Core.settle Jvm.FP.Core.b32 false c ((k : Int) - 149)) = min (c * 2 ^ k) (2 ^ 24 * 2 ^ 253) := by
  have hp : Jvm.FP.Core.b32.p = 24 := rfl
  have hq : Jvm.FP.Core.b32.qmax = 104 := by decide
  have ht : Jvm.FP.Core.b32.tails = 2 ^ 23 := by decide
  have he : Jvm.FP.Core.b32.exps - 2 = 254 := by decide
  have top : (2 : Nat) ^ 23 * 2 ^ 254 = 2 ^ 24 * 2 ^ 253 := by rw [← Nat.pow_add]
  unfold Jvm.FP.Core.settle Jvm.FP.Core.bound
  rw [hp, hq, ht]
  by_cases h1 : c < 2 ^ 24
  · rw [if_pos h1]
    by_cases h2 : (k : Int) - 149 ≤ 104
    · rw [if_pos h2]
      show Jvm.FP.Core.inUnits c ((k : Int) - 149) Jvm.FP.Core.b32.qmin = _
      rw [q32]
      unfold Jvm.FP.Core.inUnits
      rw [show ((k : Int) - 149 - -149).toNat = k by omega]
      refine (Nat.min_eq_left ?_).symm
      exact Nat.mul_le_mul (by omega) (Nat.pow_le_pow_right (by decide) (by omega))
    · rw [if_neg h2]
      show Jvm.FP.Core.b32.tails * 2 ^ (Jvm.FP.Core.b32.exps - 2) = _
      rw [ht, he, top]
      refine (Nat.min_eq_right ?_).symm
      rw [← top]
      exact Nat.mul_le_mul (by omega) (Nat.pow_le_pow_right (by decide) (by omega))
  · have hc' : c = 2 ^ 24 := by omega
    rw [if_neg h1]
    by_cases h2 : (k : Int) - 149 + 1 ≤ 104
    · rw [if_pos h2]
      show Jvm.FP.Core.inUnits (2 ^ 23) ((k : Int) - 149 + 1) Jvm.FP.Core.b32.qmin = _
      rw [q32, hc']
      unfold Jvm.FP.Core.inUnits
      rw [show ((k : Int) - 149 + 1 - -149).toNat = k + 1 by omega]
      have e : (2 : Nat) ^ 23 * 2 ^ (k + 1) = 2 ^ 24 * 2 ^ k := by rw [← Nat.pow_add, ← Nat.pow_add, show 23 + (k + 1) = 24 + k by omega]
      rw [e]
      refine (Nat.min_eq_left ?_).symm
      exact Nat.mul_le_mul_left _ (Nat.pow_le_pow_right (by decide) (by omega))
    · rw [if_neg h2]
      show Jvm.FP.Core.b32.tails * 2 ^ (Jvm.FP.Core.b32.exps - 2) = _
      rw [ht, he, top, hc']
      refine (Nat.min_eq_right ?_).symm
      exact Nat.mul_le_mul_left _ (Nat.pow_le_pow_right (by decide) (by omega))
/-- a rounded ratio: its digits, its shift -/
theorem rr3_shape {A B : Nat} {e : Int} (hA : 0 < A) (hB : 0 < B) : ∃ (c k : Nat), rr3 A B e = min (c * 2 ^ k) (2 ^ 24 * 2 ^ 253) ∧ c = Jvm.FP.Core.nearest (Jvm.FP.Core.unitsNum A e ((k : Int) - 149)) (Jvm.FP.Core.unitsDen B e ((k : Int) - 149)) ∧ c ≤ 2 ^ 24 ∧ (k = 0 ∨ 2 ^ 23 ≤ c) ∧ Jvm.FP.Core.Below A B ((k : Int) - 149 - e + 24) ∧ (k = 0 ∨ ¬ Jvm.FP.Core.Below A B ((k : Int) - 149 - e + 23)) := by
  have hge := Jvm.FP.Core.quantum_ge Jvm.FP.Core.b32 A B e
  have hbl := Jvm.FP.Core.quantum_below (f := Jvm.FP.Core.b32) hA hB e
  have hnb := Jvm.FP.Core.quantum_not_below (f := Jvm.FP.Core.b32) hA hB e
  have hup := Jvm.FP.Core.nearest_units_le (f := Jvm.FP.Core.b32) hA hB e
  have hrr : rr3 A B e = Jvm.FP.Core.zmag Jvm.FP.Core.b32 (Jvm.FP.Core.settle Jvm.FP.Core.b32 false (Jvm.FP.Core.nearest (Jvm.FP.Core.unitsNum A e (Jvm.FP.Core.quantum Jvm.FP.Core.b32 A B e)) (Jvm.FP.Core.unitsDen B e (Jvm.FP.Core.quantum Jvm.FP.Core.b32 A B e))) (Jvm.FP.Core.quantum Jvm.FP.Core.b32 A B e)) := by
    unfold rr3 Jvm.FP.Core.roundRatio Jvm.FP.Core.roundAt
    rw [if_neg (by omega)]
  rw [hrr]
  rw [q32] at hge hnb
  have hp : ((Jvm.FP.Core.b32.p : Nat) : Int) = 24 := rfl
  have hp' : Jvm.FP.Core.b32.p = 24 := rfl
  rw [hp] at hbl hnb
  rw [hp'] at hup
  generalize Jvm.FP.Core.quantum Jvm.FP.Core.b32 A B e = Q at *
  obtain ⟨k, rfl⟩ : ∃ k : Nat, Q = (k : Int) - 149 := ⟨(Q + 149).toNat, by omega⟩
  have hnb' : k = 0 ∨ ¬ Jvm.FP.Core.Below A B ((k : Int) - 149 - e + 23) := by
    rcases hnb with h | h
    · exact .inl (by omega)
    · exact .inr (by rw [show (24 : Int) - 1 = 23 from rfl] at h; exact h)
  have hlow : k = 0 ∨ 2 ^ 23 ≤ Jvm.FP.Core.nearest (Jvm.FP.Core.unitsNum A e ((k : Int) - 149)) (Jvm.FP.Core.unitsDen B e ((k : Int) - 149)) := by
    rcases hnb' with h | h
    · exact .inl h
    · refine .inr (Jvm.FP.Core.nearest_ge (Jvm.FP.Core.unitsDen_pos hB _ _) ?_)
      refine Nat.not_lt.mp (fun z => h ?_)
      exact (Jvm.FP.Core.units_below A B e ((k : Int) - 149) 23).mp z
  exact ⟨_, k, settle_zmag3 hup hlow, rfl, hup, hlow, hbl, hnb'⟩
theorem rr3_zero (B : Nat) (e : Int) : rr3 0 B e = 0 := by
  unfold rr3 Jvm.FP.Core.roundRatio
  rw [if_pos rfl]
  show Jvm.FP.Core.inUnits 0 _ _ = 0
  unfold Jvm.FP.Core.inUnits
  rw [Nat.zero_mul]
theorem rr3_mono {A B A' B' : Nat} {e : Int} (hB : 0 < B) (hB' : 0 < B') (h : A * B' ≤ A' * B) : rr3 A B e ≤ rr3 A' B' e := by
  rcases Nat.eq_zero_or_pos A with h0 | hA
  · rw [h0, rr3_zero]; exact Nat.zero_le _
  · have hA' : 0 < A' := by
      rcases Nat.eq_zero_or_pos A' with h1 | h1
      · rw [h1, Nat.zero_mul] at h
        have := Nat.mul_pos hA hB'
        omega
      · exact h1
    obtain ⟨c, k, r1, r2, r3, r4, r5, r6⟩ := rr3_shape (e := e) hA hB
    obtain ⟨c', k', s1, s2, s3, s4, s5, s6⟩ := rr3_shape (e := e) hA' hB'
    rw [r1, s1]
    have key : c * 2 ^ k ≤ c' * 2 ^ k' := by
      rcases Nat.lt_trichotomy k k' with hk | hk | hk
      · have h52 : 2 ^ 23 ≤ c' := by omega
        have e1 : 2 ^ k' = 2 ^ (k' - k) * 2 ^ k := by rw [← Nat.pow_add]; congr 1; omega
        have e2 : 2 ≤ 2 ^ (k' - k) := by
          have := Nat.pow_le_pow_right (n := 2) (by decide) (show 1 ≤ k' - k by omega)
          simpa using this
        rw [e1, ← Nat.mul_assoc]
        refine Nat.mul_le_mul_right _ ?_
        have := Nat.mul_le_mul h52 e2
        omega
      · subst hk
        refine Nat.mul_le_mul_right _ ?_
        rw [r2, s2]
        refine nearest_mono (Jvm.FP.Core.unitsDen_pos hB _ _) (Jvm.FP.Core.unitsDen_pos hB' _ _) ?_
        unfold Jvm.FP.Core.unitsNum Jvm.FP.Core.unitsDen
        have := Nat.mul_le_mul_right (2 ^ (e - ((k : Int) - 149)).toNat * 2 ^ ((k : Int) - 149 - e).toNat) h
        have e1 : A * 2 ^ (e - ((k : Int) - 149)).toNat * (B' * 2 ^ ((k : Int) - 149 - e).toNat) = A * B' * (2 ^ (e - ((k : Int) - 149)).toNat * 2 ^ ((k : Int) - 149 - e).toNat) := by ac_rfl
        have e2 : A' * 2 ^ (e - ((k : Int) - 149)).toNat * (B * 2 ^ ((k : Int) - 149 - e).toNat) = A' * B * (2 ^ (e - ((k : Int) - 149)).toNat * 2 ^ ((k : Int) - 149 - e).toNat) := by ac_rfl
        rw [e1, e2]
        exact this
      · exfalso
        rcases r6 with h6 | h6
        · omega
        · exact h6 (Jvm.FP.Core.below_mono (by omega) (below_le hB h s5))
    generalize c * 2 ^ k = X at *
    generalize c' * 2 ^ k' = Y at *
    generalize (2 : Nat) ^ 24 * 2 ^ 253 = T at *
    omega
/-! rounding twice -/
theorem nearest_eq {N P n : Nat} (hP : 0 < P) (h1 : 2 * N < (2 * n + 1) * P) (h2 : 2 * n * P < 2 * N + P) : Jvm.FP.Core.nearest N P = n := by
  obtain ⟨a1, a2, -⟩ := Jvm.FP.Core.nearest_spec N P hP
  generalize Jvm.FP.Core.nearest N P = m at *
  have c1 : m < n + 1 := by
    have : 2 * m * P < 2 * (n + 1) * P := by
      have e : 2 * (n + 1) * P = (2 * n + 1) * P + P := by rw [← Nat.succ_mul]; rfl
      rw [e]
      generalize (2 * n + 1) * P = Y at *
      generalize 2 * m * P = Z at *
      omega
    have := Nat.lt_of_mul_lt_mul_right this
    omega
  have c2 : n < m + 1 := by
    have : 2 * n * P < 2 * (m + 1) * P := by
      have e : 2 * (m + 1) * P = (2 * m + 1) * P + P := by rw [← Nat.succ_mul]; rfl
      rw [e]
      generalize (2 * m + 1) * P = Y at *
      generalize 2 * n * P = Z at *
      omega
    have := Nat.lt_of_mul_lt_mul_right this
    omega
  omega
theorem dbl_round {A B j : Nat} (hB : 0 < B) (hj : B < 2 ^ j) : Jvm.FP.Core.nearest (Jvm.FP.Core.nearest (A * 2 ^ j) B) (2 ^ j) = Jvm.FP.Core.nearest A B := by
  obtain ⟨a1, a2, -⟩ := Jvm.FP.Core.nearest_spec (A * 2 ^ j) B hB
  obtain ⟨b1, b2, -⟩ := Jvm.FP.Core.nearest_spec A B hB
  have hP : 0 < 2 ^ j := Nat.two_pow_pos j
  have hj1 : 1 ≤ j := by
    rcases Nat.eq_zero_or_pos j with h | h
    · rw [h, Nat.pow_zero] at hj; omega
    · exact h
  obtain ⟨i, rfl⟩ : ∃ i, j = i + 1 := ⟨j - 1, by omega⟩
  -- where it lies in the middle it is met exactly
  have tie : ∀ k, 2 * A = k * B → Jvm.FP.Core.nearest (Jvm.FP.Core.nearest (A * 2 ^ (i + 1)) B) (2 ^ (i + 1)) = Jvm.FP.Core.nearest A B := by
    intro k e
    have e2 : A * 2 ^ (i + 1) = (k * 2 ^ i) * B := by
      rw [Nat.pow_succ, Nat.mul_comm (2 ^ i) 2, ← Nat.mul_assoc, Nat.mul_comm A 2, e]; ac_rfl
    have e3 : Jvm.FP.Core.nearest (A * 2 ^ (i + 1)) B = k * 2 ^ i := by
      rw [e2]; exact Jvm.FP.Core.nearest_exact _ hB
    refine Jvm.FP.Core.nearest_congr hP hB ?_
    rw [e3, ← e2]
  generalize hn : Jvm.FP.Core.nearest A B = n at *
  by_cases t1 : 2 * A = (2 * n + 1) * B
  · exact tie _ t1
  · by_cases t2 : 2 * n * B = 2 * A + B
    · rcases Nat.eq_zero_or_pos n with h0 | h0
      · rw [h0, Nat.mul_zero, Nat.zero_mul] at t2; omega
      · refine tie (2 * n - 1) ?_
        have : 2 * n * B = (2 * n - 1) * B + B := by rw [← Nat.succ_mul]; congr 1; omega
        omega
    · generalize Jvm.FP.Core.nearest (A * 2 ^ (i + 1)) B = N at *
      generalize 2 ^ (i + 1) = P at *
      refine nearest_eq hP ?_ ?_
      · refine Nat.lt_of_mul_lt_mul_right (a := B) ?_
        have m1 : (2 * A + 1) * P ≤ (2 * n + 1) * B * P := Nat.mul_le_mul_right _ (by omega)
        have e1 : (2 * A + 1) * P = 2 * (A * P) + P := by rw [Nat.add_mul, Nat.one_mul, Nat.mul_assoc]
        have e2 : (2 * n + 1) * P * B = (2 * n + 1) * B * P := by ac_rfl
        rw [e1] at m1
        rw [e2]
        generalize (2 * n + 1) * B * P = Y at *
        generalize A * P = Z at *
        generalize 2 * N * B = W at *
        omega
      · refine Nat.lt_of_mul_lt_mul_right (a := B) ?_
        have m1 : (2 * n * B + 1) * P ≤ (2 * A + B) * P := Nat.mul_le_mul_right _ (by omega)
        have e1 : (2 * n * B + 1) * P = 2 * n * P * B + P := by rw [Nat.add_mul, Nat.one_mul]; congr 1; ac_rfl
        have e2 : (2 * A + B) * P = 2 * (A * P) + P * B := by rw [Nat.add_mul, Nat.mul_assoc, Nat.mul_comm B P]
        have e3 : (2 * N + P) * B = 2 * N * B + P * B := Nat.add_mul _ _ _
        have e4 : (2 * N + 1) * B = 2 * N * B + B := by rw [Nat.add_mul, Nat.one_mul]
        rw [e1, e2] at m1
        rw [e3]
        rw [e4] at a1
        generalize 2 * n * P * B = Y at *
        generalize A * P = Z at *
        generalize 2 * N * B = W at *
        generalize P * B = V at *
        omega
