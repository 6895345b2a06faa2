/-! rounding to DOUBLE first changes nothing: quotients -/
theorem rr3_congr {A B A' B' : Nat} {e e' : Int} (hB : 0 < B) (hB' : 0 < B') (h : A * B' * 2 ^ (e - e').toNat = A' * B * 2 ^ (e' - e).toNat) : rr3 A B e = rr3 A' B' e' := by
  unfold rr3
  rw [Jvm.FP.Core.roundRatio_congr hB hB' h]
theorem below_nat {N : Nat} {x : Int} {k : Nat} (hx : x = (k : Int)) : Jvm.FP.Core.Below N 1 x ↔ N < 2 ^ k := by
  unfold Jvm.FP.Core.Below
  rw [hx, show (-(k : Int)).toNat = 0 by omega, show ((k : Int)).toNat = k by omega, Nat.pow_zero, Nat.mul_one, Nat.one_mul]
theorem cross_units {A B : Nat} {e Q64 Q : Int} {j : Nat} (hj : Q = Q64 + (j : Int)) : Jvm.FP.Core.unitsNum A e Q64 * Jvm.FP.Core.unitsDen B e Q = Jvm.FP.Core.unitsNum A e Q * 2 ^ j * Jvm.FP.Core.unitsDen B e Q64 := by
  unfold Jvm.FP.Core.unitsNum Jvm.FP.Core.unitsDen
  have e1 : A * 2 ^ (e - Q64).toNat * (B * 2 ^ (Q - e).toNat) = A * B * 2 ^ ((e - Q64).toNat + (Q - e).toNat) := by rw [Nat.pow_add]; ac_rfl
  have e2 : A * 2 ^ (e - Q).toNat * 2 ^ j * (B * 2 ^ (Q64 - e).toNat) = A * B * 2 ^ ((e - Q).toNat + j + (Q64 - e).toNat) := by rw [Nat.pow_add, Nat.pow_add]; ac_rfl
  rw [e1, e2]
  congr 2
  omega
theorem dr_div {A B : Nat} {e : Int} (hA : 0 < A) (hA2 : A < 2 ^ 24) (hB : 0 < B) (hB2 : B < 2 ^ 24) (he1 : -400 ≤ e) (he2 : e ≤ 400) : rr3 (rr A B e) 1 (-1074) = rr3 A B e ∧ rr A B e < 2 ^ 53 * 2 ^ 2045 := by
  obtain ⟨N1, K, s1, s2, s3, s4, s5, s6⟩ := rr_shape (e := e) hA hB
  obtain ⟨n, k, t1, t2, t3, t4, t5, t6⟩ := rr3_shape (e := e) hA hB
  -- K is no end of the range
  have hK0 : K ≠ 0 := by
    intro h0
    subst h0
    have b1 := Jvm.FP.Core.below_mono (b := -600) (by omega) s5
    have b2 : A * 2 ^ 600 < B * 2 ^ 0 := b1
    have p1 : 2 ^ 24 ≤ 2 ^ 600 := Nat.pow_le_pow_right (by decide) (by decide)
    have p2 : 2 ^ 600 ≤ A * 2 ^ 600 := Nat.le_mul_of_pos_left _ hA
    rw [Nat.pow_zero, Nat.mul_one] at b2
    generalize (2 : Nat) ^ 600 = X at *
    omega
  have s6' : ¬ Jvm.FP.Core.Below A B ((K : Int) - 1074 - e + 52) := by
    rcases s6 with h | h
    · exact absurd h hK0
    · exact h
  have hN52 : 2 ^ 52 ≤ N1 := by
    rcases s4 with h | h
    · exact absurd h hK0
    · exact h
  have hKhi : K ≤ 1600 := by
    rcases Nat.lt_or_ge 1600 K with h | h
    · exfalso
      apply s6'
      refine Jvm.FP.Core.below_mono (a := 24) (by omega) ?_
      show A * 2 ^ 0 < B * 2 ^ 24
      have := Nat.le_mul_of_pos_left (2 ^ 24) hB
      omega
    · exact h
  have hlt : N1 * 2 ^ K < 2 ^ 53 * 2 ^ 2045 := by
    have a1 : 2 ^ K < 2 ^ 2045 := Nat.pow_lt_pow_right (by decide) (by omega)
    have a2 : N1 * 2 ^ K ≤ 2 ^ 53 * 2 ^ K := Nat.mul_le_mul_right _ s3
    exact Nat.lt_of_le_of_lt a2 (Nat.mul_lt_mul_of_pos_left a1 (Nat.two_pow_pos 53))
  rw [Nat.min_eq_left (Nat.le_of_lt hlt)] at s1
  have hjj := Jvm.FP.Core.lt_of_below s6' t5
  obtain ⟨j, hj⟩ : ∃ j : Nat, (k : Int) - 149 = ((K : Int) - 1074) + (j : Int) := ⟨k + 925 - K, by omega⟩
  have hj28 : 28 < j := by omega
  refine ⟨?_, by rw [s1]; exact hlt⟩
  rw [s1]
  -- in the FLOAT's own units
  have cr := cross_units (A := A) (B := B) (e := e) hj
  have ub1 := Jvm.FP.Core.units_below A B e ((k : Int) - 149) 24
  have ub2 := Jvm.FP.Core.units_below A B e ((K : Int) - 1074) 52
  have ub3 := Jvm.FP.Core.units_below A B e ((k : Int) - 149) 23
  have d64 := Jvm.FP.Core.unitsDen_pos hB e ((K : Int) - 1074)
  have d32 := Jvm.FP.Core.unitsDen_pos hB e ((k : Int) - 149)
  have ha48 : Jvm.FP.Core.unitsNum A e ((k : Int) - 149) < 2 ^ 48 := by
    have h24 := ub1.mpr t5
    by_cases c : (k : Int) - 149 ≤ e
    · have : Jvm.FP.Core.unitsDen B e ((k : Int) - 149) = B := by
        unfold Jvm.FP.Core.unitsDen
        rw [show ((k : Int) - 149 - e).toNat = 0 by omega, Nat.pow_zero, Nat.mul_one]
      rw [this] at h24
      omega
    · have : Jvm.FP.Core.unitsNum A e ((k : Int) - 149) = A := by
        unfold Jvm.FP.Core.unitsNum
        rw [show (e - ((k : Int) - 149)).toNat = 0 by omega, Nat.pow_zero, Nat.mul_one]
      rw [this]; omega
  have h24 := ub1.mpr t5
  have h52 : 2 ^ 52 * Jvm.FP.Core.unitsDen B e ((K : Int) - 1074) ≤ Jvm.FP.Core.unitsNum A e ((K : Int) - 1074) := Nat.not_lt.mp (fun z => s6' (ub2.mp z))
  have h23 : k = 0 ∨ 2 ^ 23 * Jvm.FP.Core.unitsDen B e ((k : Int) - 149) ≤ Jvm.FP.Core.unitsNum A e ((k : Int) - 149) := by
    rcases t6 with h | h
    · exact .inl h
    · exact .inr (Nat.not_lt.mp (fun z => h (ub3.mp z)))
  have hN1 : N1 = Jvm.FP.Core.nearest (Jvm.FP.Core.unitsNum A e ((k : Int) - 149) * 2 ^ j) (Jvm.FP.Core.unitsDen B e ((k : Int) - 149)) := by
    rw [s2]
    exact Jvm.FP.Core.nearest_congr d64 d32 cr
  generalize Jvm.FP.Core.unitsNum A e ((k : Int) - 149) = a at *
  generalize Jvm.FP.Core.unitsDen B e ((k : Int) - 149) = b at *
  generalize Jvm.FP.Core.unitsNum A e ((K : Int) - 1074) = a64 at *
  generalize Jvm.FP.Core.unitsDen B e ((K : Int) - 1074) = b64 at *
  have hpj : 0 < 2 ^ j := Nat.two_pow_pos j
  have hab : 2 ^ 52 * b ≤ a * 2 ^ j := by
    refine Nat.le_of_mul_le_mul_right (c := b64) ?_ d64
    rw [← cr]
    have := Nat.mul_le_mul_right b h52
    rw [Nat.mul_assoc, Nat.mul_comm b64 b, ← Nat.mul_assoc] at this
    exact this
  have hbj : b < 2 ^ j := by
    have c1 : a * 2 ^ j < 2 ^ 48 * 2 ^ j := Nat.mul_lt_mul_of_pos_right ha48 hpj
    generalize 2 ^ j = P at *
    generalize a * P = X at *
    omega
  have dbl : Jvm.FP.Core.nearest N1 (2 ^ j) = n := by
    rw [hN1, t2]
    exact dbl_round d32 hbj
  have hNle : N1 ≤ 2 ^ (24 + j) := by
    rw [hN1]
    refine Jvm.FP.Core.nearest_le d32 ?_
    rw [Nat.pow_add]
    have := Nat.mul_le_mul_right (2 ^ j) (Nat.le_of_lt h24)
    rw [Nat.mul_assoc, Nat.mul_comm b, ← Nat.mul_assoc] at this
    exact this
  have hNge : k = 0 ∨ 2 ^ (23 + j) ≤ N1 := by
    rcases h23 with h | h
    · exact .inl h
    · right
      rw [hN1]
      refine Jvm.FP.Core.nearest_ge d32 ?_
      rw [Nat.pow_add]
      have := Nat.mul_le_mul_right (2 ^ j) h
      rw [Nat.mul_assoc, Nat.mul_comm b, ← Nat.mul_assoc] at this
      exact this
  have e0 : rr3 (N1 * 2 ^ K) 1 (-1074) = rr3 N1 1 ((K : Int) - 1074) := by
    refine rr3_congr (by decide) (by decide) ?_
    rw [Nat.mul_one, Nat.mul_one, show (-1074 - ((K : Int) - 1074)).toNat = 0 by omega, show ((K : Int) - 1074 - -1074).toNat = K by omega, Nat.pow_zero, Nat.mul_one]
  rw [e0, t1]
  obtain ⟨c', k', u1, u2, u3, u4, u5, u6⟩ := rr3_shape (A := N1) (B := 1) (e := (K : Int) - 1074) (by omega) (by decide)
  rw [u1]
  have key : c' * 2 ^ k' = n * 2 ^ k := by
    rcases Nat.lt_trichotomy k' k with hk | hk | hk
    · exfalso
      have g := hNge
      have b1 : Jvm.FP.Core.Below N1 1 ((23 + j : Nat) : Int) := Jvm.FP.Core.below_mono (by omega) u5
      have := (below_nat rfl).mp b1
      omega
    · subst hk
      have : c' = n := by
        rw [u2, ← dbl]
        unfold Jvm.FP.Core.unitsNum Jvm.FP.Core.unitsDen
        rw [show ((K : Int) - 1074 - ((k' : Int) - 149)).toNat = 0 by omega, show ((k' : Int) - 149 - ((K : Int) - 1074)).toNat = j by omega, Nat.pow_zero, Nat.mul_one, Nat.one_mul]
      rw [this]
    · have h6 : ¬ Jvm.FP.Core.Below N1 1 ((k' : Int) - 149 - ((K : Int) - 1074) + 23) := by
        rcases u6 with h | h
        · omega
        · exact h
      obtain ⟨d, rfl⟩ : ∃ d, k' = k + 1 + d := ⟨k' - k - 1, by omega⟩
      have hge : 2 ^ (j + 24 + d) ≤ N1 := Nat.not_lt.mp (fun z => h6 ((below_nat (k := j + 24 + d) (by omega)).mpr z))
      have hd0 : d = 0 := by
        rcases Nat.eq_zero_or_pos d with h | h
        · exact h
        · exfalso
          have : 2 ^ (24 + j) < 2 ^ (j + 24 + d) := Nat.pow_lt_pow_right (by decide) (by omega)
          omega
      subst hd0
      have hN : N1 = 2 ^ (24 + j) := by
        rw [show j + 24 + 0 = 24 + j by omega] at hge
        omega
      have c1 : c' = 2 ^ 23 := by
        rw [u2]
        unfold Jvm.FP.Core.unitsNum Jvm.FP.Core.unitsDen
        rw [show ((K : Int) - 1074 - (((k + 1 + 0 : Nat) : Int) - 149)).toNat = 0 by omega, show (((k + 1 + 0 : Nat) : Int) - 149 - ((K : Int) - 1074)).toNat = j + 1 by omega, Nat.pow_zero, Nat.mul_one, Nat.one_mul, hN, show 24 + j = 23 + (j + 1) by omega, Nat.pow_add]
        exact Jvm.FP.Core.nearest_exact _ (Nat.two_pow_pos _)
      have n1 : n = 2 ^ 24 := by
        rw [← dbl, hN, Nat.pow_add]
        exact Jvm.FP.Core.nearest_exact _ hpj
      rw [c1, n1, ← Nat.pow_add, ← Nat.pow_add]
      congr 1
      omega
  rw [key]
