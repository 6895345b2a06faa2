/-! rounding to DOUBLE first changes nothing: products and sums -/
theorem dr_small {C : Nat} {Q : Int} (hC : C < 2 ^ 53) (h1 : -1074 ≤ Q) (h2 : Q ≤ 900) : rr3 (rr C 1 Q) 1 (-1074) = rr3 C 1 Q ∧ rr C 1 Q < 2 ^ 53 * 2 ^ 2045 := by
  have e : rr C 1 Q = C * 2 ^ (Q + 1074).toNat := rr_sized hC (by omega) (by
    rw [show (-(Q + 1074)).toNat = 0 by omega, Nat.pow_zero, Nat.mul_one])
  constructor
  · rw [e]
    refine rr3_congr (by decide) (by decide) ?_
    rw [Nat.mul_one, Nat.mul_one, show (-1074 - Q).toNat = 0 by omega, Nat.pow_zero, Nat.mul_one, show (Q - -1074).toNat = (Q + 1074).toNat by omega]
  · rw [e]
    exact Nat.lt_of_lt_of_le (Nat.mul_lt_mul_of_pos_right hC (Nat.two_pow_pos _)) (Nat.mul_le_mul_left _ (Nat.pow_le_pow_right (by decide) (by omega)))
theorem top3 {c k : Nat} (hc : c < 2 ^ 24) (hk : k ≤ 253) : c * 2 ^ k ≤ 2 ^ 24 * 2 ^ 253 := Nat.mul_le_mul (by omega) (Nat.pow_le_pow_right (by decide) hk)
/-- a little above or below a FLOAT: that FLOAT -/
theorem near_up {c k : Nat} (h1 : 2 ^ 23 ≤ c) (h2 : c < 2 ^ 24) (hk : k ≤ 253) : rr3 (16 * c + 1) 1 ((k : Int) - 153) = c * 2 ^ k := by
  obtain ⟨c', k', u1, u2, u3, u4, u5, u6⟩ := rr3_shape (A := 16 * c + 1) (B := 1) (e := (k : Int) - 153) (by omega) (by decide)
  have hk' : k' = k := by
    rcases Nat.lt_trichotomy k' k with h | h | h
    · exfalso
      have b1 : Jvm.FP.Core.Below (16 * c + 1) 1 ((27 : Nat) : Int) := Jvm.FP.Core.below_mono (by omega) u5
      have := (below_nat rfl).mp b1
      omega
    · exact h
    · exfalso
      rcases u6 with g | g
      · omega
      · apply g
        refine Jvm.FP.Core.below_mono (a := ((28 : Nat) : Int)) (by omega) ((below_nat rfl).mpr ?_)
        omega
  subst hk'
  have hc : c' = c := by
    rw [u2]
    unfold Jvm.FP.Core.unitsNum Jvm.FP.Core.unitsDen
    rw [show ((k' : Int) - 153 - ((k' : Int) - 149)).toNat = 0 by omega, show ((k' : Int) - 149 - ((k' : Int) - 153)).toNat = 4 by omega]
    exact nearest_eq (by decide) (by omega) (by omega)
  rw [u1, hc, Nat.min_eq_left (top3 h2 hk)]
theorem near_down {c k : Nat} (h1 : 2 ^ 23 ≤ c) (h2 : c < 2 ^ 24) (hk : k ≤ 253) (hk0 : 1 ≤ k) : rr3 (16 * c - 1) 1 ((k : Int) - 153) = c * 2 ^ k := by
  obtain ⟨c', k', u1, u2, u3, u4, u5, u6⟩ := rr3_shape (A := 16 * c - 1) (B := 1) (e := (k : Int) - 153) (by omega) (by decide)
  have hk3 : ¬ k < k' := by
    intro h
    rcases u6 with g | g
    · omega
    · apply g
      refine Jvm.FP.Core.below_mono (a := ((28 : Nat) : Int)) (by omega) ((below_nat rfl).mpr ?_)
      omega
  by_cases hk' : k' = k
  · subst hk'
    have hc : c' = c := by
      rw [u2]
      unfold Jvm.FP.Core.unitsNum Jvm.FP.Core.unitsDen
      rw [show ((k' : Int) - 153 - ((k' : Int) - 149)).toNat = 0 by omega, show ((k' : Int) - 149 - ((k' : Int) - 153)).toNat = 4 by omega]
      exact nearest_eq (by decide) (by omega) (by omega)
    rw [u1, hc, Nat.min_eq_left (top3 h2 hk)]
  · have b1 : Jvm.FP.Core.Below (16 * c - 1) 1 ((27 : Nat) : Int) := Jvm.FP.Core.below_mono (by omega) u5
    have l1 := (below_nat rfl).mp b1
    have hk1 : k' + 1 = k := by
      rcases Nat.lt_or_ge (k' + 1) k with h | h
      · exfalso
        have b2 : Jvm.FP.Core.Below (16 * c - 1) 1 ((26 : Nat) : Int) := Jvm.FP.Core.below_mono (by omega) u5
        have := (below_nat rfl).mp b2
        omega
      · omega
    subst hk1
    have hc : c' = 2 * c := by
      rw [u2]
      unfold Jvm.FP.Core.unitsNum Jvm.FP.Core.unitsDen
      rw [show (((k' + 1 : Nat) : Int) - 153 - ((k' : Int) - 149)).toNat = 0 by omega, show ((k' : Int) - 149 - (((k' + 1 : Nat) : Int) - 153)).toNat = 3 by omega]
      exact nearest_eq (by decide) (by omega) (by omega)
    have e : 2 * c * 2 ^ k' = c * 2 ^ (k' + 1) := by rw [Nat.pow_succ]; ac_rfl
    rw [u1, hc, e, Nat.min_eq_left (top3 h2 hk)]
theorem dr_far {c D N k : Nat} {r : Int} (h1 : 2 ^ 23 ≤ c) (h2 : c < 2 ^ 24) (hD : 29 ≤ D) (hk : k ≤ 253) (hDk : D ≤ k) (hr : r = (k : Int) - 149 - (D : Int)) (n1 : c * 2 ^ D ≤ N + 2 ^ 24) (n2 : N ≤ c * 2 ^ D + 2 ^ 24) : rr3 (rr N 1 r) 1 (-1074) = rr3 N 1 r ∧ rr N 1 r < 2 ^ 53 * 2 ^ 2045 := by
  have hp : 2 ^ 24 ≤ 2 ^ (D - 4) := Nat.pow_le_pow_right (by decide) (by omega)
  have e16 : 2 ^ D = 16 * 2 ^ (D - 4) := by
    rw [show D = (D - 4) + 4 by omega, Nat.pow_add]
    rw [show D - 4 + 4 - 4 = D - 4 by omega, show (2 : Nat) ^ 4 = 16 by decide, Nat.mul_comm]
  have cx : c * 2 ^ D = 16 * c * 2 ^ (D - 4) := by rw [e16]; ac_rfl
  have lo : (16 * c - 1) * 2 ^ (D - 4) ≤ N := by
    have : (16 * c - 1) * 2 ^ (D - 4) + 2 ^ (D - 4) = 16 * c * 2 ^ (D - 4) := by
      rw [← Nat.succ_mul]; congr 1; omega
    omega
  have up : N ≤ (16 * c + 1) * 2 ^ (D - 4) := by
    have : (16 * c + 1) * 2 ^ (D - 4) = 16 * c * 2 ^ (D - 4) + 2 ^ (D - 4) := by rw [Nat.add_mul, Nat.one_mul]
    omega
  -- both ends are exact, and both are rounded to the FLOAT
  have ends : ∀ M : Nat, M < 2 ^ 53 → rr3 M 1 ((k : Int) - 153) = c * 2 ^ k → rr3 (M * 2 ^ (D - 4)) 1 r = c * 2 ^ k ∧ rr3 (rr (M * 2 ^ (D - 4)) 1 r) 1 (-1074) = c * 2 ^ k ∧ rr (M * 2 ^ (D - 4)) 1 r < 2 ^ 53 * 2 ^ 2045 := by
    intro M hM hF
    have c3 : rr3 (M * 2 ^ (D - 4)) 1 r = rr3 M 1 ((k : Int) - 153) := by
      refine rr3_congr (by decide) (by decide) ?_
      rw [Nat.mul_one, Nat.mul_one, show (r - ((k : Int) - 153)).toNat = 0 by omega, show ((k : Int) - 153 - r).toNat = D - 4 by omega, Nat.pow_zero, Nat.mul_one]
    have c6 : rr (M * 2 ^ (D - 4)) 1 r = rr M 1 ((k : Int) - 153) := by
      unfold rr
      rw [Jvm.FP.Core.roundRatio_congr (f := Jvm.FP.Core.b64) (s := false) (A := M * 2 ^ (D - 4)) (B := 1) (A' := M) (B' := 1) (e := r) (e' := (k : Int) - 153) (by decide) (by decide) (by
        rw [Nat.mul_one, Nat.mul_one, show (r - ((k : Int) - 153)).toNat = 0 by omega, show ((k : Int) - 153 - r).toNat = D - 4 by omega, Nat.pow_zero, Nat.mul_one])]
    obtain ⟨d1, d2⟩ := dr_small (C := M) (Q := (k : Int) - 153) hM (by omega) (by omega)
    exact ⟨c3.trans hF, by rw [c6, d1, hF], by rw [c6]; exact d2⟩
  obtain ⟨a1, a2, a3⟩ := ends (16 * c - 1) (by omega) (near_down h1 h2 hk (by omega))
  obtain ⟨b1, b2, b3⟩ := ends (16 * c + 1) (by omega) (near_up h1 h2 hk)
  have m1 := rr3_mono (A := (16 * c - 1) * 2 ^ (D - 4)) (B := 1) (A' := N) (B' := 1) (e := r) (by decide) (by decide) (by omega)
  have m2 := rr3_mono (A := N) (B := 1) (A' := (16 * c + 1) * 2 ^ (D - 4)) (B' := 1) (e := r) (by decide) (by decide) (by omega)
  have w1 := rr_mono (A := (16 * c - 1) * 2 ^ (D - 4)) (B := 1) (A' := N) (B' := 1) (e := r) (by decide) (by decide) (by omega)
  have w2 := rr_mono (A := N) (B := 1) (A' := (16 * c + 1) * 2 ^ (D - 4)) (B' := 1) (e := r) (by decide) (by decide) (by omega)
  have v1 := rr3_mono (B := 1) (B' := 1) (e := -1074) (by decide) (by decide) (show rr ((16 * c - 1) * 2 ^ (D - 4)) 1 r * 1 ≤ rr N 1 r * 1 by rw [Nat.mul_one, Nat.mul_one]; exact w1)
  have v2 := rr3_mono (B := 1) (B' := 1) (e := -1074) (by decide) (by decide) (show rr N 1 r * 1 ≤ rr ((16 * c + 1) * 2 ^ (D - 4)) 1 r * 1 by rw [Nat.mul_one, Nat.mul_one]; exact w2)
  rw [a1] at m1
  rw [b1] at m2
  rw [a2] at v1
  rw [b2] at v2
  exact ⟨by rw [Nat.le_antisymm v2 v1, Nat.le_antisymm m2 m1], Nat.lt_of_le_of_lt w2 b3⟩
theorem rr_congr {A B A' B' : Nat} {e e' : Int} (hB : 0 < B) (hB' : 0 < B') (h : A * B' * 2 ^ (e - e').toNat = A' * B * 2 ^ (e' - e).toNat) : rr A B e = rr A' B' e' := by
  unfold rr
  rw [Jvm.FP.Core.roundRatio_congr hB hB' h]
theorem natAbs_sum {s t : Bool} {x y : Nat} : (Jvm.FP.Core.signed s x + Jvm.FP.Core.signed t y).natAbs = if s = t then x + y else (if y ≤ x then x - y else y - x) := by
  cases s <;> cases t
  · rw [if_pos rfl, sg_f, sg_f]; omega
  · rw [if_neg (by decide), sg_f, sg_t]; split <;> omega
  · rw [if_neg (by decide), sg_t, sg_f]; split <;> omega
  · rw [if_pos rfl, sg_t, sg_t]; omega
theorem dr_sum_le {c d k l : Nat} {s t : Bool} (hc : c < 2 ^ 24) (hd : d < 2 ^ 24) (hk : k ≤ 253) (nk : k = 0 ∨ 2 ^ 23 ≤ c) (h : l ≤ k) : rr3 (rr (Jvm.FP.Core.signed s (c * 2 ^ k) + Jvm.FP.Core.signed t (d * 2 ^ l)).natAbs 1 (-149)) 1 (-1074) = rr3 (Jvm.FP.Core.signed s (c * 2 ^ k) + Jvm.FP.Core.signed t (d * 2 ^ l)).natAbs 1 (-149) ∧ rr (Jvm.FP.Core.signed s (c * 2 ^ k) + Jvm.FP.Core.signed t (d * 2 ^ l)).natAbs 1 (-149) < 2 ^ 53 * 2 ^ 2045 := by
  obtain ⟨D, rfl⟩ : ∃ D, k = D + l := ⟨k - l, by omega⟩
  have ea : (Jvm.FP.Core.signed s (c * 2 ^ (D + l)) + Jvm.FP.Core.signed t (d * 2 ^ l)).natAbs = (Jvm.FP.Core.signed s (c * 2 ^ D) + Jvm.FP.Core.signed t d).natAbs * 2 ^ l := by
    have e1 : c * 2 ^ (D + l) = c * 2 ^ D * 2 ^ l := by rw [Nat.pow_add, Nat.mul_assoc]
    rw [e1, Jvm.FP.Core.signed_mul s (c * 2 ^ D) (2 ^ l), Jvm.FP.Core.signed_mul t d (2 ^ l), ← Int.add_mul, Int.natAbs_mul, Int.natAbs_natCast]
  rw [ea]
  have hN := natAbs_sum (s := s) (t := t) (x := c * 2 ^ D) (y := d)
  generalize (Jvm.FP.Core.signed s (c * 2 ^ D) + Jvm.FP.Core.signed t d).natAbs = N at *
  have cg : N * 2 ^ l * 1 * 2 ^ ((-149 : Int) - ((l : Int) - 149)).toNat = N * 1 * 2 ^ ((l : Int) - 149 - -149).toNat := by
    rw [Nat.mul_one, Nat.mul_one, show ((-149 : Int) - ((l : Int) - 149)).toNat = 0 by omega, show ((l : Int) - 149 - -149).toNat = l by omega, Nat.pow_zero, Nat.mul_one]
  rw [rr_congr (by decide) (by decide) cg, rr3_congr (by decide) (by decide) cg]
  by_cases hs : N < 2 ^ 53
  · exact dr_small hs (by omega) (by omega)
  · have hD29 : 29 ≤ D := by
      rcases Nat.lt_or_ge D 29 with hlt | hge
      · exfalso
        have p1 : 2 ^ D ≤ 2 ^ 28 := Nat.pow_le_pow_right (by decide) (by omega)
        have p2 : c * 2 ^ D ≤ (2 ^ 24 - 1) * 2 ^ 28 := Nat.mul_le_mul (by omega) p1
        split at hN
        · omega
        · split at hN <;> omega
      · exact hge
    have hc23 : 2 ^ 23 ≤ c := by omega
    refine dr_far (c := c) (D := D) (k := D + l) hc23 hc hD29 hk (by omega) (by omega) ?_ ?_
    · split at hN
      · omega
      · split at hN <;> omega
    · split at hN
      · omega
      · split at hN <;> omega
theorem dr_sum {c d k l : Nat} {s t : Bool} (hc : c < 2 ^ 24) (hd : d < 2 ^ 24) (hk : k ≤ 253) (hl : l ≤ 253) (nk : k = 0 ∨ 2 ^ 23 ≤ c) (nl : l = 0 ∨ 2 ^ 23 ≤ d) : rr3 (rr (Jvm.FP.Core.signed s (c * 2 ^ k) + Jvm.FP.Core.signed t (d * 2 ^ l)).natAbs 1 (-149)) 1 (-1074) = rr3 (Jvm.FP.Core.signed s (c * 2 ^ k) + Jvm.FP.Core.signed t (d * 2 ^ l)).natAbs 1 (-149) ∧ rr (Jvm.FP.Core.signed s (c * 2 ^ k) + Jvm.FP.Core.signed t (d * 2 ^ l)).natAbs 1 (-149) < 2 ^ 53 * 2 ^ 2045 := by
  by_cases h : l ≤ k
  · exact dr_sum_le hc hd hk nk h
  · have := dr_sum_le (s := t) (t := s) hd hc hl nl (show k ≤ l by omega)
    rw [Int.add_comm] at this
    exact this
