/-! finite doubles by their sign and their size in units of 2^-1074 -/
def Dv (a : UInt64) (s : Bool) (u : Nat) : Prop := ∃ c q, Jvm.FP.Core.val64 a = .fin s c q ∧ Jvm.FP.Core.inUnits c q (-1074) = u
theorem dv_qmin : Jvm.FP.Core.b64.qmin = -1074 := by decide
theorem Dv.fin {a : UInt64} {s : Bool} {u : Nat} (h : Dv a s u) : Jvm.FP.Core.DFin a := by
  obtain ⟨c, q, h1, -⟩ := h
  exact ⟨s, c, q, h1⟩
theorem Dv.ne_nan {a : UInt64} {s : Bool} {u : Nat} (h : Dv a s u) : Jvm.FP.Core.val64 a ≠ .nan := h.fin.ne_nan
theorem Dv.zval {a : UInt64} {s : Bool} {u : Nat} (h : Dv a s u) : Jvm.FP.Core.zval Jvm.FP.Core.b64 (Jvm.FP.Core.val64 a) = Jvm.FP.Core.signed s u := by
  obtain ⟨c, q, h1, h2⟩ := h
  rw [h1, ← h2, ← dv_qmin]; rfl
theorem Dv.sgn {a : UInt64} {s : Bool} {u : Nat} (h : Dv a s u) : s = decide (2 ^ 63 ≤ a.toNat) := by
  have h1 := Jvm.FP.Core.sgn_bits h.ne_nan
  obtain ⟨c, q, h2, h3⟩ := h
  rw [← h1, h2]; rfl
theorem Dv.zmag {a : UInt64} {s : Bool} {u : Nat} (h : Dv a s u) : Jvm.FP.Core.zmag Jvm.FP.Core.b64 (Jvm.FP.Core.val64 a) = u := by
  obtain ⟨c, q, h2, h3⟩ := h
  rw [h2, ← h3, ← dv_qmin]; rfl
theorem Dv.sgn' {a : UInt64} {s : Bool} {u : Nat} (h : Dv a s u) : Jvm.FP.Core.sgn (Jvm.FP.Core.val64 a) = s := by
  obtain ⟨c, q, h2, h3⟩ := h
  rw [h2]; rfl
theorem Dv.mag {a : UInt64} {s : Bool} {u : Nat} (h : Dv a s u) : u = Jvm.FP.Core.unitsOf Jvm.FP.Core.b64 (a.toNat % 2 ^ 63) := by
  have h1 := Jvm.FP.Core.zmag_bits h.ne_nan
  rw [← h1, h.zmag]
theorem Dv.lt {a : UInt64} {s : Bool} {u : Nat} (h : Dv a s u) : a.toNat % 2 ^ 63 < 9218868437227405312 := (Jvm.FP.Core.fin_bits a).mp h.fin
theorem Dv.of {a : UInt64} (h : a.toNat % 2 ^ 63 < 9218868437227405312) : Dv a (decide (2 ^ 63 ≤ a.toNat)) (Jvm.FP.Core.unitsOf Jvm.FP.Core.b64 (a.toNat % 2 ^ 63)) := by
  obtain ⟨s, c, q, h1⟩ := (Jvm.FP.Core.fin_bits a).mpr h
  have hd : Dv a s (Jvm.FP.Core.inUnits c q (-1074)) := ⟨c, q, h1, rfl⟩
  rw [← hd.sgn, ← hd.mag]
  exact hd
theorem Dv.inj {a b : UInt64} {s : Bool} {u : Nat} (h : Dv a s u) (h' : Dv b s u) : a = b := by
  have h1 := h.mag
  have h2 := h'.mag
  have h3 := h.sgn
  have h4 := h'.sgn
  have ha := a.toNat_lt
  have hb := b.toNat_lt
  have e1 : a.toNat % 2 ^ 63 = b.toNat % 2 ^ 63 := by
    have l1 := Jvm.FP.Core.unitsOf_le_iff (f := Jvm.FP.Core.b64) (m := a.toNat % 2 ^ 63) (k := b.toNat % 2 ^ 63)
    have l2 := Jvm.FP.Core.unitsOf_le_iff (f := Jvm.FP.Core.b64) (m := b.toNat % 2 ^ 63) (k := a.toNat % 2 ^ 63)
    rw [← h1, ← h2] at l1 l2
    have := l1.mp (Nat.le_refl _)
    have := l2.mp (Nat.le_refl _)
    omega
  have e2 : (2 ^ 63 ≤ a.toNat) ↔ (2 ^ 63 ≤ b.toNat) := by
    rw [h4] at h3
    exact (decide_eq_decide.mp h3).symm
  apply UInt64.toNat_inj.mp
  omega
theorem Dv.same {a : UInt64} {s t : Bool} {u v : Nat} (h : Dv a s u) (h' : Dv a t v) : s = t ∧ u = v := by
  obtain ⟨c, q, h1, h2⟩ := h
  obtain ⟨d, r, h3, h4⟩ := h'
  rw [h1] at h3
  injection h3 with e1 e2 e3
  subst e1 e2 e3
  exact ⟨rfl, h2.symm.trans h4⟩
/-- a number that fits 53 digits is met exactly -/
theorem round_sized {s : Bool} {C c k : Nat} {Q : Int} (hc : c < 2 ^ 53) (hk : k ≤ 2045) (he : C * 2 ^ (Q + 1074).toNat = c * 2 ^ k * 2 ^ (-(Q + 1074)).toNat) : ∃ c' q', Jvm.FP.Core.round Jvm.FP.Core.b64 (.fin s C Q) = .fin s c' q' ∧ Jvm.FP.Core.inUnits c' q' (-1074) = c * 2 ^ k := by
  have hr : Jvm.FP.Core.round Jvm.FP.Core.b64 (.fin s C Q) = Jvm.FP.Core.round Jvm.FP.Core.b64 (.fin s c ((k : Int) - 1074)) := by
    refine Jvm.FP.Core.roundRatio_congr (by decide) (by decide) ?_
    rw [Nat.mul_one, Nat.mul_one]
    by_cases hQ : (k : Int) - 1074 ≤ Q
    · rw [show ((k : Int) - 1074 - Q).toNat = 0 by omega, Nat.pow_zero, Nat.mul_one]
      rw [show (Q + 1074).toNat = (Q - ((k : Int) - 1074)).toNat + k by omega, show (-(Q + 1074)).toNat = 0 by omega, Nat.pow_add, ← Nat.mul_assoc, Nat.pow_zero, Nat.mul_one] at he
      exact Nat.eq_of_mul_eq_mul_right (Nat.two_pow_pos k) he
    · rw [show (Q - ((k : Int) - 1074)).toNat = 0 by omega, Nat.pow_zero, Nat.mul_one]
      by_cases hQ0 : 0 ≤ Q + 1074
      · have e2 : 2 ^ k = 2 ^ ((k : Int) - 1074 - Q).toNat * 2 ^ (Q + 1074).toNat := by
          rw [← Nat.pow_add]; congr 1; omega
        rw [show (-(Q + 1074)).toNat = 0 by omega, Nat.pow_zero, Nat.mul_one, e2, ← Nat.mul_assoc] at he
        exact Nat.eq_of_mul_eq_mul_right (Nat.two_pow_pos _) he
      · rw [show (Q + 1074).toNat = 0 by omega, Nat.pow_zero, Nat.mul_one, Nat.mul_assoc, ← Nat.pow_add] at he
        rw [he]
        congr 2
        omega
  rw [hr]
  obtain ⟨c', q', h1, h2⟩ := Jvm.FP.Core.round_exact Jvm.FP.Core.good_b64 s (c := c) (q := (k : Int) - 1074) hc (by rw [dv_qmin]; omega) (by rw [show Jvm.FP.Core.b64.qmax = 971 by decide]; omega)
  refine ⟨c', q', h1, ?_⟩
  rw [← dv_qmin, h2, dv_qmin]
  unfold Jvm.FP.Core.inUnits
  congr 2
  omega
theorem Dv.round {a : UInt64} {s : Bool} {C c k : Nat} {Q : Int} (h : Jvm.FP.Core.val64 a = Jvm.FP.Core.round Jvm.FP.Core.b64 (.fin s C Q)) (hc : c < 2 ^ 53) (hk : k ≤ 2045) (he : C * 2 ^ (Q + 1074).toNat = c * 2 ^ k * 2 ^ (-(Q + 1074)).toNat) : Dv a s (c * 2 ^ k) := by
  obtain ⟨c', q', h1, h2⟩ := round_sized (s := s) hc hk he
  exact ⟨c', q', h.trans h1, h2⟩
/-- a size is 53 digits and a shift; so are the bits -/
theorem Dv.shape {a : UInt64} {s : Bool} {u : Nat} (h : Dv a s u) : ∃ c k, u = c * 2 ^ k ∧ c < 2 ^ 53 ∧ k ≤ 2045 ∧ (k = 0 ∨ 2 ^ 52 ≤ c) ∧ a.toNat = (if s = true then 2 ^ 63 else 0) + (k * 2 ^ 52 + c) := by
  have hn := h.ne_nan
  obtain ⟨c, q, h1, h2⟩ := h
  have hf := Jvm.FP.Core.val64_fits a
  rw [h1] at hf
  have hfit := hf
  obtain ⟨f1, f2, f3, f4⟩ := hf
  rw [dv_qmin] at f2 f4
  rw [show Jvm.FP.Core.b64.qmax = 971 by decide] at f3
  rw [show Jvm.FP.Core.b64.tails = 2 ^ 52 by decide] at f4
  have f1' : c < 2 ^ 53 := f1
  have f4' : (q + 1074).toNat = 0 ∨ 2 ^ 52 ≤ c := by
    rcases f4 with f4 | f4
    · exact .inl (by omega)
    · exact .inr f4
  refine ⟨c, (q + 1074).toNat, ?_, f1', by omega, f4', ?_⟩
  · rw [← h2]; unfold Jvm.FP.Core.inUnits; congr 2
  · have e1 := Jvm.FP.Core.of64_val64 hn
    rw [h1] at e1
    rw [← e1, Jvm.FP.Core.toNat_of64 hfit]
    have e2 : q = (((q + 1074).toNat : Nat) : Int) - 1074 := by omega
    generalize (q + 1074).toNat = k at e2 f4' ⊢
    subst e2
    rw [enc_fin]
    congr 1
    split <;> omega
theorem dv_rem {a b : UInt64} {s t : Bool} {u v : Nat} (ha : Dv a s u) (hb : Dv b t v) (hv : v ≠ 0) : Dv (FP.drem a b) s (u % v) := by
  obtain ⟨c, q, h1, h2⟩ := ha
  obtain ⟨d, r, h3, h4⟩ := hb
  have hd : d ≠ 0 := fun h => hv (by rw [← h4, h]; unfold Jvm.FP.Core.inUnits; rw [Nat.zero_mul])
  obtain ⟨c', q', h5, h6⟩ := Jvm.FP.Core.drem_exact h1 h3 hd
  refine ⟨c', q', h5, ?_⟩
  rw [dv_qmin] at h6
  rw [h6, h2, h4]
theorem val64_jneg (a : UInt64) : Jvm.FP.Core.val64 (FP.dneg a) = Jvm.FP.Core.negate (Jvm.FP.Core.val64 a) := by
  refine Jvm.FP.Core.val64_neg_bits ?_
  have ha := a.toNat_lt
  have e : (FP.dneg a).toNat = a.toNat ^^^ 2 ^ 63 := by
    unfold FP.dneg
    rw [UInt64.toNat_xor]; rfl
  have h1 : (a.toNat ^^^ 2 ^ 63) % 2 ^ 63 = a.toNat % 2 ^ 63 := by
    rw [Nat.xor_mod_two_pow, Nat.mod_self, Nat.xor_zero]
  have h2 : (a.toNat ^^^ 2 ^ 63) / 2 ^ 63 = (a.toNat / 2 ^ 63) ^^^ 1 := by
    rw [Nat.xor_div_two_pow]
  have h3 : a.toNat / 2 ^ 63 = 0 ∨ a.toNat / 2 ^ 63 = 1 := by omega
  rw [e]
  rcases h3 with h3 | h3
  · rw [h3, show (0 ^^^ 1 : Nat) = 1 by decide] at h2
    omega
  · rw [h3, show (1 ^^^ 1 : Nat) = 0 by decide] at h2
    omega
theorem dv_neg {a : UInt64} {s : Bool} {u : Nat} (ha : Dv a s u) : Dv (FP.dneg a) (!s) u := by
  obtain ⟨c, q, h1, h2⟩ := ha
  refine ⟨c, q, ?_, h2⟩
  rw [val64_jneg, h1]; rfl
theorem dv_mul {a b : UInt64} {s t : Bool} {u v c k : Nat} (ha : Dv a s u) (hb : Dv b t v) (hc : c < 2 ^ 53) (hk : k ≤ 2045) (he : u * v = c * 2 ^ k * Jvm.FP.Core.one64) : Dv (FP.dmul a b) (s != t) (c * 2 ^ k) := by
  have hfa := Jvm.FP.Core.val64_fits a
  have hfb := Jvm.FP.Core.val64_fits b
  obtain ⟨c1, q1, h1, h2⟩ := ha
  obtain ⟨c2, q2, h3, h4⟩ := hb
  rw [h1] at hfa
  rw [h3] at hfb
  have g1 := hfa.2.1
  have g2 := hfb.2.1
  rw [dv_qmin] at g1 g2
  refine Dv.round (C := c1 * c2) (Q := q1 + q2) ?_ hc hk ?_
  · have := Jvm.FP.Core.val64_dmul a b
    rw [h1, h3] at this
    exact this
  · rw [← h2, ← h4] at he
    unfold Jvm.FP.Core.inUnits at he
    have e1 : c1 * 2 ^ (q1 - -1074).toNat * (c2 * 2 ^ (q2 - -1074).toNat) = c1 * c2 * 2 ^ ((q1 - -1074).toNat + (q2 - -1074).toNat) := by
      rw [Nat.pow_add]; ac_rfl
    rw [e1] at he
    by_cases hQ : 0 ≤ q1 + q2 + 1074
    · rw [show (-(q1 + q2 + 1074)).toNat = 0 by omega, Nat.pow_zero, Nat.mul_one]
      have e3 : 2 ^ ((q1 - -1074).toNat + (q2 - -1074).toNat) = 2 ^ (q1 + q2 + 1074).toNat * Jvm.FP.Core.one64 := by
        unfold Jvm.FP.Core.one64
        rw [← Nat.pow_add]; congr 1; omega
      rw [e3, ← Nat.mul_assoc] at he
      exact Nat.eq_of_mul_eq_mul_right Jvm.FP.Core.one64_pos he
    · rw [show (q1 + q2 + 1074).toNat = 0 by omega, Nat.pow_zero, Nat.mul_one]
      have e2 : Jvm.FP.Core.one64 = 2 ^ (-(q1 + q2 + 1074)).toNat * 2 ^ ((q1 - -1074).toNat + (q2 - -1074).toNat) := by
        unfold Jvm.FP.Core.one64
        rw [← Nat.pow_add]; congr 1; omega
      rw [e2, ← Nat.mul_assoc] at he
      exact Nat.eq_of_mul_eq_mul_right (Nat.two_pow_pos _) he
theorem dv_cmp {a b : UInt64} {s t : Bool} {u v : Nat} (ha : Dv a s u) (hb : Dv b t v) : FP.dcmp a b = some (compare (Jvm.FP.Core.signed s u) (Jvm.FP.Core.signed t v)) := by
  have := Jvm.FP.Core.dcmp_zval ha.ne_nan hb.ne_nan
  rw [ha.zval, hb.zval] at this
  exact this
