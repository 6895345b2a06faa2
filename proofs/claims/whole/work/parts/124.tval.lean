/-! the values that trains of wheels have -/
theorem one64_eq : Jvm.FP.Core.one64 = 2 ^ 1074 := by unfold Jvm.FP.Core.one64; rfl
theorem ac4a (a b c d : Nat) : a * b * c * d = (a * c) * (b * d) := by ac_rfl
theorem ac4b (n d p X : Nat) : n * d * p * X = (n * X) * (d * p) := by ac_rfl
theorem one_small {c : Nat} (h : c < 2 ^ 53) : c * Jvm.FP.Core.one64 < 2 ^ 53 * 2 ^ 2045 := by
  have h1 : Jvm.FP.Core.one64 ≤ 2 ^ 2045 := by
    unfold Jvm.FP.Core.one64
    exact Nat.pow_le_pow_right (by decide) (by decide)
  exact Nat.lt_of_lt_of_le (Nat.mul_lt_mul_of_pos_right h Jvm.FP.Core.one64_pos) (Nat.mul_le_mul_left _ h1)
theorem dv_of_rr {a : UInt64} {A B : Nat} {e : Int} (h : Jvm.FP.Core.val64 a = Jvm.FP.Core.roundRatio Jvm.FP.Core.b64 false A B e) (hlt : rr A B e < 2 ^ 53 * 2 ^ 2045) : Dv a false (rr A B e) := by
  rcases Jvm.FP.Core.roundRatio_cases Jvm.FP.Core.b64 false A B e with ⟨c, q, hc⟩ | hi
  · refine ⟨c, q, h.trans hc, ?_⟩
    unfold rr
    rw [hc]
    show _ = Jvm.FP.Core.inUnits c q Jvm.FP.Core.b64.qmin
    rw [dv_qmin]
  · exfalso
    unfold rr at hlt
    rw [hi] at hlt
    have e1 : Jvm.FP.Core.zmag Jvm.FP.Core.b64 (.inf false) = 2 ^ 52 * 2 ^ 2046 := by
      show Jvm.FP.Core.b64.tails * 2 ^ (Jvm.FP.Core.b64.exps - 2) = _
      rw [show Jvm.FP.Core.b64.tails = 2 ^ 52 by decide, show Jvm.FP.Core.b64.exps - 2 = 2046 by decide]
    rw [e1] at hlt
    have top : (2 : Nat) ^ 52 * 2 ^ 2046 = 2 ^ 53 * 2 ^ 2045 := by rw [← Nat.pow_add, ← Nat.pow_add]
    rw [top] at hlt
    exact absurd hlt (Nat.lt_irrefl _)
theorem rr_sized {C c k : Nat} {Q : Int} (hc : c < 2 ^ 53) (hk : k ≤ 2045) (he : C * 2 ^ (Q + 1074).toNat = c * 2 ^ k * 2 ^ (-(Q + 1074)).toNat) : rr C 1 Q = c * 2 ^ k := by
  obtain ⟨c', q', h1, h2⟩ := round_sized (s := false) hc hk he
  have h3 : Jvm.FP.Core.roundRatio Jvm.FP.Core.b64 false C 1 Q = .fin false c' q' := h1
  unfold rr
  rw [h3]
  show Jvm.FP.Core.inUnits c' q' Jvm.FP.Core.b64.qmin = _
  rw [dv_qmin, h2]
theorem rr_self {a : UInt64} {s : Bool} {u : Nat} (h : Dv a s u) : rr u 1 (-1074) = u ∧ u < 2 ^ 53 * 2 ^ 2045 := by
  obtain ⟨c, k, h1, h2, h3, -⟩ := h.shape
  constructor
  · rw [h1]
    refine rr_sized h2 h3 ?_
    rw [show ((-1074 : Int) + 1074).toNat = 0 by decide, show (-((-1074 : Int) + 1074)).toNat = 0 by decide]
  · rw [h1]
    exact Nat.lt_of_lt_of_le (Nat.mul_lt_mul_of_pos_right h2 (Nat.two_pow_pos k)) (Nat.mul_le_mul_left _ (Nat.pow_le_pow_right (by decide) h3))
def Qv (n m : Nat) : Nat := rr n m 0
def Pv (a b : Nat) : Nat := rr (a * b) 1 (-2148)
def Dd (v a : Nat) : Nat := if v < a then rr (a - v) 1 (-1074) else rr (v - a) 1 (-1074)
theorem qv_le {n m : Nat} (hn : n ≤ 200) (hm : 4 ≤ m) : Qv n m ≤ 50 * Jvm.FP.Core.one64 := by
  have h1 : rr 50 1 0 = 50 * 2 ^ 1074 := rr_sized (by decide) (by decide) (by
    rw [show ((0 : Int) + 1074).toNat = 1074 by decide, show (-((0 : Int) + 1074)).toNat = 0 by decide, Nat.pow_zero, Nat.mul_one])
  have h2 : Qv n m ≤ rr 50 1 0 := rr_mono (by omega) (by decide) (by omega)
  rw [h1] at h2
  rw [one64_eq]
  exact h2
theorem pv_le {a b : Nat} (ha : a ≤ 50 * Jvm.FP.Core.one64) (hb : b ≤ 50 * Jvm.FP.Core.one64) : Pv a b ≤ 2500 * Jvm.FP.Core.one64 := by
  have h1 : rr (2500 * 2 ^ 1074 * 2 ^ 1074) 1 (-2148) = 2500 * 2 ^ 1074 := rr_sized (by decide) (by decide) (by
    rw [show ((-2148 : Int) + 1074).toNat = 0 by decide, show (-((-2148 : Int) + 1074)).toNat = 1074 by decide, Nat.pow_zero, Nat.mul_one])
  have h2 : Pv a b ≤ rr (2500 * 2 ^ 1074 * 2 ^ 1074) 1 (-2148) := by
    refine rr_mono (by decide) (by decide) ?_
    rw [Nat.mul_one, Nat.mul_one]
    have h3 := Nat.mul_le_mul ha hb
    have e : 50 * Jvm.FP.Core.one64 * (50 * Jvm.FP.Core.one64) = 2500 * 2 ^ 1074 * 2 ^ 1074 := by
      unfold Jvm.FP.Core.one64
      generalize (2 : Nat) ^ 1074 = X
      rw [show (2500 : Nat) = 50 * 50 by decide]
      ac_rfl
    rw [e] at h3
    exact h3
  rw [h1] at h2
  rw [one64_eq]
  exact h2
theorem dv_int {n : Nat} (h : n < 2 ^ 31) : Dv (FP.i2d (nI n)) false (n * Jvm.FP.Core.one64) := by
  rw [i2d_nI h]
  exact dv_l2d (by omega)
theorem val_quot {n m : Nat} (hn : n < 2 ^ 31) (hm : m < 2 ^ 31) (hm0 : 0 < m) : Jvm.FP.Core.val64 (FP.ddiv (FP.i2d (nI n)) (FP.i2d (nI m))) = Jvm.FP.Core.roundRatio Jvm.FP.Core.b64 false n m 0 := by
  have da := dv_int hn
  have db := dv_int hm
  have fa := Jvm.FP.Core.val64_fits (FP.i2d (nI n))
  have fb := Jvm.FP.Core.val64_fits (FP.i2d (nI m))
  obtain ⟨c, q, h1, h2⟩ := da
  obtain ⟨d, r, h3, h4⟩ := db
  rw [h1] at fa
  rw [h3] at fb
  have g1 := fa.2.1
  have g2 := fb.2.1
  rw [dv_qmin] at g1 g2
  have e := Jvm.FP.Core.val64_ddiv (FP.i2d (nI n)) (FP.i2d (nI m))
  rw [h1, h3] at e
  have hd : d ≠ 0 := fun z => by
    rw [z] at h4
    unfold Jvm.FP.Core.inUnits at h4
    rw [Nat.zero_mul] at h4
    have := Nat.mul_pos hm0 Jvm.FP.Core.one64_pos
    omega
  have e2 : Jvm.FP.Core.quotient Jvm.FP.Core.b64 (.fin false c q) (.fin false d r) = Jvm.FP.Core.roundRatio Jvm.FP.Core.b64 false c d (q - r) := by
    unfold Jvm.FP.Core.quotient
    dsimp only
    rw [if_neg hd]; rfl
  refine (e.trans e2).trans (Jvm.FP.Core.roundRatio_congr (by omega) hm0 ?_)
  unfold Jvm.FP.Core.inUnits at h2 h4
  have hx : c * m * 2 ^ (q - -1074).toNat = n * d * 2 ^ (r - -1074).toNat := by
    refine Nat.eq_of_mul_eq_mul_right Jvm.FP.Core.one64_pos ?_
    rw [ac4a, ac4b, h2, h4]
  by_cases hqr : r ≤ q
  · rw [show (0 - (q - r)).toNat = 0 by omega, Nat.pow_zero, Nat.mul_one]
    have e3 : 2 ^ (q - -1074).toNat = 2 ^ (q - r - 0).toNat * 2 ^ (r - -1074).toNat := by rw [← Nat.pow_add]; congr 1; omega
    rw [e3, ← Nat.mul_assoc] at hx
    exact Nat.eq_of_mul_eq_mul_right (Nat.two_pow_pos _) hx
  · rw [show (q - r - 0).toNat = 0 by omega, Nat.pow_zero, Nat.mul_one]
    have e3 : 2 ^ (r - -1074).toNat = 2 ^ (0 - (q - r)).toNat * 2 ^ (q - -1074).toNat := by rw [← Nat.pow_add]; congr 1; omega
    rw [e3, ← Nat.mul_assoc] at hx
    exact Nat.eq_of_mul_eq_mul_right (Nat.two_pow_pos _) hx
theorem dv_quot {n m : Nat} (hn : n ≤ 200) (hm : m ≤ 200) (hm4 : 4 ≤ m) : Dv (FP.ddiv (FP.i2d (nI n)) (FP.i2d (nI m))) false (Qv n m) :=
  dv_of_rr (val_quot (by omega) (by omega) (by omega)) (Nat.lt_of_le_of_lt (qv_le hn hm4) (one_small (by decide)))
theorem val_prod {f x : UInt64} {a b : Nat} (hf : Dv f false a) (hx : Dv x false b) : Jvm.FP.Core.val64 (FP.dmul f x) = Jvm.FP.Core.roundRatio Jvm.FP.Core.b64 false (a * b) 1 (-2148) := by
  have fa := Jvm.FP.Core.val64_fits f
  have fb := Jvm.FP.Core.val64_fits x
  have z1 := hf.zmag
  have z2 := hx.zmag
  have e := Jvm.FP.Core.val64_dmul f x
  obtain ⟨c, q, h1, -⟩ := hf
  obtain ⟨d, r, h3, -⟩ := hx
  rw [h1] at fa z1 e
  rw [h3] at fb z2 e
  obtain ⟨p1, p2, p3⟩ := Jvm.FP.Core.product_units fa fb
  rw [p1] at e
  rw [z1, z2] at p3
  have e2 := Jvm.FP.Core.round_inUnits (f := Jvm.FP.Core.b64) (false != false) (c * d) (q := q + r) (e := 2 * Jvm.FP.Core.b64.qmin) p2
  rw [p3] at e2
  refine (e.trans e2.symm).trans ?_
  rw [show 2 * Jvm.FP.Core.b64.qmin = -2148 by decide]
  rfl
theorem dv_prod {f x : UInt64} {a b : Nat} (hf : Dv f false a) (hx : Dv x false b) (ha : a ≤ 50 * Jvm.FP.Core.one64) (hb : b ≤ 50 * Jvm.FP.Core.one64) : Dv (FP.dmul f x) false (Pv a b) :=
  dv_of_rr (val_prod hf hx) (Nat.lt_of_le_of_lt (pv_le ha hb) (one_small (by decide)))
theorem val_diff {a b : UInt64} {u v : Nat} (ha : Dv a false u) (hb : Dv b false v) (h : v < u) : Jvm.FP.Core.val64 (FP.dsub a b) = Jvm.FP.Core.roundRatio Jvm.FP.Core.b64 false (u - v) 1 (-1074) ∧ Jvm.FP.Core.val64 (FP.dsub b a) = Jvm.FP.Core.roundRatio Jvm.FP.Core.b64 true (u - v) 1 (-1074) := by
  have fa := Jvm.FP.Core.val64_fits a
  have fb := Jvm.FP.Core.val64_fits b
  have za := ha.zval
  have zb := hb.zval
  have e1 := Jvm.FP.Core.val64_dsub a b
  have e2 := Jvm.FP.Core.val64_dsub b a
  obtain ⟨c, q, h1, -⟩ := ha
  obtain ⟨d, r, h3, -⟩ := hb
  rw [h1] at fa za e1 e2
  rw [h3] at fb zb e1 e2
  have hpos : 0 < u - v := by omega
  constructor
  · obtain ⟨sg, N, E, s1, s2, s3⟩ := Jvm.FP.Core.sum_units fa (Jvm.FP.Core.negate_fits fb)
    have s1' : Jvm.FP.Core.exactSum (.fin false c q) (Jvm.FP.Core.negate (.fin false d r)) = .fin sg N E := s1
    have s3' : Jvm.FP.Core.signed sg (Jvm.FP.Core.inUnits N E Jvm.FP.Core.b64.qmin) = Jvm.FP.Core.zval Jvm.FP.Core.b64 (.fin false c q) + Jvm.FP.Core.zval Jvm.FP.Core.b64 (Jvm.FP.Core.negate (.fin false d r)) := s3
    rw [Jvm.FP.Core.zval_negate, za, zb, sg_f, sg_f] at s3'
    obtain ⟨t1, -⟩ := Jvm.FP.Core.signed_ge_pos (k := u - v) hpos (by rw [s3']; omega)
    subst t1
    rw [sg_f] at s3'
    have s4 : Jvm.FP.Core.inUnits N E Jvm.FP.Core.b64.qmin = u - v := by omega
    rw [s1'] at e1
    have e3 := Jvm.FP.Core.round_inUnits (f := Jvm.FP.Core.b64) false N (q := E) (e := Jvm.FP.Core.b64.qmin) s2
    rw [s4] at e3
    refine (e1.trans e3.symm).trans ?_
    rw [dv_qmin]; rfl
  · obtain ⟨sg, N, E, s1, s2, s3⟩ := Jvm.FP.Core.sum_units fb (Jvm.FP.Core.negate_fits fa)
    have s1' : Jvm.FP.Core.exactSum (.fin false d r) (Jvm.FP.Core.negate (.fin false c q)) = .fin sg N E := s1
    have s3' : Jvm.FP.Core.signed sg (Jvm.FP.Core.inUnits N E Jvm.FP.Core.b64.qmin) = Jvm.FP.Core.zval Jvm.FP.Core.b64 (.fin false d r) + Jvm.FP.Core.zval Jvm.FP.Core.b64 (Jvm.FP.Core.negate (.fin false c q)) := s3
    rw [Jvm.FP.Core.zval_negate, za, zb, sg_f, sg_f] at s3'
    obtain ⟨t1, -⟩ := Jvm.FP.Core.signed_le_neg (k := u - v) hpos (by rw [s3']; omega)
    subst t1
    rw [sg_t] at s3'
    have s4 : Jvm.FP.Core.inUnits N E Jvm.FP.Core.b64.qmin = u - v := by omega
    rw [s1'] at e2
    have e3 := Jvm.FP.Core.round_inUnits (f := Jvm.FP.Core.b64) true N (q := E) (e := Jvm.FP.Core.b64.qmin) s2
    rw [s4] at e3
    refine (e2.trans e3.symm).trans ?_
    rw [dv_qmin]; rfl
theorem rr_diff_lt {a : UInt64} {u v : Nat} (ha : Dv a false u) : rr (u - v) 1 (-1074) ≤ u ∧ rr (u - v) 1 (-1074) < 2 ^ 53 * 2 ^ 2045 := by
  obtain ⟨h1, h2⟩ := rr_self ha
  have h3 : rr (u - v) 1 (-1074) ≤ rr u 1 (-1074) := rr_mono (by decide) (by decide) (by omega)
  rw [h1] at h3
  exact ⟨h3, Nat.lt_of_le_of_lt h3 h2⟩
/-- how far two numbers are, for the class -/
theorem f_distance {x aim : UInt64} {v a : Nat} (hx : Dv x false v) (ha : Dv aim false a) : ∃ r, f_X10_distance x aim = some r ∧ Dv r false (Dd v a) := by
  unfold f_X10_distance Dd
  rcases Nat.lt_trichotomy v a with h | h | h
  · rw [if_pos h]
    have e := (val_diff ha hx h).2
    obtain ⟨-, b2⟩ := rr_diff_lt (v := v) ha
    -- the negative of what is below 0
    have hneg : Jvm.FP.Core.val64 (FP.dneg (FP.dsub x aim)) = Jvm.FP.Core.roundRatio Jvm.FP.Core.b64 false (a - v) 1 (-1074) := by
      rw [val64_jneg, e, Jvm.FP.Core.negate_roundRatio]; rfl
    have d1 := dv_of_rr hneg b2
    have d2 : Dv (FP.dsub x aim) true (rr (a - v) 1 (-1074)) := by
      obtain ⟨c, q, h1, h2⟩ := d1
      rw [val64_jneg] at h1
      refine ⟨c, q, ?_, h2⟩
      have := congrArg Jvm.FP.Core.negate h1
      rw [Jvm.FP.Core.negate_negate] at this
      exact this
    rw [grd_t d2.n64]
    by_cases c : 0 ≤ Op.cmpValue (FP.dcmp (FP.dsub x aim) FP.dconst0) .g
    · rw [if_pos c]
      rw [cv_ge d2.dz dv_zero.dz, sg_t, sg_f] at c
      -- it is no zero: but even so its size is 0 then
      exfalso
      have hpos : 0 < rr (a - v) 1 (-1074) := by
        have h1 : rr 1 1 (-1074) = 1 * 2 ^ 0 := rr_sized (by decide) (by decide) (by
          rw [show ((-1074 : Int) + 1074).toNat = 0 by decide, show (-((-1074 : Int) + 1074)).toNat = 0 by decide])
        have h2 : rr 1 1 (-1074) ≤ rr (a - v) 1 (-1074) := rr_mono (by decide) (by decide) (by omega)
        rw [h1] at h2
        omega
      omega
    · rw [if_neg c]
      exact ⟨_, rfl, d1⟩
  · subst h
    rw [if_neg (Nat.lt_irrefl _), Nat.sub_self, rr_zero]
    have e := hx.inj ha
    subst e
    have hs : FP.dsub x x = FP.dconst0 := by
      obtain ⟨c, q, h1, -⟩ := hx
      exact Jvm.FP.Core.dsub_self h1
    rw [hs, grd_t dv_zero.n64, if_pos ((cv_ge dv_zero.dz dv_zero.dz).mpr (Int.le_refl _))]
    exact ⟨_, rfl, dv_zero⟩
  · rw [if_neg (show ¬ v < a by omega)]
    have e := (val_diff hx ha h).1
    obtain ⟨-, b2⟩ := rr_diff_lt (v := a) hx
    have d1 := dv_of_rr e b2
    rw [grd_t d1.n64, if_pos ((cv_ge d1.dz dv_zero.dz).mpr (by rw [sg_f, sg_f]; omega))]
    exact ⟨_, rfl, d1⟩
theorem qv_n {n n' m : Nat} (hm : 0 < m) (h : n ≤ n') : Qv n m ≤ Qv n' m := rr_mono hm hm (Nat.mul_le_mul_right _ h)
theorem qv_m {n m m' : Nat} (hm : 0 < m) (h : m ≤ m') : Qv n m' ≤ Qv n m := rr_mono (by omega) hm (Nat.mul_le_mul_left _ h)
theorem pv_b {a b b' : Nat} (h : b ≤ b') : Pv a b ≤ Pv a b' := rr_mono (by decide) (by decide) (by rw [Nat.mul_one, Nat.mul_one]; exact Nat.mul_le_mul_left _ h)
theorem dd_up {v v' a : Nat} (h1 : a < v) (h2 : v ≤ v') : Dd v a ≤ Dd v' a := by
  unfold Dd
  rw [if_neg (by omega), if_neg (by omega)]
  exact rr_mono (by decide) (by decide) (by omega)
theorem dd_down {v v' a : Nat} (h1 : v ≤ a) (h2 : v' ≤ v) : Dd v a ≤ Dd v' a := by
  unfold Dd
  by_cases c1 : v < a
  · rw [if_pos c1, if_pos (by omega)]
    exact rr_mono (by decide) (by decide) (by omega)
  · rw [if_neg c1, show v - a = 0 by omega, rr_zero]
    exact Nat.zero_le _
