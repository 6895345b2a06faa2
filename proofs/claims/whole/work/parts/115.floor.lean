/-! the class's floor, ceil and rint -/
theorem dv_sub {a b : UInt64} {u v c k : Nat} (ha : Dv a false u) (hb : Dv b false v) (hc : c < 2 ^ 53) (hk : k ≤ 2045) (he : u = v + c * 2 ^ k) : Dv (FP.dsub a b) false (c * 2 ^ k) := by
  by_cases h0 : c = 0
  · subst h0
    rw [Nat.zero_mul, Nat.add_zero] at he
    subst he
    have e := ha.inj hb
    subst e
    rw [Nat.zero_mul]
    obtain ⟨c, q, h1, -⟩ := ha
    have : FP.dsub a a = FP.dconst0 := Jvm.FP.Core.dsub_self h1
    rw [this]
    exact dv_zero
  · have hp : 0 < c * 2 ^ k := Nat.mul_pos (by omega) (Nat.two_pow_pos k)
    have hfa := Jvm.FP.Core.val64_fits a
    have hfb := Jvm.FP.Core.val64_fits b
    have za := ha.zval
    have zb := hb.zval
    have hv := Jvm.FP.Core.val64_dsub a b
    obtain ⟨c1, q1, a1, a2⟩ := ha
    obtain ⟨c2, q2, b1, b2⟩ := hb
    rw [a1] at hfa za hv
    rw [b1] at hfb zb hv
    obtain ⟨sg, N, E, s1, s2, s3⟩ := Jvm.FP.Core.sum_units hfa (Jvm.FP.Core.negate_fits hfb)
    have zn : Jvm.FP.Core.zval Jvm.FP.Core.b64 (Jvm.FP.Core.negate (.fin false c2 q2)) = -Jvm.FP.Core.zval Jvm.FP.Core.b64 (.fin false c2 q2) := Jvm.FP.Core.zval_negate _ _
    have s1' : Jvm.FP.Core.exactSum (.fin false c1 q1) (Jvm.FP.Core.negate (.fin false c2 q2)) = .fin sg N E := s1
    have s3' : Jvm.FP.Core.signed sg (Jvm.FP.Core.inUnits N E Jvm.FP.Core.b64.qmin) = ((c * 2 ^ k : Nat) : Int) := by
      have t : Jvm.FP.Core.signed sg (Jvm.FP.Core.inUnits N E Jvm.FP.Core.b64.qmin) = Jvm.FP.Core.zval Jvm.FP.Core.b64 (.fin false c1 q1) + Jvm.FP.Core.zval Jvm.FP.Core.b64 (Jvm.FP.Core.negate (.fin false c2 q2)) := s3
      rw [t, zn, za, zb, sg_f, sg_f]; omega
    obtain ⟨r1, r2⟩ := Jvm.FP.Core.signed_ge_pos (k := c * 2 ^ k) hp (by rw [s3']; omega)
    subst r1
    rw [sg_f] at s3'
    rw [s1'] at hv
    rw [dv_qmin] at s2 s3'
    unfold Jvm.FP.Core.inUnits at s3'
    refine Dv.round hv hc hk ?_
    rw [show (-(E + 1074)).toNat = 0 by omega, Nat.pow_zero, Nat.mul_one]
    have : N * 2 ^ (E - -1074).toNat = c * 2 ^ k := Int.ofNat.inj s3'
    rw [← this]
    congr 2
theorem dv_l2d_neg {m : Nat} (h : m < 2 ^ 53) (h0 : m ≠ 0) : Dv (FP.l2d (-lN m)) true (m * Jvm.FP.Core.one64) := by
  have h2 : Jvm.FP.Core.val64 (FP.l2d (-lN m)) = Jvm.FP.Core.round Jvm.FP.Core.b64 (.fin true m 0) := by
    have := Jvm.FP.Core.val64_l2d (-lN m)
    rw [neg_lN (by omega)] at this
    have e : Jvm.FP.Core.ofInt (-(m : Int)) = .fin true m 0 := by
      unfold Jvm.FP.Core.ofInt
      rw [show decide (-(m : Int) < 0) = true from decide_eq_true (by omega), Int.natAbs_neg, Int.natAbs_natCast]
    rw [e] at this
    exact this
  refine Dv.round (k := 1074) h2 h (by decide) ?_
  rw [show ((0 : Int) + 1074).toNat = 1074 by decide, show (-((0 : Int) + 1074)).toNat = 0 by decide, Nat.pow_zero, Nat.mul_one]
theorem dv_two52 : Dv (4841369599423283200 : UInt64) false (2 ^ 52 * Jvm.FP.Core.one64) := ⟨2 ^ 52, 0, by decide +kernel, by
  unfold Jvm.FP.Core.inUnits Jvm.FP.Core.one64
  rw [show ((0 : Int) - -1074).toNat = 1074 by decide]⟩
theorem dv_half : Dv (4602678819172646912 : UInt64) false (2 ^ 1073) := dv_consth
/-- below 2^52 the shift is below 1074 -/
theorem small_k {c k : Nat} (h : c * 2 ^ k < 2 ^ 52 * Jvm.FP.Core.one64) (hck : k = 0 ∨ 2 ^ 52 ≤ c) : k < 1074 := by
  rcases Nat.lt_or_ge k 1074 with h1 | h1
  · exact h1
  · exfalso
    rcases hck with h2 | h2
    · omega
    · have e := pow_one64 h1
      have a : Jvm.FP.Core.one64 ≤ 2 ^ k := by
        rw [e]
        exact Nat.le_mul_of_pos_left _ (Nat.two_pow_pos _)
      have := Nat.mul_le_mul h2 a
      omega
/-- from 2^52 on all is whole -/
theorem big_whole {c k : Nat} (h : ¬ c * 2 ^ k < 2 ^ 52 * Jvm.FP.Core.one64) (hc : c < 2 ^ 53) : ∃ q, c * 2 ^ k = q * Jvm.FP.Core.one64 := by
  have hk : 1074 ≤ k := by
    rcases Nat.lt_or_ge k 1074 with h1 | h1
    · exfalso
      apply h
      have e : 2 ^ 52 * Jvm.FP.Core.one64 = 2 ^ 53 * (2 ^ (1073 - k) * 2 ^ k) := by
        unfold Jvm.FP.Core.one64
        rw [← Nat.pow_add, ← Nat.pow_add, ← Nat.pow_add]; congr 1; omega
      rw [e]
      have a : 2 ^ k ≤ 2 ^ (1073 - k) * 2 ^ k := Nat.le_mul_of_pos_left _ (Nat.two_pow_pos _)
      exact Nat.lt_of_lt_of_le (Nat.mul_lt_mul_of_pos_right hc (Nat.two_pow_pos k)) (Nat.mul_le_mul_left _ a)
    · exact h1
  refine ⟨c * 2 ^ (k - 1074), ?_⟩
  rw [Nat.mul_assoc, ← pow_one64 hk]
theorem dv_d2l_neg {x : UInt64} {u m : Nat} (h : Dv x true u) (hm : u / Jvm.FP.Core.one64 = m) (h2 : m < 2 ^ 63) : FP.d2l x = -lN m := by
  apply Int64.toInt_inj.mp
  have := Jvm.FP.Core.d2l_val h.ne_nan
  rw [h.sgn', h.zmag, hm, sg_t] at this
  have e : (FP.d2l x).toInt = _ := this
  rw [e, neg_lN h2]
  omega
theorem evm_0 (s : Bool) (u : Nat) : evm 0 s u = (decide (u % Jvm.FP.Core.one64 ≠ 0) && s) := by
  unfold evm
  rw [if_neg (show ¬ (0 : Nat) = 2 by decide), if_pos (show (0 : Nat) = 0 from rfl)]
theorem evm_1 (s : Bool) (u : Nat) : evm 1 s u = (decide (u % Jvm.FP.Core.one64 ≠ 0) && !s) := by
  unfold evm
  rw [if_neg (show ¬ (1 : Nat) = 2 by decide), if_neg (show ¬ (1 : Nat) = 0 by decide)]
theorem evm_2 (s : Bool) (u : Nat) : evm 2 s u = decide (Jvm.FP.Core.one64 < 2 * (u % Jvm.FP.Core.one64) ∨ 2 * (u % Jvm.FP.Core.one64) = Jvm.FP.Core.one64 ∧ u / Jvm.FP.Core.one64 % 2 = 1) := by
  unfold evm
  rw [if_pos (show (2 : Nat) = 2 from rfl)]
theorem evn_0t (u : Nat) : evn 0 true u = if u % Jvm.FP.Core.one64 = 0 then u / Jvm.FP.Core.one64 else u / Jvm.FP.Core.one64 + 1 := by
  unfold evn
  rw [evm_0, Bool.and_true]
  by_cases h : u % Jvm.FP.Core.one64 = 0
  · rw [if_pos h, show decide (u % Jvm.FP.Core.one64 ≠ 0) = false from decide_eq_false (fun z => z h)]; rfl
  · rw [if_neg h, show decide (u % Jvm.FP.Core.one64 ≠ 0) = true from decide_eq_true h]; rfl
theorem evn_0f (u : Nat) : evn 0 false u = u / Jvm.FP.Core.one64 := by
  unfold evn
  rw [evm_0, Bool.and_false]; rfl
theorem evn_1 (s : Bool) (u : Nat) : evn 1 s u = evn 0 (!s) u := by
  unfold evn
  rw [evm_0, evm_1]
theorem floor_dz {q : Nat} (hq : q < 2 ^ 52) : ∃ t, Dv (FP.l2d (-lN q)) t (q * Jvm.FP.Core.one64) ∧ (q ≠ 0 → t = true) := by
  by_cases hq0 : q = 0
  · refine ⟨false, ?_, fun z => absurd hq0 z⟩
    have e : -lN q = lN q := by rw [hq0]; decide
    rw [e]
    exact dv_l2d (by omega)
  · exact ⟨true, dv_l2d_neg (by omega) hq0, fun _ => rfl⟩
theorem floor_less {q : Nat} (hq : q < 2 ^ 52) : FP.dsub (FP.l2d (-lN q)) FP.dconst1 = FP.l2d (-lN (q + 1)) := by
  have e3 : FP.dconst1 = FP.l2d (lN 1) := by decide +kernel
  have sm : Jvm.FP.Core.Small53 (-lN q) := by
    unfold Jvm.FP.Core.Small53
    rw [neg_lN (by omega)]; omega
  have sm1 : Jvm.FP.Core.Small53 (lN 1) := by unfold Jvm.FP.Core.Small53; decide
  have e4 : FP.dsub (FP.l2d (-lN q)) (FP.l2d (lN 1)) = FP.l2d (-lN q - lN 1) := Jvm.FP.Core.dsub_l2d sm sm1
  have e5 : -lN q - lN 1 = -lN (q + 1) := by
    apply Int64.toInt_inj.mp
    have t1 : (lN 1).toInt = 1 := by decide
    rw [Jvm.FP.Core.int64_sub (by rw [neg_lN (by omega), t1]; omega) (by rw [neg_lN (by omega), t1]; omega), neg_lN (by omega), neg_lN (by omega), t1]; omega
  rw [e3, e4, e5]
theorem floor_neg {x : UInt64} {u q : Nat} (h : Dv x true u) (hu : u ≠ 0) (hqe : u / Jvm.FP.Core.one64 = q) (hq : q < 2 ^ 52) : ∃ r, (if (Op.cmpValue (FP.dcmp (FP.l2d (-lN q)) x) .l) ≤ 0 then (some (FP.l2d (-lN q))) else (grd (n64 (FP.dsub (FP.l2d (-lN q)) FP.dconst1)) (some (FP.dsub (FP.l2d (-lN q)) FP.dconst1)))) = some r ∧ Dv r true (evn 0 true u * Jvm.FP.Core.one64) := by
  have hmod := Nat.mod_lt u Jvm.FP.Core.one64_pos
  have hdm := Nat.div_add_mod u Jvm.FP.Core.one64
  rw [Nat.mul_comm, hqe] at hdm
  obtain ⟨t, d1, d2⟩ := floor_dz hq
  have dz1 : Dz (FP.l2d (-lN q)) (-((q * Jvm.FP.Core.one64 : Nat) : Int)) := by
    have dd := d1.dz
    have hz : Jvm.FP.Core.signed t (q * Jvm.FP.Core.one64) = -((q * Jvm.FP.Core.one64 : Nat) : Int) := by
      by_cases hq0 : q = 0
      · rw [hq0, Nat.zero_mul, Jvm.FP.Core.signed_zero]; decide
      · rw [d2 hq0, sg_t]
    rw [hz] at dd
    exact dd
  rw [evn_0t, hqe]
  by_cases hr : u % Jvm.FP.Core.one64 = 0
  · rw [if_pos hr]
    rw [hr, Nat.add_zero] at hdm
    have hq0 : q ≠ 0 := fun z => hu (by rw [← hdm, z, Nat.zero_mul])
    have c : Op.cmpValue (FP.dcmp (FP.l2d (-lN q)) x) .l ≤ 0 := by
      rw [cv_le dz1 h.dz, sg_t, hdm]; exact Int.le_refl _
    refine ⟨FP.l2d (-lN q), if_pos c, ?_⟩
    rw [d2 hq0] at d1
    exact d1
  · rw [if_neg hr]
    have c : ¬ Op.cmpValue (FP.dcmp (FP.l2d (-lN q)) x) .l ≤ 0 := by
      rw [cv_le dz1 h.dz, sg_t]
      generalize q * Jvm.FP.Core.one64 = A at hdm ⊢
      generalize u % Jvm.FP.Core.one64 = B at hdm hr ⊢
      omega
    have d3 := dv_l2d_neg (m := q + 1) (by omega) (by omega)
    rw [floor_less hq]
    exact ⟨FP.l2d (-lN (q + 1)), (if_neg c).trans (grd_t d3.n64), d3⟩
theorem floor_pos {x : UInt64} {u q : Nat} (h : Dv x false u) (hqe : u / Jvm.FP.Core.one64 = q) (hq : q < 2 ^ 52) : ∃ r, (if (Op.cmpValue (FP.dcmp (FP.l2d (lN q)) x) .l) ≤ 0 then (some (FP.l2d (lN q))) else (grd (n64 (FP.dsub (FP.l2d (lN q)) FP.dconst1)) (some (FP.dsub (FP.l2d (lN q)) FP.dconst1)))) = some r ∧ Dv r false (evn 0 false u * Jvm.FP.Core.one64) := by
  have hdm := Nat.div_add_mod u Jvm.FP.Core.one64
  rw [Nat.mul_comm, hqe] at hdm
  have d1 := dv_l2d (m := q) (by omega)
  have c : Op.cmpValue (FP.dcmp (FP.l2d (lN q)) x) .l ≤ 0 := by
    rw [cv_le d1.dz h.dz, sg_f, sg_f]
    generalize q * Jvm.FP.Core.one64 = A at hdm ⊢
    generalize u % Jvm.FP.Core.one64 = B at hdm ⊢
    omega
  refine ⟨FP.l2d (lN q), if_pos c, ?_⟩
  rw [evn_0f, hqe]; exact d1
theorem f_floorOf {x : UInt64} {s : Bool} {u : Nat} (h : Dv x s u) : ∃ r, f_X6_floorOf x = some r ∧ Dv r s (evn 0 s u * Jvm.FP.Core.one64) := by
  obtain ⟨y, y1, y2⟩ := f_sizeOf h
  obtain ⟨c, k, h1, h2, h3, h4, -⟩ := h.shape
  unfold f_X6_floorOf
  rw [bnd_s y1]
  by_cases c1 : 0 ≤ Op.cmpValue (FP.dcmp y (4841369599423283200 : UInt64)) .l
  · rw [if_pos c1]
    rw [cv_ge y2.dz dv_two52.dz, sg_f, sg_f] at c1
    obtain ⟨q, hq⟩ := big_whole (c := c) (k := k) (by rw [← h1]; exact fun z => absurd (Int.ofNat_le.mp c1) (Nat.not_le.mpr z)) h2
    refine ⟨x, rfl, ?_⟩
    rw [h1, hq, evn_mul, ← hq, ← h1]
    exact h
  · rw [if_neg c1]
    rw [cv_ge y2.dz dv_two52.dz, sg_f, sg_f] at c1
    by_cases c2 : Op.cmpValue (FP.dcmp x FP.dconst0) .l = 0
    · rw [if_pos c2]
      rw [cv_eq h.dz dv_zero.dz, sg_f] at c2
      have hu : u = 0 := (Jvm.FP.Core.signed_eq_zero s u).mp c2
      refine ⟨x, rfl, ?_⟩
      have e1 : u = 0 * Jvm.FP.Core.one64 := by rw [hu, Nat.zero_mul]
      rw [e1, evn_mul, ← e1]
      exact h
    · rw [if_neg c2]
      rw [cv_eq h.dz dv_zero.dz, sg_f] at c2
      have hu : u ≠ 0 := fun z => c2 (by rw [z]; exact Jvm.FP.Core.signed_zero s)
      have hult : u < 2 ^ 52 * Jvm.FP.Core.one64 := Nat.lt_of_not_le (fun z => c1 (Int.ofNat_le.mpr z))
      have hq : u / Jvm.FP.Core.one64 < 2 ^ 52 := (Nat.div_lt_iff_lt_mul Jvm.FP.Core.one64_pos).mpr hult
      obtain ⟨q, hqe⟩ : ∃ q, u / Jvm.FP.Core.one64 = q := ⟨_, rfl⟩
      rw [hqe] at hq
      cases s with
      | false =>
        rw [dv_d2l h hqe (by omega)]
        exact floor_pos h hqe hq
      | true =>
        rw [dv_d2l_neg h hqe (by omega)]
        exact floor_neg h hu hqe hq
theorem f_ceilOf {x : UInt64} {s : Bool} {u : Nat} (h : Dv x s u) : ∃ r, f_X6_ceilOf x = some r ∧ Dv r s (evn 1 s u * Jvm.FP.Core.one64) := by
  obtain ⟨r, r1, r2⟩ := f_floorOf (dv_neg h)
  unfold f_X6_ceilOf
  rw [bnd_s r1]
  refine ⟨_, rfl, ?_⟩
  rw [evn_1]
  have := dv_neg r2
  rw [Bool.not_not] at this
  exact this
theorem one64_half : Jvm.FP.Core.one64 = 2 * 2 ^ 1073 := by
  unfold Jvm.FP.Core.one64
  rw [← Nat.pow_succ']
theorem f_rintOf {x : UInt64} {s : Bool} {u : Nat} (h : Dv x s u) : ∃ r, f_X6_rintOf x = some r ∧ Dv r s (evn 2 s u * Jvm.FP.Core.one64) := by
  obtain ⟨y, y1, y2⟩ := f_sizeOf h
  obtain ⟨c, k, h1, h2, h3, h4, -⟩ := h.shape
  unfold f_X6_rintOf
  rw [bnd_s y1]
  by_cases c1 : Op.cmpValue (FP.dcmp y (4841369599423283200 : UInt64)) .l < 0
  · rw [if_pos c1]
    rw [cv_lt y2.dz dv_two52.dz, sg_f, sg_f] at c1
    have hult : u < 2 ^ 52 * Jvm.FP.Core.one64 := by omega
    have hk := small_k (by rw [← h1]; exact hult) h4
    have hq : u / Jvm.FP.Core.one64 < 2 ^ 52 := (Nat.div_lt_iff_lt_mul Jvm.FP.Core.one64_pos).mpr hult
    have hdm := Nat.div_add_mod u Jvm.FP.Core.one64
    rw [Nat.mul_comm] at hdm
    obtain ⟨q, hqe⟩ : ∃ q, u / Jvm.FP.Core.one64 = q := ⟨_, rfl⟩
    have hmod : u % Jvm.FP.Core.one64 = c % 2 ^ (1074 - k) * 2 ^ k := by rw [h1, mod_one64 (by omega)]
    have e1 : FP.d2l y = lN q := dv_d2l y2 hqe (by omega)
    have d1 := dv_l2d (m := q) (by omega)
    have d2 : Dv (FP.dsub y (FP.l2d (lN q))) false (u % Jvm.FP.Core.one64) := by
      rw [hmod]
      refine dv_sub y2 d1 ?_ h3 (by rw [← hmod, ← hqe]; exact hdm.symm)
      have := Nat.mod_le c (2 ^ (1074 - k)); omega
    have fin : ∀ (m : Nat), m < 2 ^ 53 → ∃ r, b_X6_rintOf_74 x (lN m) = some r ∧ Dv r s (m * Jvm.FP.Core.one64) := by
      intro m hm
      unfold b_X6_rintOf_74
      rw [bnd_s (f_isNegative h)]
      cases s with
      | false => exact ⟨_, if_pos (by decide), dv_l2d hm⟩
      | true => exact ⟨_, if_neg (by decide), dv_neg (dv_l2d hm)⟩
    have up : ∃ r, b_X6_rintOf_53 x (lN q) = some r ∧ Dv r s ((q + 1) * Jvm.FP.Core.one64) := by
      unfold b_X6_rintOf_53 b_X6_rintOf_58
      rw [if_neg (by decide), lN_1]
      exact fin _ (by omega)
    have down : ∃ r, b_X6_rintOf_57 x (lN q) = some r ∧ Dv r s (q * Jvm.FP.Core.one64) := by
      unfold b_X6_rintOf_57 b_X6_rintOf_58
      rw [if_pos rfl]
      exact fin _ (by omega)
    have m5 : lN q &&& (1 : Int64) = lN (q % 2) := lN_and (by omega) 1 (m := 1) (by decide)
    have e2 : evn 2 s u = if (Jvm.FP.Core.one64 < 2 * (u % Jvm.FP.Core.one64) ∨ 2 * (u % Jvm.FP.Core.one64) = Jvm.FP.Core.one64 ∧ q % 2 = 1) then q + 1 else q := by
      unfold evn
      rw [evm_2, hqe]
      by_cases hh : (Jvm.FP.Core.one64 < 2 * (u % Jvm.FP.Core.one64) ∨ 2 * (u % Jvm.FP.Core.one64) = Jvm.FP.Core.one64 ∧ q % 2 = 1)
      · rw [if_pos hh, decide_eq_true hh]; rfl
      · rw [if_neg hh, decide_eq_false hh]; rfl
    rw [e1, grd_t d2.n64, e2]
    generalize hR : u % Jvm.FP.Core.one64 = R at d2 ⊢
    have o1 := one64_half
    generalize hH : (2 : Nat) ^ 1073 = H at o1
    have dh : Dv (4602678819172646912 : UInt64) false H := hH ▸ dv_half
    rw [o1]
    by_cases c2 : 0 < Op.cmpValue (FP.dcmp (FP.dsub y (FP.l2d (lN q))) (4602678819172646912 : UInt64)) .l
    · rw [if_pos c2]
      rw [cv_gt d2.dz dh.dz, sg_f, sg_f] at c2
      rw [if_pos (.inl (by omega)), ← o1]
      exact up
    · rw [if_neg c2]
      rw [cv_gt d2.dz dh.dz, sg_f, sg_f] at c2
      by_cases c3 : Op.cmpValue (FP.dcmp (FP.dsub y (FP.l2d (lN q))) (4602678819172646912 : UInt64)) .l = 0
      · rw [if_pos c3, m5]
        rw [cv_eq d2.dz dh.dz, sg_f, sg_f] at c3
        by_cases c4 : q % 2 = 1
        · rw [if_neg (fun z => by have := (lN_inj (b := 0) (by omega) (by decide)).mp z; omega), if_pos (.inr ⟨by omega, c4⟩), ← o1]
          exact up
        · rw [if_pos (show lN (q % 2) = 0 by rw [show q % 2 = 0 by omega]; rfl), if_neg (by omega), ← o1]
          exact down
      · rw [if_neg c3]
        rw [cv_eq d2.dz dh.dz, sg_f, sg_f] at c3
        rw [if_neg (by omega), ← o1]
        exact down
  · rw [if_neg c1]
    rw [cv_lt y2.dz dv_two52.dz, sg_f, sg_f] at c1
    obtain ⟨q, hq⟩ := big_whole (c := c) (k := k) (by rw [← h1]; omega) h2
    refine ⟨x, rfl, ?_⟩
    rw [h1, hq, evn_mul, ← hq, ← h1]
    exact h
