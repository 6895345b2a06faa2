/-! powerOf: the search in the table -/
theorem L_powerOf {n : Nat} {g : Gs} (hT : Tb g) {x : UInt64} {u : Nat} (hx : Dv x false u) (hu : u ≠ 0) : ∀ (f k lo hi : Nat), 12 - k < f → k ≤ 12 → lo < hi → hi ≤ 2098 → 2 ^ lo ≤ u → u < 2 ^ hi → hi - lo ≤ 2 ^ (12 - k) → L_X6_powerOf n f g x (nI lo) (nI hi) (nI k) = some (nI u.log2 + (-1074 : Int32))
  | 0, _, _, _, h, _, _, _, _, _, _ => absurd h (Nat.not_lt_zero _)
  | f + 1, k, lo, hi, hf, hk, hlh, hh, h1, h2, hg => by
    have hlog : hi - lo ≤ 1 → u.log2 = lo := by
      intro h
      have hh1 : hi = lo + 1 := by omega
      subst hh1
      apply Nat.le_antisymm
      · have := (Nat.log2_lt hu).mpr h2; omega
      · exact (Nat.le_log2 hu).mpr h1
    show h_X6_powerOf_10 n (L_X6_powerOf n f) g x (nI lo) (nI hi) (nI k) = _
    unfold h_X6_powerOf_10
    by_cases c1 : (12 : Int32) ≤ nI k
    · have hk12 : k = 12 := by
        have := (nI_leI (a := 12) (b := k) (by decide) (by omega)).mp c1
        omega
      subst hk12
      rw [if_pos c1, hlog (by simpa using hg)]
    · rw [if_neg c1]
      have hk12 : k < 12 := by
        rcases Nat.lt_or_ge k 12 with h | h
        · exact h
        · exact absurd ((nI_leI (a := 12) (b := k) (by decide) (by omega)).mpr h) c1
      rw [pk_sub (by omega)]
      by_cases c2 : nI (hi - lo) ≤ (1 : Int32)
      · rw [if_pos c2, hlog ((nI_leI (b := 1) (by omega) (by decide)).mp c2)]
      · rw [if_neg c2]
        have hgap : 1 < hi - lo := by
          rcases Nat.lt_or_ge 1 (hi - lo) with h | h
          · exact h
          · exact absurd ((nI_leI (b := 1) (by omega) (by decide)).mpr h) c2
        have em : ((nI lo + nI hi).toUInt32 >>> ((1 : Int32).toUInt32 &&& Int32.toUInt32 31)).toInt32 = nI ((lo + hi) / 2) := by
          rw [nI_add]
          exact pk_ushrN (by omega) 1 1 (by decide)
        have b1 : inB (nI ((lo + hi) / 2)) 2098 = true := decide_eq_true (nI_in (by omega) (by decide))
        have hpk : 2 ^ (12 - k) = 2 * 2 ^ (12 - (k + 1)) := by
          rw [show 12 - k = (12 - (k + 1)) + 1 by omega, Nat.pow_succ]; omega
        rw [em, grd_t b1, nI_clamp (by omega)]
        unfold b_X6_powerOf_55
        rw [nI_1]
        by_cases c3 : 0 < Op.cmpValue (FP.dcmp (gDA g 0 ((lo + hi) / 2)) x) .g
        · rw [if_pos c3]
          rw [cv_gt (hT _ (by omega)).dz hx.dz, sg_f, sg_f] at c3
          exact L_powerOf hT hx hu f (k + 1) lo ((lo + hi) / 2) (by omega) (by omega) (by omega) (by omega) h1 (by omega) (by omega)
        · rw [if_neg c3]
          rw [cv_gt (hT _ (by omega)).dz hx.dz, sg_f, sg_f] at c3
          exact L_powerOf hT hx hu f (k + 1) ((lo + hi) / 2) hi (by omega) (by omega) (by omega) hh (by omega) h2 (by omega)
theorem log2_shape {c k : Nat} (hc : c ≠ 0) : (c * 2 ^ k).log2 = c.log2 + k := by
  have h1 := Nat.log2_self_le hc
  have h2 := Nat.lt_log2_self (n := c)
  have hz : c * 2 ^ k ≠ 0 := Nat.ne_of_gt (Nat.mul_pos (by omega) (Nat.two_pow_pos k))
  apply Nat.le_antisymm
  · have : (c * 2 ^ k).log2 < c.log2 + 1 + k := by
      rw [Nat.log2_lt hz, Nat.pow_add]
      exact Nat.mul_lt_mul_of_pos_right h2 (Nat.two_pow_pos k)
    omega
  · rw [Nat.le_log2 hz, Nat.pow_add]
    exact Nat.mul_le_mul_right _ h1
theorem f_powerOf {n : Nat} {g : Gs} (hn : 20 ≤ n) (hT : Tb g) {x : UInt64} {c k : Nat} (hx : Dv x false (c * 2 ^ k)) (hc0 : c ≠ 0) (hc : c < 2 ^ 53) (hk : k ≤ 2045) : ∃ e, f_X6_powerOf n g x = some e ∧ e.toInt = (c.log2 : Int) + k - 1074 := by
  have hz : c * 2 ^ k ≠ 0 := Nat.ne_of_gt (Nat.mul_pos (by omega) (Nat.two_pow_pos k))
  have hl : c.log2 < 53 := (Nat.log2_lt hc0).mpr hc
  have hlt : c * 2 ^ k < 2 ^ 2098 := by
    have h1 : c * 2 ^ k < 2 ^ 53 * 2 ^ k := Nat.mul_lt_mul_of_pos_right hc (Nat.two_pow_pos k)
    rw [← Nat.pow_add] at h1
    exact Nat.lt_of_lt_of_le h1 (Nat.pow_le_pow_right (by decide) (by omega))
  refine ⟨nI (c * 2 ^ k).log2 + (-1074 : Int32), L_powerOf hT hx hz n 0 0 2098 (by omega) (by decide) (by decide) (by decide) (by rw [Nat.pow_zero]; omega) hlt (by decide), ?_⟩
  have tl : (-1074 : Int32).toInt = -1074 := by decide
  rw [log2_shape hc0]
  have t2 : (nI (c.log2 + k)).toInt = ((c.log2 + k : Nat) : Int) := nI_toInt (by omega)
  rw [i32_add (by rw [t2, tl]; omega) (by rw [t2, tl]; omega), t2, tl]
  omega
/-- 2^52 <= c: its length is 53 -/
theorem log2_52 {c : Nat} (h1 : 2 ^ 52 ≤ c) (h2 : c < 2 ^ 53) : c.log2 = 52 := by
  have h0 : c ≠ 0 := by omega
  apply Nat.le_antisymm
  · have := (Nat.log2_lt h0).mpr h2; omega
  · exact (Nat.le_log2 h0).mpr h1
/-- what max (power, 1 - bias) is for a double, and max (power - 52, -1074) -/
theorem f_packed {n : Nat} {g : Gs} (hn : 20 ≤ n) (hT : Tb g) {x : UInt64} {s : Bool} {c k : Nat} (hx : Dv x s (c * 2 ^ k)) (hc : c < 2 ^ 53) (hk : k ≤ 2045) (hck : k = 0 ∨ 2 ^ 52 ≤ c) : f_X6_packed n g x 52 1023 = some (lN (k * 2 ^ 52 + c)) := by
  obtain ⟨y, y1, y2⟩ := f_sizeOf hx
  unfold f_X6_packed
  rw [bnd_s y1]
  by_cases hc0 : c = 0
  · have hk0 : k = 0 := by omega
    subst hc0 hk0
    rw [if_pos]
    · rfl
    · rw [cv_eq y2.dz dv_zero.dz, Nat.zero_mul]
  · have hz : c * 2 ^ k ≠ 0 := Nat.ne_of_gt (Nat.mul_pos (by omega) (Nat.two_pow_pos k))
    rw [if_neg]
    rotate_left
    · rw [cv_eq y2.dz dv_zero.dz, sg_f, sg_f]; omega
    obtain ⟨e, e1, e2⟩ := f_powerOf hn hT y2 hc0 hc hk
    rw [bnd_s e1]
    have hl : c.log2 < 53 := (Nat.log2_lt hc0).mpr hc
    have t1 : ((1 : Int32) - (1023 : Int32)).toInt = -1022 := by decide
    have hm : (if e < ((1 : Int32) - (1023 : Int32)) then ((1 : Int32) - (1023 : Int32)) else e).toInt = (k : Int) - 1022 := by
      split
      · rename_i h
        rw [Int32.lt_iff_toInt_lt, t1, e2] at h
        rw [t1]
        rcases hck with h3 | h3
        · omega
        · have := log2_52 h3 hc; omega
      · rename_i h
        rw [Int32.lt_iff_toInt_lt, t1, e2] at h
        rw [e2]
        rcases hck with h3 | h3
        · omega
        · have := log2_52 h3 hc; omega
    generalize (if e < ((1 : Int32) - (1023 : Int32)) then ((1 : Int32) - (1023 : Int32)) else e) = m at hm ⊢
    have t52 : (52 : Int32).toInt = 52 := by decide
    have hp : ((52 : Int32) - m).toInt = 1074 - (k : Int) := by
      rw [i32_sub (by rw [t52, hm]; omega) (by rw [t52, hm]; omega), t52, hm]; omega
    obtain ⟨r, r1, r2⟩ := f_scaled hT (l := 1074) hp (by omega) (by omega) y2 hc hk (by omega) (by decide)
    rw [bnd_s r1, dv_d2l_exact r2 (by omega)]
    have hm2 : (m + (1023 : Int32)) - (1 : Int32) = nI k := by
      have t3 : (1023 : Int32).toInt = 1023 := by decide
      have t4 : (1 : Int32).toInt = 1 := by decide
      have a : (m + (1023 : Int32)).toInt = (k : Int) + 1 := by
        rw [i32_add (by rw [hm, t3]; omega) (by rw [hm, t3]; omega), hm, t3]; omega
      refine i32_nI ?_ (by omega)
      rw [i32_sub (by rw [a, t4]; omega) (by rw [a, t4]; omega), a, t4]; omega
    rw [hm2, nI_l (by omega)]
    have e5 : lN k <<< ((52 : Int32).toInt64 &&& 63) = lN (k * 2 ^ 52) := lN_shl (n := k) (k := 52) (by decide) (by omega)
    rw [e5, lN_add]
/-- bits is the identity -/
theorem f_bits {n : Nat} {g : Gs} (hn : 20 ≤ n) (hT : Tb g) {x : UInt64} {s : Bool} {u : Nat} (hx : Dv x s u) : f_X6_bits n g x = some x.toInt64 := by
  obtain ⟨c, k, h1, h2, h3, h4, h5⟩ := hx.shape
  subst h1
  unfold f_X6_bits
  rw [bnd_s (f_packed hn hT hx h2 h3 h4), bnd_s (f_isNegative hx)]
  have e : uL x.toInt64 = x.toNat := rfl
  cases s with
  | false =>
    rw [if_pos (show sgB false = 0 by decide)]
    refine congrArg some (uL_inj ?_)
    rw [uL_or, uL_lN (by omega), e, h5]
    simp [show uL (0 : Int64) = 0 from rfl]
  | true =>
    rw [if_neg (show ¬ sgB true = 0 by decide)]
    refine congrArg some (uL_inj ?_)
    rw [uL_or, uL_lN (by omega), e, h5, show uL (-9223372036854775808 : Int64) = 2 ^ 63 from rfl, Nat.or_comm]
    have := Nat.two_pow_add_eq_or_of_lt (i := 63) (b := k * 2 ^ 52 + c) (by omega) 1
    rw [Nat.mul_one] at this
    rw [← this]
    simp
theorem ushr_field (x : Int64) : ((((x.toUInt64 >>> ((52 : Int32).toInt64.toUInt64 &&& Int64.toUInt64 63)).toInt64) &&& (2047 : Int64)).toInt32) = nI (uL x / 2 ^ 52 % 2 ^ 11) := by
  have h1 : ((x.toUInt64 >>> ((52 : Int32).toInt64.toUInt64 &&& Int64.toUInt64 63)).toInt64) &&& (2047 : Int64) = lN (uL x / 2 ^ 52 % 2 ^ 11) := by
    apply uL_inj
    rw [uL_mask _ 11 (by decide), uL_ushr x 52 _ (by decide) (by decide), uL_lN (by omega)]
  rw [h1, lN_i]
/-- realOf is the identity -/
theorem f_realOf {g : Gs} (hT : Tb g) {x : Int64} {s : Bool} {u : Nat} (hx : Dv x.toUInt64 s u) : f_X6_realOf g 7 x = some x.toUInt64 := by
  obtain ⟨c, k, h1, h2, h3, h4, h5⟩ := hx.shape
  have hxu : uL x = (if s = true then 2 ^ 63 else 0) + (k * 2 ^ 52 + c) := h5
  have hs : (if s = true then 2 ^ 63 else 0 : Nat) = 2 ^ 63 ∨ (if s = true then 2 ^ 63 else 0 : Nat) = 0 := by cases s <;> simp
  have hf : uL x / 2 ^ 52 % 2 ^ 11 = if c < 2 ^ 52 then 0 else k + 1 := by
    split <;> omega
  have ht : x &&& (4503599627370495 : Int64) = lN (if c < 2 ^ 52 then c else c - 2 ^ 52) := by
    apply uL_inj
    rw [uL_mask x 52 (by decide), uL_lN (by split <;> omega)]
    split <;> omega
  have hun : ∃ r, f_X6_unpacked g (x &&& (4503599627370495 : Int64)) (nI (uL x / 2 ^ 52 % 2 ^ 11)) 52 1023 = some r ∧ Dv r false u := by
    have t3 : (1023 : Int32).toInt = 1023 := by decide
    have t52 : (52 : Int32).toInt = 52 := by decide
    have fin : ∀ m : Int32, m.toInt = (k : Int) + 1 → ∃ r, f_X6_scaled g (FP.l2d (lN c)) ((m - (1023 : Int32)) - (52 : Int32)) = some r ∧ Dv r false u := by
      intro m hm
      have a1 : (m - (1023 : Int32)).toInt = (k : Int) - 1022 := by
        rw [i32_sub (by rw [hm, t3]; omega) (by rw [hm, t3]; omega), hm, t3]; omega
      have a2 : ((m - (1023 : Int32)) - (52 : Int32)).toInt = (k : Int) - 1074 := by
        rw [i32_sub (by rw [a1, t52]; omega) (by rw [a1, t52]; omega), a1, t52]; omega
      rw [h1]
      exact f_scaled hT (k := 1074) (l := k) a2 (by omega) (by omega) (dv_l2d h2) h2 (by decide) (by omega) h3
    unfold f_X6_unpacked b_X6_unpacked_14
    rw [hf, ht]
    by_cases hc : c < 2 ^ 52
    · have hk : k = 0 := by omega
      rw [if_pos hc, if_pos hc, if_pos (show nI 0 = 0 by decide)]
      obtain ⟨r, r1, r2⟩ := fin (if nI 0 < (1 : Int32) then (1 : Int32) else nI 0) (by rw [if_pos (by decide), hk]; decide)
      exact ⟨r, bnd_s r1, r2⟩
    · rw [if_neg hc, if_neg hc, if_neg (nI_ne0 (by omega) (by omega))]
      have e1 : lN (c - 2 ^ 52) + ((1 : Int64) <<< ((52 : Int32).toInt64 &&& 63)) = lN c := by
        rw [show (1 : Int64) <<< ((52 : Int32).toInt64 &&& 63) = lN (2 ^ 52) by decide, lN_add]
        congr 1; omega
      have e2 : (if nI (k + 1) < (1 : Int32) then (1 : Int32) else nI (k + 1)) = nI (k + 1) := if_neg (show ¬ nI (k + 1) < (1 : Int32) from nI_nlt (b := 1) (by omega) (by omega))
      obtain ⟨r, r1, r2⟩ := fin (nI (k + 1)) (by rw [nI_toInt (by omega)]; omega)
      rw [e1, e2]
      exact ⟨r, bnd_s r1, r2⟩
  obtain ⟨r, r1, r2⟩ := hun
  unfold f_X6_realOf
  rw [if_pos rfl, ushr_field, bnd_s r1]
  cases s with
  | false =>
    rw [if_pos]
    · exact congrArg some (r2.inj hx)
    · rw [uL_le0_iff, hxu]; simp; omega
  | true =>
    rw [if_neg]
    · exact congrArg some ((dv_neg r2).inj hx)
    · rw [uL_le0_iff, hxu]; simp
