/-! made: rounding by shifts is the rounding of the model -/
theorem nearest_pow (M : Nat) {d : Nat} (hd : 1 ≤ d) : Jvm.FP.Core.nearest M (2 ^ d) = if 2 ^ (d - 1) < M % 2 ^ d then M / 2 ^ d + 1 else if M % 2 ^ d = 2 ^ (d - 1) then (if M / 2 ^ d % 2 = 1 then M / 2 ^ d + 1 else M / 2 ^ d) else M / 2 ^ d := by
  have e : 2 ^ d = 2 * 2 ^ (d - 1) := by
    obtain ⟨k, rfl⟩ : ∃ k, d = k + 1 := ⟨d - 1, by omega⟩
    rw [Nat.pow_succ, Nat.add_sub_cancel]; omega
  unfold Jvm.FP.Core.nearest
  generalize M % 2 ^ d = r at *
  generalize M / 2 ^ d = q at *
  generalize hP : 2 ^ d = P at *
  generalize 2 ^ (d - 1) = h at *
  subst e
  by_cases h1 : h < r
  · rw [if_neg (by omega), if_pos (by omega), if_pos h1]
  · rw [if_neg h1]
    by_cases h2 : r = h
    · rw [if_neg (by omega), if_neg (by omega), if_pos h2]
      split <;> omega
    · rw [if_pos (by omega), if_neg h2]
theorem made_67_pos {n : Nat} {x0 v4 v5 v6 e : Int32} {M d : Nat} (hM : M < 2 ^ 63) (hd : 1 ≤ d) (hd2 : d ≤ 63) : b_X12_made_67 n x0 v4 v5 v6 (lN M) e (nI d) = b_X12_made_178 n x0 v4 v5 v6 (lN (Jvm.FP.Core.nearest M (2 ^ d))) (e + nI d) := by
  have hM64 : M < 2 ^ 64 := by omega
  have hp : 2 ^ d ≤ 2 ^ 63 := Nat.pow_le_pow_right (by decide) hd2
  have hp0 : 0 < 2 ^ d := Nat.two_pow_pos d
  have hh : 2 ^ (d - 1) ≤ 2 ^ 62 := Nat.pow_le_pow_right (by decide) (by omega)
  have hlow : M % 2 ^ d < 2 ^ 63 := Nat.lt_of_lt_of_le (Nat.mod_lt _ hp0) hp
  have hq : M / 2 ^ d < 2 ^ 63 := Nat.lt_of_le_of_lt (Nat.div_le_self _ _) hM
  have c1 : nI d ≤ (63 : Int32) := (nI_leI (a := d) (b := 63) (by omega) (by decide)).mpr hd2
  have c2 : ¬ nI d ≤ 0 := nI_nle (by omega) (by omega)
  have e1 : (1 : Int64) <<< ((nI d).toInt64 &&& 63) = lN (2 ^ d) := by
    have := lN_shl (n := 1) (k := d) (by omega) (by omega)
    rw [Nat.one_mul] at this; exact this
  have e0 : nI d - (1 : Int32) = nI (d - 1) := pk_sub (a := d) (b := 1) hd
  have e2 : (1 : Int64) <<< ((nI d - (1 : Int32)).toInt64 &&& 63) = lN (2 ^ (d - 1)) := by
    have := lN_shl (n := 1) (k := d - 1) (by omega) (by omega)
    rw [Nat.one_mul] at this; rw [e0]; exact this
  have e3 : lN (2 ^ d) - (1 : Int64) = lN (2 ^ d - 1) := lN_sub (a := 2 ^ d) (b := 1) hp0
  have e4 : lN M &&& lN (2 ^ d - 1) = lN (M % 2 ^ d) := lN_and hM64 d (uL_lN (by omega))
  have e5 : ((lN M).toUInt64 >>> ((nI d).toInt64.toUInt64 &&& Int64.toUInt64 63)).toInt64 = lN (M / 2 ^ d) := lN_ushr (by omega) hM64
  have e6 : lN (M / 2 ^ d) &&& (1 : Int64) = lN (M / 2 ^ d % 2) := lN_and (by omega) 1 (m := 1) (by decide)
  have e7 : (lN (M / 2 ^ d % 2) = (1 : Int64)) ↔ M / 2 ^ d % 2 = 1 := lN_inj (b := 1) (by omega) (by decide)
  unfold b_X12_made_67 b_X12_made_147 b_X12_made_153
  rw [if_pos c1, if_neg c2, e1, e2, e3, e4, e5, e6, nearest_pow M hd]
  by_cases h1 : 2 ^ (d - 1) < M % 2 ^ d
  · rw [if_pos ((pk_lLT (by omega) hlow).mpr h1), if_pos h1, lN_1]
  · rw [if_neg (fun z => h1 ((pk_lLT (by omega) hlow).mp z)), if_neg h1]
    by_cases h2 : M % 2 ^ d = 2 ^ (d - 1)
    · rw [if_pos ((pk_lEQ hlow (by omega)).mpr h2), if_pos h2]
      by_cases h3 : M / 2 ^ d % 2 = 1
      · rw [if_pos (e7.mpr h3), if_pos h3, lN_1]
      · rw [if_neg (fun z => h3 (e7.mp z)), if_neg h3]
    · rw [if_neg (fun z => h2 ((pk_lEQ hlow (by omega)).mp z)), if_neg h2]
theorem made_269 {n : Nat} {x0 : Int32} {t : Nat} (ht : t < 2 ^ 63) : b_X12_made_269 n x0 7 (lN t) = some (lN ((if x0 = 0 then 0 else 2 ^ 63) + t)) := by
  have e1 : lN t ||| (0 : Int64) = lN t := by
    apply uL_inj; rw [uL_or, show uL (0 : Int64) = 0 from rfl, Nat.or_zero]
  have e2 : lN t ||| (-9223372036854775808 : Int64) = lN (2 ^ 63 + t) := by
    apply uL_inj
    rw [uL_or, show uL (-9223372036854775808 : Int64) = 2 ^ 63 from rfl, uL_lN (by omega), uL_lN (by omega), Nat.or_comm]
    have := Nat.two_pow_add_eq_or_of_lt (i := 63) ht 1
    rw [Nat.mul_one] at this
    exact this.symm
  unfold b_X12_made_269
  rw [if_neg (by decide), e1, e2]
  by_cases h : x0 = 0
  · rw [if_pos h, if_pos h, Nat.zero_add]
  · rw [if_neg h, if_neg h]
theorem made_197 {n : Nat} {x0 e9 : Int32} {c k : Nat} (hc : c < 2 ^ 53) (hk : k < 2 ^ 30) (he : e9 - (-1074 : Int32) = nI k) : b_X12_made_197 n x0 7 53 (-1074) (lN c) e9 = some (if c < 2 ^ 52 then lN ((if x0 = 0 then 0 else 2 ^ 63) + c) else if k + 1 < 2047 then lN ((if x0 = 0 then 0 else 2 ^ 63) + ((k + 1) * 2 ^ 52 + (c - 2 ^ 52))) else 9223372036854775807) := by
  have e1 : (1 : Int64) <<< (((53 : Int32) - (1 : Int32)).toInt64 &&& 63) = lN (2 ^ 52) := by decide
  have e2 : lN (2 ^ 52) - (1 : Int64) = lN (2 ^ 52 - 1) := by decide
  have e3 : lN c &&& lN (2 ^ 52 - 1) = lN (c % 2 ^ 52) := lN_and (by omega) 52 (uL_lN (by decide))
  unfold b_X12_made_197 b_X12_made_240
  rw [e1, he, nI_1, e2, e3]
  by_cases h1 : c < 2 ^ 52
  · rw [if_pos ((pk_lLT (by omega) (by decide)).mpr h1), if_pos h1, made_269 (by omega)]
  · rw [if_neg (fun z => h1 ((pk_lLT (by omega) (by decide)).mp z)), if_neg h1, if_neg (by decide)]
    by_cases h2 : k + 1 < 2047
    · have e4 : (nI (k + 1)).toInt64 <<< (((53 : Int32) - (1 : Int32)).toInt64 &&& 63) = lN ((k + 1) * 2 ^ 52) := by
        rw [nI_l (by omega)]
        exact lN_shl (n := k + 1) (k := 52) (by decide) (by omega)
      have e5 : lN ((k + 1) * 2 ^ 52) ||| lN (c % 2 ^ 52) = lN ((k + 1) * 2 ^ 52 + (c - 2 ^ 52)) := by
        have h3 : c % 2 ^ 52 = c - 2 ^ 52 := by omega
        apply uL_inj
        rw [uL_or, uL_lN (by omega), uL_lN (by omega), uL_lN (by omega), h3]
        have := Nat.two_pow_add_eq_or_of_lt (i := 52) (b := c - 2 ^ 52) (by omega) (k + 1)
        rw [Nat.mul_comm] at this
        exact this.symm
      rw [if_pos (show nI (k + 1) < (2047 : Int32) from (nI_ltI (b := 2047) (by omega) (by decide)).mpr h2), if_pos h2, e4, e5, made_269 (by omega)]
    · rw [if_neg (show ¬ nI (k + 1) < (2047 : Int32) from fun z => h2 ((nI_ltI (b := 2047) (by omega) (by decide)).mp z)), if_neg h2]
/-- the bits of a rounded number, or OVER -/
def bitsOr (s : Bool) (d : Jvm.FP.Core.Datum) : Int64 := match d with
  | .fin _ c q => lN (Jvm.FP.Core.encode Jvm.FP.Core.b64 (.fin s c q))
  | _ => 9223372036854775807
theorem enc_fin (s : Bool) (c k : Nat) : Jvm.FP.Core.encode Jvm.FP.Core.b64 (.fin s c ((k : Int) - 1074)) = (if s = true then 2 ^ 63 else 0) + (if c < 2 ^ 52 then c else (k + 1) * 2 ^ 52 + (c - 2 ^ 52)) := by
  have h1 : Jvm.FP.Core.b64.tails = 2 ^ 52 := by decide
  have h2 : Jvm.FP.Core.b64.exps = 2 ^ 11 := by decide
  have h3 : Jvm.FP.Core.b64.qmin = -1074 := by decide
  unfold Jvm.FP.Core.encode Jvm.FP.Core.assemble
  rw [h1, h2, h3]
  have h4 : ((k : Int) - 1074 - -1074).toNat = k := by omega
  dsimp only
  rw [h4]
  by_cases hc : c < 2 ^ 52
  · rw [if_pos hc, if_pos hc]; cases s <;> simp
  · rw [if_neg hc, if_neg hc]; cases s <;> simp <;> omega
theorem made_178 {n : Nat} {x0 e9 : Int32} {c k : Nat} (hc : c ≤ 2 ^ 53) (hn : c < 2 ^ 52 → k = 0) (hk : k < 2 ^ 29) (he : e9 - (-1074 : Int32) = nI k) : b_X12_made_178 n x0 7 53 (-1074) (lN c) e9 = some (bitsOr (decide (¬ x0 = 0)) (Jvm.FP.Core.settle Jvm.FP.Core.b64 false c ((k : Int) - 1074))) := by
  have e1 : (1 : Int64) <<< ((53 : Int32).toInt64 &&& 63) = lN (2 ^ 53) := by decide
  have hp : Jvm.FP.Core.b64.p = 53 := rfl
  have hq : Jvm.FP.Core.b64.qmax = 971 := by decide
  have ht : Jvm.FP.Core.b64.tails = 2 ^ 52 := by decide
  have hs : (if decide (¬ x0 = 0) = true then 2 ^ 63 else 0 : Nat) = (if x0 = 0 then 0 else 2 ^ 63) := by
    by_cases h : x0 = 0 <;> simp [h]
  unfold b_X12_made_178 Jvm.FP.Core.settle Jvm.FP.Core.bound
  rw [e1, hp, hq, ht]
  by_cases h1 : c = 2 ^ 53
  · subst h1
    have e2 : lN (2 ^ 53) >>> ((1 : Int32).toInt64 &&& 63) = lN (2 ^ 52) := by decide
    have he' : e9 + (1 : Int32) - (-1074 : Int32) = nI (k + 1) := by
      rw [← nI_1, ← he, Int32.sub_eq_add_neg, Int32.sub_eq_add_neg, Int32.add_assoc, Int32.add_assoc, Int32.add_comm (1 : Int32)]
    rw [if_pos rfl, e2, made_197 (by decide) (by omega) he', if_neg (Nat.lt_irrefl (2 ^ 52)), if_neg (Nat.lt_irrefl (2 ^ 53))]
    by_cases h2 : k + 1 + 1 < 2047
    · rw [if_pos h2, if_pos (show (k : Int) - 1074 + 1 ≤ 971 by omega)]
      show _ = some (lN (Jvm.FP.Core.encode Jvm.FP.Core.b64 (.fin (decide (¬ x0 = 0)) (2 ^ 52) ((k : Int) - 1074 + 1))))
      rw [show (k : Int) - 1074 + 1 = ((k + 1 : Nat) : Int) - 1074 by omega, enc_fin, if_neg (Nat.lt_irrefl (2 ^ 52)), hs]
    · rw [if_neg h2, if_neg (show ¬ (k : Int) - 1074 + 1 ≤ 971 by omega)]; rfl
  · rw [if_neg (fun z => h1 ((pk_lEQ (by omega) (by decide)).mp z)), made_197 (by omega) (by omega) he, if_pos (show c < 2 ^ 53 by omega)]
    by_cases h2 : c < 2 ^ 52
    · rw [if_pos h2]
      by_cases h3 : (k : Int) - 1074 ≤ 971
      · rw [if_pos h3]
        show _ = some (lN (Jvm.FP.Core.encode Jvm.FP.Core.b64 (.fin (decide (¬ x0 = 0)) c ((k : Int) - 1074))))
        rw [enc_fin, if_pos h2, hs]
      · exact absurd (hn h2) (by omega)
    · rw [if_neg h2]
      by_cases h3 : k + 1 < 2047
      · rw [if_pos h3, if_pos (show (k : Int) - 1074 ≤ 971 by omega)]
        show _ = some (lN (Jvm.FP.Core.encode Jvm.FP.Core.b64 (.fin (decide (¬ x0 = 0)) c ((k : Int) - 1074))))
        rw [enc_fin, if_neg h2, hs]
      · rw [if_neg h3, if_neg (show ¬ (k : Int) - 1074 ≤ 971 by omega)]; rfl
