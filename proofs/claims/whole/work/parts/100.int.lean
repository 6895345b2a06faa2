/-! longs as numbers from 0 to 2^64 - 1 -/
def uL (a : Int64) : Nat := a.toBitVec.toNat
theorem uL_lt (a : Int64) : uL a < 2 ^ 64 := a.toBitVec.isLt
theorem uL_inj {a b : Int64} (h : uL a = uL b) : a = b := Int64.toBitVec_inj.mp (BitVec.eq_of_toNat_eq h)
theorem uL_u (a : Int64) : a.toUInt64.toNat = uL a := rfl
theorem uL_ofU (u : UInt64) : uL u.toInt64 = u.toNat := rfl
theorem uL_lN {n : Nat} (h : n < 2 ^ 64) : uL (lN n) = n := by
  show (BitVec.ofNat 64 n).toNat = n
  rw [BitVec.toNat_ofNat]; exact Nat.mod_eq_of_lt h
theorem lN_uL (a : Int64) : lN (uL a) = a := uL_inj (uL_lN (uL_lt a))
theorem uL_and (a b : Int64) : uL (a &&& b) = uL a &&& uL b := by
  show (a.toBitVec &&& b.toBitVec).toNat = _
  rw [BitVec.toNat_and]; rfl
theorem uL_or (a b : Int64) : uL (a ||| b) = uL a ||| uL b := by
  show (a.toBitVec ||| b.toBitVec).toNat = _
  rw [BitVec.toNat_or]; rfl
theorem uL_add (a b : Int64) : uL (a + b) = (uL a + uL b) % 2 ^ 64 := by
  show (a.toBitVec + b.toBitVec).toNat = _
  rw [BitVec.toNat_add]; rfl
theorem uL_sub (a b : Int64) : uL (a - b) = (2 ^ 64 - uL b + uL a) % 2 ^ 64 := by
  show (a.toBitVec - b.toBitVec).toNat = _
  rw [BitVec.toNat_sub]; rfl
theorem uL_mask (a : Int64) (k : Nat) {m : Int64} (hm : uL m = 2 ^ k - 1) : uL (a &&& m) = uL a % 2 ^ k := by
  rw [uL_and, hm, Nat.and_two_pow_sub_one_eq_mod]
theorem lN_and {n : Nat} (h : n < 2 ^ 64) (k : Nat) {m : Int64} (hm : uL m = 2 ^ k - 1) : lN n &&& m = lN (n % 2 ^ k) := by
  apply uL_inj
  have : n % 2 ^ k ≤ n := Nat.mod_le _ _
  rw [uL_mask _ k hm, uL_lN h, uL_lN (by omega)]
theorem uL_toInt (a : Int64) : a.toInt = if uL a < 2 ^ 63 then (uL a : Int) else (uL a : Int) - 2 ^ 64 := by
  show a.toBitVec.toInt = _
  rw [BitVec.toInt_eq_toNat_cond]
  unfold uL
  by_cases h : 2 * a.toBitVec.toNat < 2 ^ 64
  · rw [if_pos h, if_pos (by omega)]
  · rw [if_neg h, if_neg (by omega)]; rfl
theorem uL_neg_iff (a : Int64) : a < 0 ↔ 2 ^ 63 ≤ uL a := by
  rw [Int64.lt_iff_toInt_lt, uL_toInt]
  have h := uL_lt a
  have h0 : (0 : Int64).toInt = 0 := by decide
  rw [h0]
  split <;> omega
theorem uL_le0_iff (a : Int64) : 0 ≤ a ↔ uL a < 2 ^ 63 := by
  have h0 : (0 : Int64).toInt = 0 := by decide
  rw [Int64.le_iff_toInt_le, h0, uL_toInt]
  have h := uL_lt a
  split <;> omega
/-! shifts by a known number -/
theorem uL_ushr (a : Int64) (k : Nat) (s : UInt64) (hs : s.toNat = k) (hk : k < 64) : uL ((a.toUInt64 >>> s).toInt64) = uL a / 2 ^ k := by
  show (a.toUInt64 >>> s).toNat = _
  rw [UInt64.toNat_shiftRight, hs, Nat.mod_eq_of_lt hk, Nat.shiftRight_eq_div_pow]; rfl
theorem uL_shl (a : Int64) (k : Nat) (s : Int64) (hs : (s.toBitVec.smod 64).toNat = k) : uL (a <<< s) = uL a * 2 ^ k % 2 ^ 64 := by
  show (a.toBitVec <<< (s.toBitVec.smod 64)).toNat = _
  rw [BitVec.shiftLeft_eq', hs, BitVec.toNat_shiftLeft, Nat.shiftLeft_eq]; rfl
theorem toInt_shr (a : Int64) (k : Nat) (s : Int64) (hs : (s.toBitVec.smod 64).toNat = k) : (a >>> s).toInt = a.toInt >>> k := by
  show (a.toBitVec.sshiftRight' (s.toBitVec.smod 64)).toInt = _
  rw [BitVec.sshiftRight', hs, BitVec.toInt_sshiftRight]; rfl
theorem shU : ∀ k, k < 64 → ((nI k).toInt64.toUInt64 &&& Int64.toUInt64 63).toNat = k := by decide +kernel
theorem shS : ∀ k, k < 64 → (((nI k).toInt64 &&& 63).toBitVec.smod 64).toNat = k := by decide +kernel
theorem lN_shl {n k : Nat} (hk : k < 64) (h : n * 2 ^ k < 2 ^ 64) : lN n <<< ((nI k).toInt64 &&& 63) = lN (n * 2 ^ k) := by
  apply uL_inj
  have hn : n < 2 ^ 64 := Nat.lt_of_le_of_lt (Nat.le_mul_of_pos_right n (Nat.two_pow_pos k)) h
  rw [uL_shl _ k _ (shS k hk), uL_lN hn, uL_lN h, Nat.mod_eq_of_lt h]
theorem lN_ushr {n k : Nat} (hk : k < 64) (hn : n < 2 ^ 64) : ((lN n).toUInt64 >>> ((nI k).toInt64.toUInt64 &&& Int64.toUInt64 63)).toInt64 = lN (n / 2 ^ k) := by
  apply uL_inj
  have : n / 2 ^ k ≤ n := Nat.div_le_self _ _
  rw [uL_ushr _ k _ (shU k hk) hk, uL_lN hn, uL_lN (by omega)]
theorem lN_inj {a b : Nat} (ha : a < 2 ^ 64) (hb : b < 2 ^ 64) : lN a = lN b ↔ a = b := by
  constructor
  · intro h
    have := congrArg uL h
    rwa [uL_lN ha, uL_lN hb] at this
  · intro h; rw [h]
/-! lengthOf -/
theorem log2_half {n : Nat} (h : 2 ≤ n) : (n / 2).log2 + 1 = n.log2 := by
  have h1 : n / 2 ≠ 0 := by omega
  have h2 : n ≠ 0 := by omega
  have a1 := Nat.log2_self_le h1
  have a2 := Nat.lt_log2_self (n := n / 2)
  apply Nat.le_antisymm
  · rw [Nat.le_log2 h2, Nat.pow_succ]; omega
  · have : n < 2 ^ ((n / 2).log2 + 1 + 1) := by rw [Nat.pow_succ]; omega
    have := (Nat.log2_lt h2).mpr this
    omega
def lenN (n : Nat) : Nat := if n = 0 then 0 else n.log2 + 1
theorem lenN_half {n : Nat} (h : n ≠ 0) : lenN n = lenN (n / 2) + 1 := by
  unfold lenN
  rw [if_neg h]
  by_cases h2 : 2 ≤ n
  · rw [if_neg (by omega), log2_half h2]
  · have : n = 1 := by omega
    subst this; rfl
theorem L_lengthOf (n : Nat) : ∀ (k m c : Nat), m < 2 ^ 64 → lenN m < k → c + lenN m < 2 ^ 31 → L_X12_lengthOf n k (nI c) (lN m) = some (nI (c + lenN m))
  | 0, m, c, _, h, _ => absurd h (Nat.not_lt_zero _)
  | k + 1, m, c, hm, h, hc => by
    show h_X12_lengthOf_4 n (L_X12_lengthOf n k) (nI c) (lN m) = _
    unfold h_X12_lengthOf_4
    by_cases h0 : m = 0
    · subst h0
      rw [if_pos (show lN 0 = 0 from rfl)]; rfl
    · rw [if_neg (show ¬ lN m = 0 from fun e => h0 ((lN_inj hm (by decide)).mp (e : lN m = lN 0)))]
      have e1 : ((lN m).toUInt64 >>> ((1 : Int32).toInt64.toUInt64 &&& Int64.toUInt64 63)).toInt64 = lN (m / 2) := lN_ushr (k := 1) (by decide) hm
      rw [e1, nI_1]
      have h3 := lenN_half h0
      rw [L_lengthOf n k (m / 2) (c + 1) (by omega) (by omega) (by omega), h3]
      congr 2; omega
theorem lenN_le {m : Nat} (h : m < 2 ^ 64) : lenN m ≤ 64 := by
  unfold lenN
  split
  · omega
  · have := (Nat.log2_lt (by assumption)).mpr h
    omega
theorem f_lengthOf {n m : Nat} (hn : 65 ≤ n) (hm : m < 2 ^ 64) : f_X12_lengthOf n (lN m) = some (nI (lenN m)) := by
  have h1 := lenN_le hm
  have := L_lengthOf n n m 0 hm (by omega) (by omega)
  rw [Nat.zero_add] at this
  exact this
