theorem made_178_zero {n : Nat} {x0 e9 : Int32} : b_X12_made_178 n x0 7 53 (-1074) (lN 0) e9 = some (lN (if x0 = 0 then 0 else 2 ^ 63)) := by
  have e1 : (1 : Int64) <<< ((53 : Int32).toInt64 &&& 63) = lN (2 ^ 53) := by decide
  have e2 : (1 : Int64) <<< (((53 : Int32) - (1 : Int32)).toInt64 &&& 63) = lN (2 ^ 52) := by decide
  unfold b_X12_made_178 b_X12_made_197
  rw [e1, e2, if_neg (by decide), if_pos (by decide), made_269 (by decide), Nat.add_zero]
theorem made_67_neg {n : Nat} {x0 v4 v5 v6 e : Int32} {M d : Nat} (hM : 0 < M) (hd : d ≤ 63) (h : M * 2 ^ d < 2 ^ 63) : b_X12_made_67 n x0 v4 v5 v6 (lN M) e (-nI d) = b_X12_made_178 n x0 v4 v5 v6 (lN (M * 2 ^ d)) (e + -nI d) := by
  have hM64 : M < 2 ^ 63 := Nat.lt_of_le_of_lt (Nat.le_mul_of_pos_right M (Nat.two_pow_pos d)) h
  have hz : -nI d ≤ -nI 0 := (sb_nle (a := d) (b := 0) (by omega) (by decide)).mpr (Nat.zero_le _)
  have c2 : -nI d ≤ (0 : Int32) := hz
  have c1 : -nI d ≤ (63 : Int32) := Int32.le_trans c2 (by decide)
  have c3 : ¬ lN M = (0 : Int64) := fun z => by
    have := (lN_inj (a := M) (b := 0) (by omega) (by decide)).mp z
    omega
  have e1 : -(-nI d) = nI d := Int32.neg_neg
  unfold b_X12_made_67
  rw [if_pos c1, if_pos c2, if_neg c3, e1, lN_shl (by omega) (by omega)]
