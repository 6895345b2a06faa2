/-! small ints as whole numbers -/
theorem i32_add {x y : Int32} (h : -2147483648 ≤ x.toInt + y.toInt) (h2 : x.toInt + y.toInt < 2147483648) : (x + y).toInt = x.toInt + y.toInt := by
  rw [Int32.toInt_add]; exact Int.bmod_eq_of_le (by omega) (by omega)
theorem i32_sub {x y : Int32} (h : -2147483648 ≤ x.toInt - y.toInt) (h2 : x.toInt - y.toInt < 2147483648) : (x - y).toInt = x.toInt - y.toInt := by
  rw [Int32.toInt_sub]; exact Int.bmod_eq_of_le (by omega) (by omega)
theorem i32_nI {x : Int32} {d : Nat} (h : x.toInt = (d : Int)) (hd : d < 2 ^ 31) : x = nI d := Int32.toInt_inj.mp (by rw [h, nI_toInt hd])
theorem i32_neg {x : Int32} {d : Nat} (h : x.toInt = -(d : Int)) (hd : d < 2 ^ 31) : x = -nI d := Int32.toInt_inj.mp (by rw [h, sb_negT hd])
theorem made_67_any0 {n : Nat} {x0 e v : Int32} : b_X12_made_67 n x0 7 53 (-1074) (lN 0) e v = some (lN (if x0 = 0 then 0 else 2 ^ 63)) := by
  by_cases h1 : v ≤ (63 : Int32)
  · by_cases h2 : v ≤ 0
    · unfold b_X12_made_67
      rw [if_pos h1, if_pos h2, if_pos (show lN 0 = 0 from rfl), made_178_zero]
    · rw [Int32.le_iff_toInt_le] at h1 h2
      have e63 : (63 : Int32).toInt = 63 := by decide
      have e0 : (0 : Int32).toInt = 0 := by decide
      rw [e63] at h1
      rw [e0] at h2
      obtain ⟨d, hd⟩ : ∃ d : Nat, v.toInt = (d : Int) := ⟨v.toInt.toNat, by omega⟩
      rw [i32_nI hd (by omega), made_67_pos (by decide) (by omega) (by omega)]
      have : Jvm.FP.Core.nearest 0 (2 ^ d) = 0 := by
        have hp := Nat.two_pow_pos d
        unfold Jvm.FP.Core.nearest
        rw [Nat.zero_mod, Nat.zero_div, if_pos (by omega)]
      rw [this, made_178_zero]
  · unfold b_X12_made_67
    rw [if_neg h1]
    exact made_178_zero
