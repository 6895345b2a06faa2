theorem lead_one {M : Nat} (h : M ≠ 0) : Jvm.FP.Core.leading M 1 = (M.log2 : Int) := by
  unfold Jvm.FP.Core.leading
  have h1 : (1 : Nat).log2 = 0 := by decide
  rw [h1]
  have h2 := Nat.log2_self_le h
  have e1 : ((M.log2 : Int) - ((0 : Nat) : Int)).toNat = M.log2 := by omega
  have e2 : (-((M.log2 : Int) - ((0 : Nat) : Int))).toNat = 0 := by omega
  dsimp only
  rw [e1, e2, if_pos (by omega)]
  omega
theorem quant64 {M : Nat} (h : M ≠ 0) (E : Int) : Jvm.FP.Core.quantum Jvm.FP.Core.b64 M 1 E = max (-1074) ((lenN M : Int) - 53 + E) := by
  unfold Jvm.FP.Core.quantum
  rw [lead_one h, show Jvm.FP.Core.b64.qmin = -1074 by decide, show Jvm.FP.Core.b64.p = 53 from rfl]
  unfold lenN
  rw [if_neg h]
  congr 1
  omega
theorem lenN_bounds {M : Nat} (h : M ≠ 0) : 2 ^ (lenN M - 1) ≤ M ∧ M < 2 ^ lenN M := by
  unfold lenN
  rw [if_neg h, Nat.add_sub_cancel]
  exact ⟨Nat.log2_self_le h, Nat.lt_log2_self⟩
theorem f_made_67 {n M : Nat} {x0 e : Int32} {E : Int} (hn : 65 ≤ n) (hM0 : M ≠ 0) (hM : M < 2 ^ 63) (he : e.toInt = E) (h1 : -4000 ≤ E) (h2 : E ≤ 4000) : ∃ v : Int32, v.toInt = Jvm.FP.Core.quantum Jvm.FP.Core.b64 M 1 E - E ∧ f_X12_made n x0 (lN M) e 7 = b_X12_made_67 n x0 7 53 (-1074) (lN M) e v := by
  have hL : lenN M ≤ 64 := lenN_le (by omega)
  have t53 : (53 : Int32).toInt = 53 := by decide
  have tl : (-1074 : Int32).toInt = -1074 := by decide
  have tL : (nI (lenN M)).toInt = (lenN M : Int) := nI_toInt (by omega)
  have a1 : (nI (lenN M) - (53 : Int32)).toInt = (lenN M : Int) - 53 := by
    rw [i32_sub (by rw [tL, t53]; omega) (by rw [tL, t53]; omega), tL, t53]
  have a2 : (e + (nI (lenN M) - (53 : Int32))).toInt = E + ((lenN M : Int) - 53) := by
    rw [i32_add (by rw [a1, he]; omega) (by rw [a1, he]; omega), a1, he]
  have a3 : ((-1074 : Int32) - e).toInt = -1074 - E := by
    rw [i32_sub (by rw [tl, he]; omega) (by rw [tl, he]; omega), tl, he]
  rw [quant64 hM0]
  unfold f_X12_made b_X12_made_14 b_X12_made_32
  rw [if_neg (by decide), if_neg (by decide), f_lengthOf hn (by omega)]
  show ∃ v : Int32, _ ∧ (if (-1074 : Int32) ≤ e + (nI (lenN M) - (53 : Int32)) then _ else _) = _
  by_cases c : (-1074 : Int32) ≤ e + (nI (lenN M) - (53 : Int32))
  · refine ⟨nI (lenN M) - (53 : Int32), ?_, by rw [if_pos c]⟩
    rw [Int32.le_iff_toInt_le, tl, a2] at c
    rw [a1, Int.max_eq_right (by omega)]; omega
  · refine ⟨(-1074 : Int32) - e, ?_, by rw [if_neg c]⟩
    rw [Int32.le_iff_toInt_le, tl, a2] at c
    rw [a3, Int.max_eq_left (by omega)]
