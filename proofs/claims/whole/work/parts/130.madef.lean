/-! made for FLOAT: the same with 24 digits; the sign is carried through all 64 bits -/
theorem nI_toInt32 {m : Nat} (h : m < 2 ^ 32) : (nI m).toInt = if m < 2 ^ 31 then (m : Int) else (m : Int) - 2 ^ 32 := by
  have e : (nI m).toInt = (m : Int).bmod (2 ^ 32) := BitVec.toInt_ofNat ..
  rw [e, Int.bmod_def]
  split <;> split <;> omega
theorem f32_made_269 {n : Nat} {x0 : Int32} {t : Nat} (ht : t < 2 ^ 31) : b_X12_made_269 n x0 6 (lN t) = some (lN ((if x0 = 0 then 0 else 18446744071562067968) + t)) := by
  have e1 : ((lN t ||| (0 : Int64)).toInt32).toInt64 = lN t := by
    have : lN t ||| (0 : Int64) = lN t := by
      apply uL_inj; rw [uL_or, show uL (0 : Int64) = 0 from rfl, Nat.or_zero]
    rw [this, lN_i, nI_l ht]
  have e2 : ((lN t ||| (2147483648 : Int64)).toInt32).toInt64 = lN (18446744071562067968 + t) := by
    have : lN t ||| (2147483648 : Int64) = lN (2 ^ 31 + t) := by
      apply uL_inj
      rw [uL_or, show uL (2147483648 : Int64) = 2 ^ 31 from rfl, uL_lN (by omega), uL_lN (by omega), Nat.or_comm]
      have := Nat.two_pow_add_eq_or_of_lt (i := 31) ht 1
      rw [Nat.mul_one] at this
      exact this.symm
    rw [this, lN_i]
    apply Int64.toInt_inj.mp
    rw [Int32.toInt_toInt64, nI_toInt32 (by omega), uL_toInt, uL_lN (by omega), if_neg (by omega), if_neg (by omega)]
    omega
  unfold b_X12_made_269
  rw [if_pos rfl, e1, e2]
  by_cases h : x0 = 0
  · rw [if_pos h, if_pos h, Nat.zero_add]
  · rw [if_neg h, if_neg h]
theorem f32_made_197 {n : Nat} {x0 e9 : Int32} {c k : Nat} (hc : c < 2 ^ 24) (hk : k < 2 ^ 30) (he : e9 - (-149 : Int32) = nI k) : b_X12_made_197 n x0 6 24 (-149) (lN c) e9 = some (if c < 2 ^ 23 then lN ((if x0 = 0 then 0 else 18446744071562067968) + c) else if k + 1 < 255 then lN ((if x0 = 0 then 0 else 18446744071562067968) + ((k + 1) * 2 ^ 23 + (c - 2 ^ 23))) else 9223372036854775807) := by
  have e1 : (1 : Int64) <<< (((24 : Int32) - (1 : Int32)).toInt64 &&& 63) = lN (2 ^ 23) := by decide
  have e2 : lN (2 ^ 23) - (1 : Int64) = lN (2 ^ 23 - 1) := by decide
  have e3 : lN c &&& lN (2 ^ 23 - 1) = lN (c % 2 ^ 23) := lN_and (by omega) 23 (uL_lN (by decide))
  unfold b_X12_made_197 b_X12_made_240
  rw [e1, he, nI_1, e2, e3]
  by_cases h1 : c < 2 ^ 23
  · rw [if_pos ((pk_lLT (by omega) (by decide)).mpr h1), if_pos h1, f32_made_269 (by omega)]
  · rw [if_neg (fun z => h1 ((pk_lLT (by omega) (by decide)).mp z)), if_neg h1, if_pos rfl]
    by_cases h2 : k + 1 < 255
    · have e4 : (nI (k + 1)).toInt64 <<< (((24 : Int32) - (1 : Int32)).toInt64 &&& 63) = lN ((k + 1) * 2 ^ 23) := by
        rw [nI_l (by omega)]
        exact lN_shl (n := k + 1) (k := 23) (by decide) (by omega)
      have e5 : lN ((k + 1) * 2 ^ 23) ||| lN (c % 2 ^ 23) = lN ((k + 1) * 2 ^ 23 + (c - 2 ^ 23)) := by
        have h3 : c % 2 ^ 23 = c - 2 ^ 23 := by omega
        apply uL_inj
        rw [uL_or, uL_lN (by omega), uL_lN (by omega), uL_lN (by omega), h3]
        have := Nat.two_pow_add_eq_or_of_lt (i := 23) (b := c - 2 ^ 23) (by omega) (k + 1)
        rw [Nat.mul_comm] at this
        exact this.symm
      rw [if_pos (show nI (k + 1) < (255 : Int32) from (nI_ltI (b := 255) (by omega) (by decide)).mpr h2), if_pos h2, e4, e5, f32_made_269 (by omega)]
    · rw [if_neg (show ¬ nI (k + 1) < (255 : Int32) from fun z => h2 ((nI_ltI (b := 255) (by omega) (by decide)).mp z)), if_neg h2]
def f32_bitsOr (s : Bool) (d : Jvm.FP.Core.Datum) : Int64 := match d with
  | .fin _ c q => lN ((if s = true then 18446744071562067968 else 0) + Jvm.FP.Core.encode Jvm.FP.Core.b32 (.fin false c q))
  | _ => 9223372036854775807
theorem f32_enc_fin (c k : Nat) : Jvm.FP.Core.encode Jvm.FP.Core.b32 (.fin false c ((k : Int) - 149)) = (if c < 2 ^ 23 then c else (k + 1) * 2 ^ 23 + (c - 2 ^ 23)) := by
  have h1 : Jvm.FP.Core.b32.tails = 2 ^ 23 := by decide
  have h2 : Jvm.FP.Core.b32.exps = 2 ^ 8 := by decide
  have h3 : Jvm.FP.Core.b32.qmin = -149 := by decide
  unfold Jvm.FP.Core.encode Jvm.FP.Core.assemble
  rw [h1, h2, h3]
  have h4 : ((k : Int) - 149 - -149).toNat = k := by omega
  dsimp only
  rw [h4]
  by_cases hc : c < 2 ^ 23
  · rw [if_pos hc, if_pos hc]; simp
  · rw [if_neg hc, if_neg hc]; simp
theorem f32_made_178 {n : Nat} {x0 e9 : Int32} {c k : Nat} (hc : c ≤ 2 ^ 24) (hn : c < 2 ^ 23 → k = 0) (hk : k < 2 ^ 29) (he : e9 - (-149 : Int32) = nI k) : b_X12_made_178 n x0 6 24 (-149) (lN c) e9 = some (f32_bitsOr (decide (¬ x0 = 0)) (Jvm.FP.Core.settle Jvm.FP.Core.b32 false c ((k : Int) - 149))) := by
  have e1 : (1 : Int64) <<< ((24 : Int32).toInt64 &&& 63) = lN (2 ^ 24) := by decide
  have hp : Jvm.FP.Core.b32.p = 24 := rfl
  have hq : Jvm.FP.Core.b32.qmax = 104 := by decide
  have ht : Jvm.FP.Core.b32.tails = 2 ^ 23 := by decide
  have hs : (if decide (¬ x0 = 0) = true then 18446744071562067968 else 0 : Nat) = (if x0 = 0 then 0 else 18446744071562067968) := by
    by_cases h : x0 = 0 <;> simp [h]
  unfold b_X12_made_178 Jvm.FP.Core.settle Jvm.FP.Core.bound
  rw [e1, hp, hq, ht]
  by_cases h1 : c = 2 ^ 24
  · subst h1
    have e2 : lN (2 ^ 24) >>> ((1 : Int32).toInt64 &&& 63) = lN (2 ^ 23) := by decide
    have he' : e9 + (1 : Int32) - (-149 : Int32) = nI (k + 1) := by
      rw [← nI_1, ← he, Int32.sub_eq_add_neg, Int32.sub_eq_add_neg, Int32.add_assoc, Int32.add_assoc, Int32.add_comm (1 : Int32)]
    rw [if_pos rfl, e2, f32_made_197 (by decide) (by omega) he', if_neg (Nat.lt_irrefl (2 ^ 23)), if_neg (Nat.lt_irrefl (2 ^ 24))]
    by_cases h2 : k + 1 + 1 < 255
    · rw [if_pos h2, if_pos (show (k : Int) - 149 + 1 ≤ 104 by omega)]
      show _ = some (lN ((if decide (¬ x0 = 0) = true then 18446744071562067968 else 0) + Jvm.FP.Core.encode Jvm.FP.Core.b32 (.fin false (2 ^ 23) ((k : Int) - 149 + 1))))
      rw [show (k : Int) - 149 + 1 = ((k + 1 : Nat) : Int) - 149 by omega, f32_enc_fin, if_neg (Nat.lt_irrefl (2 ^ 23)), hs]
    · rw [if_neg h2, if_neg (show ¬ (k : Int) - 149 + 1 ≤ 104 by omega)]; rfl
  · rw [if_neg (fun z => h1 ((pk_lEQ (by omega) (by decide)).mp z)), f32_made_197 (by omega) (by omega) he, if_pos (show c < 2 ^ 24 by omega)]
    by_cases h2 : c < 2 ^ 23
    · rw [if_pos h2]
      by_cases h3 : (k : Int) - 149 ≤ 104
      · rw [if_pos h3]
        show _ = some (lN ((if decide (¬ x0 = 0) = true then 18446744071562067968 else 0) + Jvm.FP.Core.encode Jvm.FP.Core.b32 (.fin false c ((k : Int) - 149))))
        rw [f32_enc_fin, if_pos h2, hs]
      · exact absurd (hn h2) (by omega)
    · rw [if_neg h2]
      by_cases h3 : k + 1 < 255
      · rw [if_pos h3, if_pos (show (k : Int) - 149 ≤ 104 by omega)]
        show _ = some (lN ((if decide (¬ x0 = 0) = true then 18446744071562067968 else 0) + Jvm.FP.Core.encode Jvm.FP.Core.b32 (.fin false c ((k : Int) - 149))))
        rw [f32_enc_fin, if_neg h2, hs]
      · rw [if_neg h3, if_neg (show ¬ (k : Int) - 149 ≤ 104 by omega)]; rfl
theorem f32_made_178_zero {n : Nat} {x0 e9 : Int32} : b_X12_made_178 n x0 6 24 (-149) (lN 0) e9 = some (lN (if x0 = 0 then 0 else 18446744071562067968)) := by
  have e1 : (1 : Int64) <<< ((24 : Int32).toInt64 &&& 63) = lN (2 ^ 24) := by decide
  have e2 : (1 : Int64) <<< (((24 : Int32) - (1 : Int32)).toInt64 &&& 63) = lN (2 ^ 23) := by decide
  unfold b_X12_made_178 b_X12_made_197
  rw [e1, e2, if_neg (by decide), if_pos (by decide), f32_made_269 (by decide), Nat.add_zero]
theorem f32_made_67_any0 {n : Nat} {x0 e v : Int32} : b_X12_made_67 n x0 6 24 (-149) (lN 0) e v = some (lN (if x0 = 0 then 0 else 18446744071562067968)) := by
  by_cases h1 : v ≤ (63 : Int32)
  · by_cases h2 : v ≤ 0
    · unfold b_X12_made_67
      rw [if_pos h1, if_pos h2, if_pos (show lN 0 = 0 from rfl), f32_made_178_zero]
    · rw [Int32.le_iff_toInt_le] at h1 h2
      have e63 : (63 : Int32).toInt = 63 := by decide
      have e0 : (0 : Int32).toInt = 0 := by decide
      rw [e63] at h1
      rw [e0] at h2
      obtain ⟨d, hd⟩ : ∃ d : Nat, v.toInt = (d : Int) := ⟨v.toInt.toNat, by omega⟩
      rw [i32_nI hd (by omega), made_67_pos (by decide) (by omega) (by omega)]
      have : Jvm.FP.Core.nearest 0 (2 ^ d) = 0 := by
        have hp := Nat.two_pow_pos d
        unfold Jvm.FP.Core.nearest
        rw [Nat.zero_mod, Nat.zero_div, if_pos (by omega)]
      rw [this, f32_made_178_zero]
  · unfold b_X12_made_67
    rw [if_neg h1]
    exact f32_made_178_zero
theorem f32_quant64 {M : Nat} (h : M ≠ 0) (E : Int) : Jvm.FP.Core.quantum Jvm.FP.Core.b32 M 1 E = max (-149) ((lenN M : Int) - 24 + E) := by
  unfold Jvm.FP.Core.quantum
  rw [lead_one h, show Jvm.FP.Core.b32.qmin = -149 by decide, show Jvm.FP.Core.b32.p = 24 from rfl]
  unfold lenN
  rw [if_neg h]
  congr 1
  omega
theorem f32_f_made_67 {n M : Nat} {x0 e : Int32} {E : Int} (hn : 65 ≤ n) (hM0 : M ≠ 0) (hM : M < 2 ^ 63) (he : e.toInt = E) (h1 : -4000 ≤ E) (h2 : E ≤ 4000) : ∃ v : Int32, v.toInt = Jvm.FP.Core.quantum Jvm.FP.Core.b32 M 1 E - E ∧ f_X12_made n x0 (lN M) e 6 = b_X12_made_67 n x0 6 24 (-149) (lN M) e v := by
  have hL : lenN M ≤ 64 := lenN_le (by omega)
  have t24 : (24 : Int32).toInt = 24 := by decide
  have tl : (-149 : Int32).toInt = -149 := by decide
  have tL : (nI (lenN M)).toInt = (lenN M : Int) := nI_toInt (by omega)
  have a1 : (nI (lenN M) - (24 : Int32)).toInt = (lenN M : Int) - 24 := by
    rw [i32_sub (by rw [tL, t24]; omega) (by rw [tL, t24]; omega), tL, t24]
  have a2 : (e + (nI (lenN M) - (24 : Int32))).toInt = E + ((lenN M : Int) - 24) := by
    rw [i32_add (by rw [a1, he]; omega) (by rw [a1, he]; omega), a1, he]
  have a3 : ((-149 : Int32) - e).toInt = -149 - E := by
    rw [i32_sub (by rw [tl, he]; omega) (by rw [tl, he]; omega), tl, he]
  rw [f32_quant64 hM0]
  unfold f_X12_made b_X12_made_14 b_X12_made_32
  rw [if_pos rfl, if_pos rfl, f_lengthOf hn (by omega)]
  show ∃ v : Int32, _ ∧ (if (-149 : Int32) ≤ e + (nI (lenN M) - (24 : Int32)) then _ else _) = _
  by_cases c : (-149 : Int32) ≤ e + (nI (lenN M) - (24 : Int32))
  · refine ⟨nI (lenN M) - (24 : Int32), ?_, by rw [if_pos c]⟩
    rw [Int32.le_iff_toInt_le, tl, a2] at c
    rw [a1, Int.max_eq_right (by omega)]; omega
  · refine ⟨(-149 : Int32) - e, ?_, by rw [if_neg c]⟩
    rw [Int32.le_iff_toInt_le, tl, a2] at c
    rw [a3, Int.max_eq_left (by omega)]
theorem f32_made_any0 {n M : Nat} {x0 e : Int32} (hn : 65 ≤ n) (hM : M = 0) : f_X12_made n x0 (lN M) e 6 = some (lN (if x0 = 0 then 0 else 18446744071562067968)) := by
  have h67 : ∀ v, b_X12_made_67 n x0 6 24 (-149) (lN M) e v = some (lN (if x0 = 0 then 0 else 18446744071562067968)) := by
    intro v
    rw [hM]
    exact f32_made_67_any0
  have hM2 : M < 2 ^ 64 := by omega
  clear hM
  unfold f_X12_made b_X12_made_14 b_X12_made_32
  rw [if_pos rfl, if_pos rfl, f_lengthOf hn hM2]
  show (if (-149 : Int32) ≤ e + (nI (lenN M) - (24 : Int32)) then _ else _) = _
  split <;> exact h67 _
theorem f32_bitsOr_zero {x0 : Int32} {q : Int} : f32_bitsOr (decide (¬ x0 = 0)) (.fin false 0 q) = lN (if x0 = 0 then 0 else 18446744071562067968) := by
  have hs : (if decide (¬ x0 = 0) = true then 18446744071562067968 else 0 : Nat) = (if x0 = 0 then 0 else 18446744071562067968) := by
    by_cases h : x0 = 0 <;> simp [h]
  unfold f32_bitsOr
  dsimp only
  have e : Jvm.FP.Core.encode Jvm.FP.Core.b32 (.fin false 0 q) = Jvm.FP.Core.encode Jvm.FP.Core.b32 (.fin false 0 (((0 : Nat) : Int) - 149)) := by
    unfold Jvm.FP.Core.encode
    dsimp only
    rw [if_pos (Jvm.FP.Core.tails_pos _), if_pos (Jvm.FP.Core.tails_pos _)]
  rw [e, f32_enc_fin, hs, if_pos (show 0 < 2 ^ 23 by decide), Nat.add_zero]
theorem f32_f_made {n M : Nat} {x0 e : Int32} {E : Int} (hn : 65 ≤ n) (hM : M < 2 ^ 63) (he : e.toInt = E) (h1 : -4000 ≤ E) (h2 : E ≤ 4000) : f_X12_made n x0 (lN M) e 6 = some (f32_bitsOr (decide (¬ x0 = 0)) (Jvm.FP.Core.roundRatio Jvm.FP.Core.b32 false M 1 E)) := by
  by_cases hM0 : M = 0
  · subst hM0
    rw [f32_made_any0 hn rfl]
    unfold Jvm.FP.Core.roundRatio
    rw [if_pos rfl, f32_bitsOr_zero]
  obtain ⟨v, hv, hf⟩ := f32_f_made_67 (x0 := x0) hn hM0 hM he h1 h2
  rw [hf]
  have hL : lenN M ≤ 64 := lenN_le (by omega)
  have hB := lenN_bounds hM0
  have hL1 : 1 ≤ lenN M := by unfold lenN; rw [if_neg hM0]; omega
  have hup := Jvm.FP.Core.nearest_units_le (f := Jvm.FP.Core.b32) (A := M) (B := 1) (by omega) (by decide) E
  have hQ := f32_quant64 hM0 E
  unfold Jvm.FP.Core.roundRatio Jvm.FP.Core.roundAt
  rw [if_neg hM0]
  have t63 : (63 : Int32).toInt = 63 := by decide
  have tl : (-149 : Int32).toInt = -149 := by decide
  generalize Jvm.FP.Core.quantum Jvm.FP.Core.b32 M 1 E = Q at hv hup hQ ⊢
  unfold Jvm.FP.Core.unitsNum Jvm.FP.Core.unitsDen at hup ⊢
  rw [Nat.one_mul] at hup ⊢
  have hp : Jvm.FP.Core.b32.p = 24 := rfl
  rw [hp] at hup
  obtain ⟨k, hk⟩ : ∃ k : Nat, Q = (k : Int) - 149 := ⟨(Q + 149).toNat, by omega⟩
  by_cases c1 : Q - E ≤ 63
  · by_cases c2 : 0 < Q - E
    · obtain ⟨d, hd⟩ : ∃ d : Nat, Q - E = (d : Int) := ⟨(Q - E).toNat, by omega⟩
      have e1 : (E - Q).toNat = 0 := by omega
      have e2 : (Q - E).toNat = d := by omega
      rw [e1, e2, Nat.pow_zero, Nat.mul_one] at hup ⊢
      rw [i32_nI (hv.trans hd) (by omega), made_67_pos hM (by omega) (by omega)]
      have h3 : (nI d).toInt = (d : Int) := nI_toInt (by omega)
      have h4 : (e + nI d).toInt = Q := by
        rw [i32_add (by rw [h3, he]; omega) (by rw [h3, he]; omega), h3, he]; omega
      have h5 : e + nI d - (-149 : Int32) = nI k := by
        refine i32_nI ?_ (by omega)
        rw [i32_sub (by rw [h4, tl]; omega) (by rw [h4, tl]; omega), h4, tl]; omega
      rw [f32_made_178 hup ?_ (by omega) h5, hk]
      intro hlt
      by_cases hk0 : k = 0
      · exact hk0
      · exfalso
        have hd' : d + 24 = lenN M := by omega
        have : 2 ^ 23 ≤ Jvm.FP.Core.nearest M (2 ^ d) := by
          refine Jvm.FP.Core.nearest_ge (Nat.two_pow_pos d) ?_
          rw [← Nat.pow_add, show 23 + d = lenN M - 1 by omega]
          exact hB.1
        omega
    · obtain ⟨d, hd⟩ : ∃ d : Nat, Q - E = -(d : Int) := ⟨(E - Q).toNat, by omega⟩
      have e1 : (E - Q).toNat = d := by omega
      have e2 : (Q - E).toNat = 0 := by omega
      rw [e1, e2, Nat.pow_zero] at hup ⊢
      have hx := Jvm.FP.Core.nearest_exact (B := 1) (M * 2 ^ d) (by decide)
      rw [Nat.mul_one] at hx
      rw [hx] at hup ⊢
      have hlt : M * 2 ^ d < 2 ^ 63 := Nat.lt_of_le_of_lt hup (by decide)
      rw [i32_neg (hv.trans hd) (by omega), made_67_neg (by omega) (by omega) hlt]
      have h3 : (-nI d).toInt = -(d : Int) := sb_negT (by omega)
      have h4 : (e + -nI d).toInt = Q := by
        rw [i32_add (by rw [h3, he]; omega) (by rw [h3, he]; omega), h3, he]; omega
      have h5 : e + -nI d - (-149 : Int32) = nI k := by
        refine i32_nI ?_ (by omega)
        rw [i32_sub (by rw [h4, tl]; omega) (by rw [h4, tl]; omega), h4, tl]; omega
      rw [f32_made_178 hup ?_ (by omega) h5, hk]
      intro hlt2
      by_cases hk0 : k = 0
      · exact hk0
      · exfalso
        have hd' : d + lenN M = 24 := by omega
        have : 2 ^ 23 ≤ M * 2 ^ d := by
          have := Nat.mul_le_mul_right (2 ^ d) hB.1
          rw [← Nat.pow_add, show lenN M - 1 + d = 23 by omega] at this
          exact this
        omega
  · have hc : ¬ v ≤ (63 : Int32) := by
      rw [Int32.le_iff_toInt_le, hv, t63]; omega
    have e1 : (E - Q).toNat = 0 := by omega
    have hk0 : Q = -149 := by omega
    unfold b_X12_made_67
    rw [if_neg hc, e1, Nat.pow_zero, Nat.mul_one]
    have hge : 2 ^ 64 ≤ 2 ^ (Q - E).toNat := Nat.pow_le_pow_right (by decide) (by omega)
    have hz : Jvm.FP.Core.nearest M (2 ^ (Q - E).toNat) = 0 := by
      unfold Jvm.FP.Core.nearest
      rw [Nat.mod_eq_of_lt (by omega), if_pos (by omega), Nat.div_eq_of_lt (by omega)]
    rw [hz]
    unfold Jvm.FP.Core.settle Jvm.FP.Core.bound
    rw [if_pos (Nat.two_pow_pos _), if_pos (by rw [hk0]; decide), f32_bitsOr_zero]
    exact f32_made_178_zero
