/-! FLOATs' bits, the class's way -/
theorem log2_23 {c : Nat} (h1 : 2 ^ 23 ≤ c) (h2 : c < 2 ^ 24) : c.log2 = 23 := by
  have h0 : c ≠ 0 := by omega
  apply Nat.le_antisymm
  · have := (Nat.log2_lt h0).mpr h2; omega
  · exact (Nat.le_log2 h0).mpr h1
theorem f_packed6 {n : Nat} {g : Gs} (hn : 20 ≤ n) (hT : Tb g) {x : UInt64} {s : Bool} {c k : Nat} (hx : Dv x s (c * 2 ^ k * 2 ^ 925)) (hc : c < 2 ^ 24) (hk : k ≤ 253) (hck : k = 0 ∨ 2 ^ 23 ≤ c) : f_X6_packed n g x 23 127 = some (lN (k * 2 ^ 23 + c)) := by
  have eu : c * 2 ^ k * 2 ^ 925 = c * 2 ^ (k + 925) := by rw [Nat.mul_assoc, ← Nat.pow_add]
  rw [eu] at hx
  obtain ⟨y, y1, y2⟩ := f_sizeOf hx
  unfold f_X6_packed
  rw [bnd_s y1]
  by_cases hc0 : c = 0
  · have hk0 : k = 0 := by omega
    subst hc0 hk0
    rw [if_pos]
    · rfl
    · rw [cv_eq y2.dz dv_zero.dz, Nat.zero_mul]
  · have hz : c * 2 ^ (k + 925) ≠ 0 := Nat.ne_of_gt (Nat.mul_pos (by omega) (Nat.two_pow_pos _))
    rw [if_neg]
    rotate_left
    · rw [cv_eq y2.dz dv_zero.dz, sg_f, sg_f]
      generalize c * 2 ^ (k + 925) = X at hz ⊢
      omega
    obtain ⟨e, e1, e2⟩ := f_powerOf hn hT y2 hc0 (by omega) (by omega)
    rw [bnd_s e1]
    have hl : c.log2 < 24 := (Nat.log2_lt hc0).mpr hc
    have hm : (if e < ((1 : Int32) - (127 : Int32)) then ((1 : Int32) - (127 : Int32)) else e).toInt = (k : Int) - 126 := by
      have t1 : ((1 : Int32) - (127 : Int32)).toInt = -126 := by decide
      split
      · rename_i h
        rw [Int32.lt_iff_toInt_lt, t1, e2] at h
        rw [t1]
        clear t1
        rcases hck with h3 | h3
        · omega
        · have := log2_23 h3 hc; omega
      · rename_i h
        rw [Int32.lt_iff_toInt_lt, t1, e2] at h
        rw [e2]
        clear t1
        rcases hck with h3 | h3
        · omega
        · have := log2_23 h3 hc; omega
    generalize (if e < ((1 : Int32) - (127 : Int32)) then ((1 : Int32) - (127 : Int32)) else e) = m at hm ⊢
    have hp : ((23 : Int32) - m).toInt = 149 - (k : Int) := by
      rw [i32_subL (show (23 : Int32).toInt = 23 by decide) hm (by omega) (by omega)]; omega
    obtain ⟨r, r1, r2⟩ := f_scaled hT (l := 1074) hp (by omega) (by omega) y2 (by omega) (by omega) (by omega) (by decide)
    rw [bnd_s r1, dv_d2l_exact r2 (by omega)]
    have hm2 : (m + (127 : Int32)) - (1 : Int32) = nI k := by
      have a : (m + (127 : Int32)).toInt = (k : Int) + 1 := by
        rw [i32_addL hm (show (127 : Int32).toInt = 127 by decide) (by omega) (by omega)]; omega
      refine i32_nI ?_ (by omega)
      rw [i32_subL a (show (1 : Int32).toInt = 1 by decide) (by omega) (by omega)]; omega
    rw [hm2, nI_l (by omega)]
    have e5 : lN k <<< ((23 : Int32).toInt64 &&& 63) = lN (k * 2 ^ 23) := lN_shl (n := k) (k := 23) (by decide) (by omega)
    rw [e5, lN_add]
theorem sign32 {t : Nat} (ht : t < 2 ^ 31) : ((lN t ||| (0 : Int64)).toInt32).toInt64 = lN t ∧ ((lN t ||| (2147483648 : Int64)).toInt32).toInt64 = lN (18446744071562067968 + t) := by
  have h0 := f32_made_269 (n := 0) (x0 := 0) ht
  have h1 := f32_made_269 (n := 0) (x0 := 1) ht
  unfold b_X12_made_269 at h0 h1
  rw [if_pos rfl, if_pos rfl, if_pos rfl, Nat.zero_add] at h0
  rw [if_pos rfl, if_neg (by decide), if_neg (by decide)] at h1
  exact ⟨Option.some.inj h0, Option.some.inj h1⟩
/-- floatBits gives a FLOAT's bits -/
theorem f_floatBits {n : Nat} {g : Gs} (hn : 20 ≤ n) (hT : Tb g) {d : UInt64} {x : Int64} {s : Bool} {u : Nat} (hd : Dv d s u) (hx : Fl x s u) : f_X6_floatBits n g d = some x := by
  obtain ⟨c, k, h1, h2, h3, h4, h5⟩ := hx
  rw [h1] at hd
  unfold f_X6_floatBits
  rw [bnd_s (f_packed6 hn hT hd h2 h3 h4), bnd_s (f_isNegative hd)]
  obtain ⟨e1, e2⟩ := sign32 (t := k * 2 ^ 23 + c) (by omega)
  cases s with
  | false =>
    rw [if_pos (show sgB false = 0 by decide), e1]
    refine congrArg some (uL_inj ?_)
    rw [uL_lN (by omega), h5, if_neg (by decide), Nat.zero_add]
  | true =>
    rw [if_neg (show ¬ sgB true = 0 by decide), e2]
    refine congrArg some (uL_inj ?_)
    rw [uL_lN (by omega), h5, if_pos rfl]
theorem ushr_field6 (x : Int64) : ((x.toUInt64 >>> ((23 : Int32).toInt64.toUInt64 &&& Int64.toUInt64 63)).toInt64) &&& (255 : Int64) = lN (uL x / 2 ^ 23 % 2 ^ 8) := by
  apply uL_inj
  rw [uL_mask _ 8 (by decide), uL_ushr x 23 _ (by decide) (by decide), uL_lN (by omega)]
/-- is a long, read as a FLOAT's bits, finite -/
def finF (b : Int64) : Bool := decide (uL b / 2 ^ 23 % 2 ^ 8 ≠ 255)
theorem isFinF (b : Int64) : f_X6_isFiniteFloat b = some (sgB (finF b)) := by
  unfold f_X6_isFiniteFloat finF
  rw [ushr_field6]
  by_cases h : uL b / 2 ^ 23 % 2 ^ 8 = 255
  · rw [h, if_pos (show lN 255 = 255 from rfl), decide_eq_false (fun z => z rfl)]; rfl
  · rw [if_neg (fun z => h ((lN_is (k := 255) (c := 255) rfl (by omega) (by decide)).mp z)), decide_eq_true h]; rfl
/-- realOf of a FLOAT's bits, and what the reference makes of them -/
theorem f_realOf6 {g : Gs} (hT : Tb g) {b : Int64} (hb : finF b = true) : ∃ d v s u, f_X6_realOf g 6 b = some d ∧ f_X12_narrowed b 4 = some v ∧ Dv d s u ∧ Fl v s u ∧ uL v / 2 ^ 23 % 2 ^ 8 = uL b / 2 ^ 23 % 2 ^ 8 := by
  have hf : uL b / 2 ^ 23 % 2 ^ 8 ≠ 255 := of_decide_eq_true hb
  obtain ⟨F, hF⟩ : ∃ F, uL b / 2 ^ 23 % 2 ^ 8 = F := ⟨_, rfl⟩
  obtain ⟨t, ht⟩ : ∃ t, uL b % 2 ^ 23 = t := ⟨_, rfl⟩
  obtain ⟨sb, hsb⟩ : ∃ sb, uL b / 2 ^ 31 % 2 = sb := ⟨_, rfl⟩
  have htl : t < 2 ^ 23 := by omega
  have hFl : F < 255 := by omega
  -- digits and shift
  obtain ⟨c, k, hc, hk, hck, hval, hfield⟩ : ∃ c k, c < 2 ^ 24 ∧ k ≤ 253 ∧ (k = 0 ∨ 2 ^ 23 ≤ c) ∧ k * 2 ^ 23 + c = F * 2 ^ 23 + t ∧ (F = 0 ∧ c = t ∧ k = 0 ∨ F = k + 1 ∧ c = t + 2 ^ 23) := by
    by_cases h0 : F = 0
    · exact ⟨t, 0, by omega, by omega, .inl rfl, by omega, .inl ⟨h0, rfl, rfl⟩⟩
    · exact ⟨t + 2 ^ 23, F - 1, by omega, by omega, .inr (by omega), by omega, .inr ⟨by omega, rfl⟩⟩
  have low : uL b % 2 ^ 31 = k * 2 ^ 23 + c := by omega
  have hmask : b &&& (8388607 : Int64) = lN t := by
    apply uL_inj
    rw [uL_mask b 23 (by decide), uL_lN (by omega), ht]
  have fin : ∀ m : Int32, m.toInt = (k : Int) + 1 → ∃ r, f_X6_scaled g (FP.l2d (lN c)) ((m - (127 : Int32)) - (23 : Int32)) = some r ∧ Dv r false (c * 2 ^ (k + 925)) := by
    intro m hm
    have a1 : (m - (127 : Int32)).toInt = (k : Int) - 126 := by
      rw [i32_subL hm (show (127 : Int32).toInt = 127 by decide) (by omega) (by omega)]; omega
    have a2 : ((m - (127 : Int32)) - (23 : Int32)).toInt = (k : Int) - 149 := by
      rw [i32_subL a1 (show (23 : Int32).toInt = 23 by decide) (by omega) (by omega)]; omega
    exact f_scaled hT (k := 1074) (l := k + 925) a2 (by omega) (by omega) (dv_l2d (by omega)) (by omega) (by decide) (by omega) (by omega)
  have hun : ∃ r, f_X6_unpacked g (b &&& (8388607 : Int64)) ((((b.toUInt64 >>> ((23 : Int32).toInt64.toUInt64 &&& Int64.toUInt64 63)).toInt64) &&& (255 : Int64)).toInt32) 23 127 = some r ∧ Dv r false (c * 2 ^ (k + 925)) := by
    rw [ushr_field6, lN_i, hF, hmask]
    unfold f_X6_unpacked b_X6_unpacked_14
    rcases hfield with ⟨q1, q2, q3⟩ | ⟨q1, q2⟩
    · rw [q1, if_pos (show nI 0 = 0 by decide), ← q2]
      obtain ⟨r, r1, r2⟩ := fin (if nI 0 < (1 : Int32) then (1 : Int32) else nI 0) (by rw [if_pos (by decide), q3]; decide)
      exact ⟨r, bnd_s r1, r2⟩
    · rw [q1, if_neg (nI_ne0 (by omega) (by omega))]
      have e1 : lN t + ((1 : Int64) <<< ((23 : Int32).toInt64 &&& 63)) = lN c := by
        rw [show (1 : Int64) <<< ((23 : Int32).toInt64 &&& 63) = lN (2 ^ 23) by decide, lN_add, q2]
      have e2 : (if nI (k + 1) < (1 : Int32) then (1 : Int32) else nI (k + 1)) = nI (k + 1) := if_neg (show ¬ nI (k + 1) < (1 : Int32) from nI_nlt (b := 1) (by omega) (by omega))
      obtain ⟨r, r1, r2⟩ := fin (nI (k + 1)) (by rw [nI_toInt (by omega)]; omega)
      rw [e1, e2]
      exact ⟨r, bnd_s r1, r2⟩
  obtain ⟨r, r1, r2⟩ := hun
  have eu : c * 2 ^ (k + 925) = c * 2 ^ k * 2 ^ 925 := by rw [Nat.mul_assoc, ← Nat.pow_add]
  -- the sign
  have hb32 : b.toInt32.toBitVec.toNat = uL b % 2 ^ 32 := toI32_nat b
  have hsg : (0 ≤ b.toInt32) ↔ uL b % 2 ^ 32 < 2 ^ 31 := by
    rw [Int32.le_iff_toInt_le, show (0 : Int32).toInt = 0 by decide]
    have e : b.toInt32.toInt = b.toInt32.toBitVec.toInt := rfl
    rw [e, BitVec.toInt_eq_toNat_cond, hb32]
    have : uL b % 2 ^ 32 < 2 ^ 32 := Nat.mod_lt _ (by decide)
    split <;> omega
  have nar := nar_bits b 32 (mask := 4294967295) (hf := 2147483648) (top := 4294967296) (by decide) (by decide) (by decide) rfl rfl
  have hv : f_X12_narrowed b 4 = some (Int64.ofInt (b.toInt.bmod (2 ^ 32))) := ((if_neg (by decide)).trans ((if_neg (by decide)).trans ((if_neg (by decide)).trans (if_pos rfl)))).trans nar
  have lowI := uLow b 32 (by decide)
  have uv : uL (Int64.ofInt (b.toInt.bmod (2 ^ 32))) = if uL b % 2 ^ 32 < 2 ^ 31 then uL b % 2 ^ 32 else 18446744069414584320 + uL b % 2 ^ 32 := by
    have ti : (Int64.ofInt (b.toInt.bmod (2 ^ 32))).toInt = b.toInt.bmod (2 ^ 32) := by
      have := Int.bmod_lt (x := b.toInt) (m := 2 ^ 32) (by decide)
      have := Int.le_bmod (x := b.toInt) (m := 2 ^ 32) (by decide)
      rw [Int64.toInt_ofInt, show Int64.size = 18446744073709551616 from rfl]
      exact Int.bmod_eq_of_le (by omega) (by omega)
    obtain ⟨X, hX⟩ : ∃ X, Int64.ofInt (b.toInt.bmod (2 ^ 32)) = X := ⟨_, rfl⟩
    rw [hX] at ti ⊢
    have t2 := uL_toInt X
    rw [ti, Int.bmod_def] at t2
    have l64 := uL_lt X
    have l32 : uL b % 2 ^ 32 < 2 ^ 32 := Nat.mod_lt _ (by decide)
    rw [← lowI] at t2
    clear hv nar ti hX r1 r2 fin hmask hfield hval hck low hsg hb32 lowI eu
    generalize uL X = V at *
    generalize uL b % 2 ^ 32 = W at *
    split at t2 <;> split at t2 <;> split <;> omega
  unfold f_X6_realOf
  rw [if_neg (by decide), if_pos rfl, bnd_s r1]
  by_cases hpos : 0 ≤ b.toInt32
  · rw [if_pos hpos]
    have hlt := hsg.mp hpos
    rw [if_pos hlt] at uv
    refine ⟨r, _, false, c * 2 ^ k * 2 ^ 925, rfl, hv, eu ▸ r2, ⟨c, k, rfl, hc, hk, hck, ?_⟩, ?_⟩
    · rw [uv, if_neg (by decide)]; omega
    · rw [uv]; omega
  · rw [if_neg hpos]
    have hge : ¬ uL b % 2 ^ 32 < 2 ^ 31 := fun z => hpos (hsg.mpr z)
    rw [if_neg hge] at uv
    have r3 := dv_neg r2
    refine ⟨FP.dneg r, _, true, c * 2 ^ k * 2 ^ 925, rfl, hv, eu ▸ r3, ⟨c, k, rfl, hc, hk, hck, ?_⟩, ?_⟩
    · rw [uv, if_pos rfl]; omega
    · rw [uv]; omega
