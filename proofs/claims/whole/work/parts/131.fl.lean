/-! FLOATs: their bits carried through 64, by sign and size in units of 2^-1074 -/
def Fl (x : Int64) (s : Bool) (u : Nat) : Prop := ∃ c k, u = c * 2 ^ k * 2 ^ 925 ∧ c < 2 ^ 24 ∧ k ≤ 253 ∧ (k = 0 ∨ 2 ^ 23 ≤ c) ∧ uL x = (if s = true then 18446744071562067968 else 0) + (k * 2 ^ 23 + c)
theorem shape_inj {c k c' k' P : Nat} (hc : c < 2 * P) (hc' : c' < 2 * P) (h1 : k = 0 ∨ P ≤ c) (h2 : k' = 0 ∨ P ≤ c') (h : c * 2 ^ k = c' * 2 ^ k') : c = c' ∧ k = k' := by
  have main : ∀ {c k c' k' : Nat}, c < 2 * P → (k' = 0 ∨ P ≤ c') → c * 2 ^ k = c' * 2 ^ k' → ¬ k < k' := by
    intro c k c' k' hc h2 h hk
    have hP : P ≤ c' := by omega
    have e : 2 ^ k' = 2 ^ (k' - k) * 2 ^ k := by rw [← Nat.pow_add]; congr 1; omega
    have e2 : 2 ≤ 2 ^ (k' - k) := by
      have := Nat.pow_le_pow_right (n := 2) (by decide) (show 1 ≤ k' - k by omega)
      simpa using this
    rw [e, ← Nat.mul_assoc] at h
    have h3 := Nat.eq_of_mul_eq_mul_right (Nat.two_pow_pos k) h
    have h4 := Nat.mul_le_mul hP e2
    omega
  have a := main hc h2 h
  have b := main hc' h1 h.symm
  have e : k = k' := by omega
  subst e
  exact ⟨Nat.eq_of_mul_eq_mul_right (Nat.two_pow_pos k) h, rfl⟩
theorem Fl.inj {x y : Int64} {s : Bool} {u : Nat} (h : Fl x s u) (h' : Fl y s u) : x = y := by
  obtain ⟨c, k, h1, h2, h3, h4, h5⟩ := h
  obtain ⟨c', k', k1, k2, k3, k4, k5⟩ := h'
  rw [h1] at k1
  have e := Nat.eq_of_mul_eq_mul_right (Nat.two_pow_pos 925) k1
  obtain ⟨rfl, rfl⟩ := shape_inj (P := 2 ^ 23) (by omega) (by omega) h4 k4 e
  exact uL_inj (h5.trans k5.symm)
theorem open_field6 (x : Int64) : ((x >>> ((23 : Int32).toInt64 &&& 63)).toInt32) &&& (255 : Int32) = nI (uL x / 2 ^ 23 % 2 ^ 8) := by
  rw [pk_and _ 8 (by decide), toI32_nat, Nat.mod_mod_of_dvd _ (by decide : 2 ^ 8 ∣ 2 ^ 32), uL_sshr x 23 8 _ (by decide) (by decide)]
theorem f_open6 {g : Gs} {x : Int64} {s : Bool} {u : Nat} (h : Fl x s u) : ∃ (g' : Gs) (c k : Nat) (e : Int32), f_X12_open g x 6 = some g' ∧ Sc g g' ∧ gI g' 0 = sgB s ∧ gL g' 1 = lN c ∧ gI g' 2 = e ∧ e.toInt = (k : Int) - 149 ∧ u = c * 2 ^ k * 2 ^ 925 ∧ c < 2 ^ 24 ∧ k ≤ 253 := by
  obtain ⟨c, k, h1, h2, h3, h4, hx⟩ := h
  have hs : (if s = true then 18446744071562067968 else 0 : Nat) = 18446744071562067968 ∨ (if s = true then 18446744071562067968 else 0 : Nat) = 0 := by cases s <;> simp
  have hf : uL x / 2 ^ 23 % 2 ^ 8 = if c < 2 ^ 23 then 0 else k + 1 := by
    split <;> omega
  have ht : x &&& (8388607 : Int64) = lN (if c < 2 ^ 23 then c else c - 2 ^ 23) := by
    apply uL_inj
    rw [uL_mask x 23 (by decide), uL_lN (by split <;> omega)]
    split <;> omega
  have key : b_X12_open_12 g x 6 (sgB s) = f_X12_open g x 6 := by
    unfold f_X12_open
    cases s with
    | true => rw [if_neg]; · rfl
              rw [uL_le0_iff, hx]; simp; omega
    | false => rw [if_pos]; · rfl
               rw [uL_le0_iff, hx]; simp; omega
  rw [← key]
  unfold b_X12_open_12
  rw [grd_t (by cases s <;> decide), if_pos rfl, open_field6, hf, ht]
  by_cases hc : c < 2 ^ 23
  · have hk : k = 0 := by omega
    subst hk
    rw [if_pos hc, if_pos hc]
    refine ⟨sI (sL (sI g 0 (sgB s)) 1 (lN c)) 2 (-149), c, 0, -149, (if_pos (by decide)).trans ?_, ?_, ?_, ?_, ?_, by decide, h1, h2, h3⟩
    · unfold b_X12_open_58 b_X12_open_76
      exact if_pos rfl
    · exact ((Sc.i0 _ _).trans (Sc.l1 _ _)).trans (Sc.i2 _ _)
    · rfl
    · rfl
    · rfl
  · rw [if_neg hc, if_neg hc]
    have hor : lN (c - 2 ^ 23) ||| (8388608 : Int64) = lN c := by
      apply uL_inj
      rw [uL_or, uL_lN (by omega), uL_lN (by omega), show uL (8388608 : Int64) = 2 ^ 23 by decide, Nat.or_comm]
      have := Nat.two_pow_add_eq_or_of_lt (i := 23) (b := c - 2 ^ 23) (by omega) 1
      rw [Nat.mul_one] at this
      rw [← this]; omega
    refine ⟨sI (sL (sL (sI g 0 (sgB s)) 1 (lN (c - 2 ^ 23))) 1 (lN c)) 2 (nI (k + 1) - (150 : Int32)), c, k, nI (k + 1) - (150 : Int32), (if_neg (nI_nle (by omega) (by omega))).trans ?_, ?_, ?_, ?_, ?_, ?_, h1, h2, h3⟩
    · unfold b_X12_open_58 b_X12_open_76
      rw [if_neg (nI_ne0 (by omega) (by omega)), hor]
    · exact (((Sc.i0 _ _).trans (Sc.l1 _ _)).trans (Sc.l1 _ _)).trans (Sc.i2 _ _)
    · rfl
    · rfl
    · rfl
    · rw [i32_subL (nI_toInt (by omega)) (show (150 : Int32).toInt = 150 by decide) (by omega) (by omega)]; omega
/-- a FLOAT as a DOUBLE -/
theorem become67 {n : Nat} {g : Gs} {x : Int64} {s : Bool} {u : Nat} (hn : 65 ≤ n) (h : Fl x s u) : ∃ r g', f_X12_become n g x 6 7 = some (r, g') ∧ Sc g g' ∧ Dv r.toUInt64 s u := by
  obtain ⟨g1, c, k, e, o1, o2, o3, o4, o5, o6, o7, o8, o9⟩ := f_open6 (g := g) h
  obtain ⟨r, r1, r2⟩ := made_dv_k (n := n) (s := s) (c := c) (k := k + 925) (e := e) hn (by rw [o6]; omega) (by omega) (by omega)
  refine ⟨r, g1, ?_, o2, ?_⟩
  · unfold f_X12_become
    rw [if_neg (by decide), bnd_s (show f_X12_isReal 7 = some 1 by decide), if_neg (by decide), bnd_s (show f_X12_isReal 6 = some 1 by decide), if_neg (by decide), bnd_s o1, o3, o4, o5, bnd_s r1]
  · rw [o7, Nat.mul_assoc, ← Nat.pow_add]; exact r2
/-! rounding to FLOAT -/
theorem q32 : Jvm.FP.Core.b32.qmin = -149 := by decide
theorem fl_of_fits {c : Nat} {q : Int} {s : Bool} (hf : Jvm.FP.Core.fits Jvm.FP.Core.b32 (.fin false c q)) : Fl (f32_bitsOr s (.fin false c q)) s (Jvm.FP.Core.inUnits c q (-1074)) := by
  obtain ⟨f1, f2, f3, f4⟩ := hf
  rw [q32] at f2 f4
  rw [show Jvm.FP.Core.b32.qmax = 104 by decide] at f3
  rw [show Jvm.FP.Core.b32.tails = 2 ^ 23 by decide] at f4
  have f1' : c < 2 ^ 24 := f1
  obtain ⟨k, rfl⟩ : ∃ k : Nat, q = (k : Int) - 149 := ⟨(q + 149).toNat, by omega⟩
  refine ⟨c, k, ?_, f1', by omega, ?_, ?_⟩
  · unfold Jvm.FP.Core.inUnits
    rw [Nat.mul_assoc, ← Nat.pow_add]
    congr 2
    omega
  · rcases f4 with h | h
    · exact .inl (by omega)
    · exact .inr h
  · show uL (lN ((if s = true then 18446744071562067968 else 0) + Jvm.FP.Core.encode Jvm.FP.Core.b32 (.fin false c ((k : Int) - 149)))) = _
    have hs : (if s = true then 18446744071562067968 else 0 : Nat) ≤ 18446744071562067968 := by split <;> omega
    rw [f32_enc_fin]
    by_cases hc : c < 2 ^ 23
    · rw [if_pos hc, uL_lN (by omega)]
      have : k = 0 := by omega
      subst this
      omega
    · rw [if_neg hc, uL_lN (by omega)]
      omega
theorem jd2f {a : UInt64} (h : Jvm.FP.Core.val64 a ≠ .nan) : Jvm.FP.Core.val32 (FP.d2f a) = Jvm.FP.Core.round Jvm.FP.Core.b32 (Jvm.FP.Core.val64 a) := by
  unfold FP.d2f
  rw [if_neg (by rw [(Jvm.FP.Core.notNaN_iff a).mpr h]; decide)]
  exact Jvm.FP.Core.val32_d2f a
theorem jf2d {a : UInt32} (h : Jvm.FP.Core.val32 a ≠ .nan) : Jvm.FP.Core.val64 (FP.f2d a) = Jvm.FP.Core.round Jvm.FP.Core.b64 (Jvm.FP.Core.val32 a) := by
  unfold FP.f2d
  rw [if_neg (by rw [(Jvm.FP.Core.notNaN_iff32 a).mpr h]; decide)]
  exact Jvm.FP.Core.val64_f2d a
/-- a float's own value, wide -/
theorem dv_f2d {a : UInt32} {s : Bool} {c : Nat} {q : Int} (h : Jvm.FP.Core.val32 a = .fin s c q) : Dv (FP.f2d a) s (Jvm.FP.Core.inUnits c q (-1074)) := by
  have hf := Jvm.FP.Core.val32_fits a
  rw [h] at hf
  obtain ⟨f1, f2, f3, f4⟩ := hf
  rw [q32] at f2
  rw [show Jvm.FP.Core.b32.qmax = 104 by decide] at f3
  have f1' : c < 2 ^ 24 := f1
  have e := jf2d (a := a) (by rw [h]; intro z; cases z)
  rw [h] at e
  unfold Jvm.FP.Core.inUnits
  refine Dv.round e (by omega) (by omega) ?_
  rw [show (q + 1074).toNat = (q - -1074).toNat by omega, show (-(q + 1074)).toNat = 0 by omega, Nat.pow_zero, Nat.mul_one]
theorem val_inf_f2d {a : UInt32} {s : Bool} (h : Jvm.FP.Core.val32 a = .inf s) : Jvm.FP.Core.val64 (FP.f2d a) = .inf s := by
  have e := jf2d (a := a) (by rw [h]; intro z; cases z)
  rw [h] at e
  exact e
/-- what a rounded ratio is for both sides: a FLOAT, or too large -/
theorem both32 {A B : Nat} {e : Int} {s : Bool} {a : UInt32} (hB : 0 < B) (h : Jvm.FP.Core.val32 a = Jvm.FP.Core.roundRatio Jvm.FP.Core.b32 s A B e) : (∃ u, Fl (f32_bitsOr s (Jvm.FP.Core.roundRatio Jvm.FP.Core.b32 false A B e)) s u ∧ Dv (FP.f2d a) s u) ∨ (f32_bitsOr s (Jvm.FP.Core.roundRatio Jvm.FP.Core.b32 false A B e) = 9223372036854775807 ∧ Jvm.FP.Core.val64 (FP.f2d a) = .inf s) := by
  have hfit := Jvm.FP.Core.roundRatio_fits Jvm.FP.Core.good_b32 false A hB e
  have hneg : Jvm.FP.Core.roundRatio Jvm.FP.Core.b32 s A B e = (if s = true then Jvm.FP.Core.negate (Jvm.FP.Core.roundRatio Jvm.FP.Core.b32 false A B e) else Jvm.FP.Core.roundRatio Jvm.FP.Core.b32 false A B e) := by
    cases s with
    | false => rfl
    | true => rw [if_pos rfl, Jvm.FP.Core.negate_roundRatio]; rfl
  rw [hneg] at h
  rcases Jvm.FP.Core.roundRatio_cases Jvm.FP.Core.b32 false A B e with ⟨c, q, hc⟩ | hi
  · rw [hc] at h hfit ⊢
    left
    refine ⟨_, fl_of_fits hfit, dv_f2d ?_⟩
    rw [h]
    cases s <;> rfl
  · rw [hi] at h ⊢
    right
    refine ⟨rfl, val_inf_f2d ?_⟩
    rw [h]
    cases s <;> rfl
/-- a DOUBLE as a FLOAT -/
theorem become76 {n : Nat} {g : Gs} {x : Int64} {s : Bool} {u : Nat} (hn : 65 ≤ n) (h : Dv x.toUInt64 s u) : ∃ r g', f_X12_become n g x 7 6 = some (r, g') ∧ Sc g g' ∧ ((∃ v, Fl r s v ∧ Dv (FP.f2d (FP.d2f x.toUInt64)) s v) ∨ (r = 9223372036854775807 ∧ Jvm.FP.Core.val64 (FP.f2d (FP.d2f x.toUInt64)) = .inf s)) := by
  obtain ⟨g1, c, k, e, o1, o2, o3, o4, o5, o6, o7, o8, o9, o10⟩ := f_open (g := g) h
  have hm := f32_f_made (n := n) (M := c) (x0 := sgB s) (e := e) hn (by omega) o6 (by omega) (by omega)
  rw [sgB_dec] at hm
  refine ⟨f32_bitsOr s (Jvm.FP.Core.roundRatio Jvm.FP.Core.b32 false c 1 ((k : Int) - 1074)), g1, ?_, o2, ?_⟩
  · unfold f_X12_become
    rw [if_neg (by decide), bnd_s (show f_X12_isReal 6 = some 1 by decide), if_neg (by decide), bnd_s (show f_X12_isReal 7 = some 1 by decide), if_neg (by decide), bnd_s o1, o3, o4, o5, bnd_s hm]
  · refine both32 (by decide) ?_
    rw [jd2f h.ne_nan]
    obtain ⟨c', q', h1, h2⟩ := h
    rw [h1]
    refine Jvm.FP.Core.roundRatio_congr (by decide) (by decide) ?_
    rw [o7] at h2
    have hfit := Jvm.FP.Core.val64_fits x.toUInt64
    rw [h1] at hfit
    have g0 := hfit.2.1
    rw [dv_qmin] at g0
    unfold Jvm.FP.Core.inUnits at h2
    rw [Nat.mul_one, Nat.mul_one]
    by_cases hq : (k : Int) - 1074 ≤ q'
    · rw [show ((k : Int) - 1074 - q').toNat = 0 by omega, Nat.pow_zero, Nat.mul_one]
      have e1 : 2 ^ (q' - -1074).toNat = 2 ^ (q' - ((k : Int) - 1074)).toNat * 2 ^ k := by rw [← Nat.pow_add]; congr 1; omega
      rw [e1, ← Nat.mul_assoc] at h2
      exact Nat.eq_of_mul_eq_mul_right (Nat.two_pow_pos k) h2
    · rw [show (q' - ((k : Int) - 1074)).toNat = 0 by omega, Nat.pow_zero, Nat.mul_one]
      have e1 : 2 ^ k = 2 ^ ((k : Int) - 1074 - q').toNat * 2 ^ (q' - -1074).toNat := by rw [← Nat.pow_add]; congr 1; omega
      rw [e1, ← Nat.mul_assoc] at h2
      exact Nat.eq_of_mul_eq_mul_right (Nat.two_pow_pos _) h2
