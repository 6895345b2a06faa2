/-! the class's formulas for dates -/
def st (y : Nat) : Nat := 365 * y + y / 4 - y / 100
def en (y : Nat) : Nat := if y = 399 then 146097 else st (y + 1)
def gY (e : Nat) : Nat := e - e / 1460 + e / 36524 - e / 146096
theorem gY_mono {a b : Nat} (h : a ≤ b) (hb : b < 146097) : gY a ≤ gY b := by
  unfold gY
  have h1 : a - a / 1460 ≤ b - b / 1460 := by omega
  have h2 : a / 36524 ≤ b / 36524 := Nat.div_le_div_right h
  by_cases c : b = 146096
  · subst c
    by_cases c2 : a = 146096
    · subst c2; exact Nat.le_refl _
    · have : a / 146096 = 0 := Nat.div_eq_of_lt (by omega)
      have : a / 36524 ≤ 3 := by omega
      omega
  · have : a / 146096 = 0 := Nat.div_eq_of_lt (by omega)
    have : b / 146096 = 0 := Nat.div_eq_of_lt (by omega)
    omega
theorem yoe_chk : ∀ y, y < 400 → 365 * y ≤ gY (st y) ∧ gY (en y - 1) < 365 * (y + 1) ∧ en y ≤ 146097 := by decide +kernel
theorem yoe {e y : Nat} (hy : y < 400) (h1 : st y ≤ e) (h2 : e < en y) : gY e / 365 = y := by
  obtain ⟨a, b, c⟩ := yoe_chk y hy
  have m1 := gY_mono h1 (by omega)
  have m2 := gY_mono (a := e) (b := en y - 1) (by omega) (by omega)
  omega
def daysN : List Nat := [0, 31, 59, 90, 120, 151, 181, 212, 243, 273, 304, 334]
def mV (lp : Bool) (d : Nat) : Nat := if 59 + lp.toNat ≤ d then d - 59 - lp.toNat else d + 306
def mchk (lp : Bool) (d : Nat) : Bool :=
  decide ((mo lp 12 1 d).2 < ml lp (mo lp 12 1 d).1) && decide ((153 * ((5 * mV lp d + 2) / 153) + 2) / 5 ≤ mV lp d) && decide ((mo lp 12 1 d).2 = mV lp d - (153 * ((5 * mV lp d + 2) / 153) + 2) / 5)
  && decide ((mo lp 12 1 d).1 = if 10 ≤ (5 * mV lp d + 2) / 153 then (5 * mV lp d + 2) / 153 - 9 else (5 * mV lp d + 2) / 153 + 3)
  && decide (10 ≤ (5 * mV lp d + 2) / 153 ↔ d < 59 + lp.toNat) && decide ((5 * mV lp d + 2) / 153 ≤ 11) && decide (mV lp d ≤ 365)
  && decide (d = daysN.getD ((mo lp 12 1 d).1 - 1) 0 + (mo lp 12 1 d).2 + (if 2 < (mo lp 12 1 d).1 then lp.toNat else 0))
  && decide ((2 < (mo lp 12 1 d).1) ↔ 59 + lp.toNat ≤ d) && decide (1 ≤ (mo lp 12 1 d).1 ∧ (mo lp 12 1 d).1 ≤ 12)
theorem mchk_all : ∀ lp : Bool, ∀ d, d < 365 + lp.toNat → mchk lp d = true := by decide +kernel
theorem days_nI : ∀ k, k < 12 → daysL.getD k 0 = nI (daysN.getD k 0) ∧ daysN.getD k 0 ≤ 334 := by decide +kernel
/-- the March year and the day in it, of a day in a year of 400 -/
theorem march {z K K2 : Int} {R j e : Nat} (hj : j < 400) (h1 : cum j ≤ R) (h2 : R < cum (j + 1)) (hz : z + 719162 = 146097 * K + (R : Int)) (he : z + 719468 = 146097 * K2 + (e : Int)) (hR : R < 146097) (hE : e < 146097) : ∃ y, gY e / 365 = y ∧ st y ≤ e ∧ e - st y = mV (lpN j) (R - cum j) ∧ y < 400 ∧ (y : Int) + 400 * K2 = 400 * K + (j : Int) + (if 59 + (lpN j).toNat ≤ R - cum j then 1 else 0) := by
  have hcs := cum_succ j
  have hK : (K2 = K ∧ e = R + 306) ∨ (K2 = K + 1 ∧ e + 145791 = R) := by omega
  have hlp : (lpN j = true ∧ (j + 1) % 4 = 0 ∧ ((j + 1) % 100 ≠ 0 ∨ (j + 1) % 400 = 0)) ∨ (lpN j = false ∧ ¬ ((j + 1) % 4 = 0 ∧ ((j + 1) % 100 ≠ 0 ∨ (j + 1) % 400 = 0))) := by
    unfold lpN
    by_cases h : (j + 1) % 4 = 0 ∧ ((j + 1) % 100 ≠ 0 ∨ (j + 1) % 400 = 0)
    · exact .inl ⟨decide_eq_true h, h⟩
    · exact .inr ⟨decide_eq_false h, h⟩
  have hst : cum j = st j := by unfold cum st; omega
  have hst1 : j < 399 → st (j + 1) = st j + ylen j := by
    intro h
    have : cum (j + 1) = st (j + 1) := by unfold cum st; omega
    omega
  have hyl : ylen j = 365 + (lpN j).toNat := by
    unfold ylen
    cases lpN j <;> rfl
  have hlt : (lpN j).toNat ≤ 1 := by cases lpN j <;> decide
  have h399 : j = 399 → (lpN j).toNat = 1 ∧ st j = 145731 := by
    intro h; subst h; decide
  unfold mV
  by_cases c : 59 + (lpN j).toNat ≤ R - cum j
  · rw [if_pos c, if_pos c]
    by_cases hj9 : j = 399
    · obtain ⟨q1, q2⟩ := h399 hj9
      have hkk : K2 = K + 1 ∧ e + 145791 = R := by omega
      have e0 : en 0 = 365 := by decide
      have y0 : gY e / 365 = 0 := yoe (y := 0) (by decide) (Nat.zero_le _) (by rw [e0]; omega)
      refine ⟨0, y0, Nat.zero_le _, ?_, by decide, ?_⟩
      · have : st 0 = 0 := by decide
        omega
      · omega
    · have s1 := hst1 (by omega)
      have sb : st (j + 1) ≤ 145731 := by unfold st; omega
      have hkk : K2 = K ∧ e = R + 306 := by omega
      have hen : st (j + 1) + 365 ≤ en (j + 1) := by
        unfold en
        by_cases c9 : j + 1 = 399
        · rw [if_pos c9, c9]; decide
        · rw [if_neg c9]; unfold st; omega
      refine ⟨j + 1, yoe (by omega) (by omega) (by omega), by omega, by omega, by omega, by omega⟩
  · rw [if_neg c, if_neg c]
    have hkk : K2 = K ∧ e = R + 306 := by
      have : R < 145791 := by
        by_cases hj9 : j = 399
        · obtain ⟨q1, q2⟩ := h399 hj9
          omega
        · have s1 := hst1 (by omega)
          have : st j + 365 ≤ 145731 := by unfold st; omega
          omega
      omega
    have hen : st j + 365 + (lpN j).toNat ≤ en j := by
      unfold en
      by_cases c9 : j = 399
      · obtain ⟨q1, q2⟩ := h399 c9
        rw [if_pos c9]; omega
      · rw [if_neg c9, hst1 (by omega)]; omega
    refine ⟨j, yoe hj (by omega) (by omega), by omega, by omega, hj, by omega⟩
theorem xor_sign {x y : Int32} (hy : 0 ≤ y.toInt) : (0 ≤ (x ^^^ y)) ↔ 0 ≤ x.toInt := by
  rw [Int32.le_iff_toInt_le, show (0 : Int32).toInt = 0 by decide]
  have h : (x ^^^ y).toBitVec.msb = (x.toBitVec.msb ^^ y.toBitVec.msb) := by
    show (x.toBitVec ^^^ y.toBitVec).msb = _
    rw [BitVec.msb_xor]
  rw [BitVec.msb_eq_toInt, BitVec.msb_eq_toInt, BitVec.msb_eq_toInt] at h
  have e1 : (x ^^^ y).toBitVec.toInt = (x ^^^ y).toInt := rfl
  have e2 : x.toBitVec.toInt = x.toInt := rfl
  have e3 : y.toBitVec.toInt = y.toInt := rfl
  rw [e1, e2, e3, show decide (y.toInt < 0) = false from decide_eq_false (by omega), Bool.xor_false] at h
  have := decide_eq_decide.mp h
  omega
theorem xor_signL {x y : Int64} (hy : 0 ≤ y.toInt) : (0 ≤ (x ^^^ y)) ↔ 0 ≤ x.toInt := by
  rw [Int64.le_iff_toInt_le, show (0 : Int64).toInt = 0 by decide]
  have h : (x ^^^ y).toBitVec.msb = (x.toBitVec.msb ^^ y.toBitVec.msb) := by
    show (x.toBitVec ^^^ y.toBitVec).msb = _
    rw [BitVec.msb_xor]
  rw [BitVec.msb_eq_toInt, BitVec.msb_eq_toInt, BitVec.msb_eq_toInt] at h
  have e1 : (x ^^^ y).toBitVec.toInt = (x ^^^ y).toInt := rfl
  have e2 : x.toBitVec.toInt = x.toInt := rfl
  have e3 : y.toBitVec.toInt = y.toInt := rfl
  rw [e1, e2, e3, show decide (y.toInt < 0) = false from decide_eq_false (by omega), Bool.xor_false] at h
  have := decide_eq_decide.mp h
  omega
theorem tdiv_neg_floor {A D : Int} (hA : A < 0) (hD : 0 < D) : (A.tmod D = 0 → A.tdiv D = A / D) ∧ (A.tmod D ≠ 0 → A.tdiv D - 1 = A / D) := by
  have e : A.tdiv D = -((-A).tdiv D) := by rw [Int.neg_tdiv, Int.neg_neg]
  have e2 : A.tmod D = -((-A).tmod D) := by rw [Int.neg_tmod, Int.neg_neg]
  have hn : 0 ≤ -A := by omega
  rw [Int.tdiv_eq_ediv_of_nonneg hn] at e
  rw [Int.tmod_eq_emod_of_nonneg hn] at e2
  have b1 := Int.emod_nonneg (-A) (show D ≠ 0 by omega)
  have b2 := Int.emod_lt_of_pos (-A) hD
  have b3 := Int.mul_ediv_add_emod (-A) D
  have c1 := Int.emod_nonneg A (show D ≠ 0 by omega)
  have c2 := Int.emod_lt_of_pos A hD
  have c3 := Int.mul_ediv_add_emod A D
  have key : D * ((-A) / D + A / D) = -((-A) % D) - A % D := by rw [Int.mul_add]; omega
  generalize (-A) / D = p at *
  generalize A / D = q at *
  constructor
  · intro h
    have h0 : (-A) % D = 0 := by omega
    have : D * (p + q) = -(A % D) := by omega
    have hpq : p + q = 0 := by
      rcases Int.lt_trichotomy (p + q) 0 with h | h | h
      · have := Int.mul_le_mul_of_nonneg_left (show p + q ≤ -1 by omega) (Int.le_of_lt hD)
        omega
      · exact h
      · have := Int.mul_le_mul_of_nonneg_left (show 1 ≤ p + q by omega) (Int.le_of_lt hD)
        omega
    omega
  · intro h
    have h0 : (-A) % D ≠ 0 := by omega
    have hpq : p + q = -1 := by
      rcases Int.lt_trichotomy (p + q) (-1) with h | h | h
      · have := Int.mul_le_mul_of_nonneg_left (show p + q ≤ -2 by omega) (Int.le_of_lt hD)
        omega
      · exact h
      · have := Int.mul_le_mul_of_nonneg_left (show 0 ≤ p + q by omega) (Int.le_of_lt hD)
        omega
    omega
theorem floorDiv32 {x d : Int32} {A D : Int} (hx : x.toInt = A) (hd : d.toInt = D) (h0 : 0 < D) (h1 : -1000000000 ≤ A) (h2 : A ≤ 1000000000) : ∃ e, f_J9_floorDiv_7cf53 x d = some e ∧ e.toInt = A / D := by
  obtain ⟨r1, r2⟩ := jrem hx hd h0 h1 h2
  have tm := Int.tmod_add_mul_tdiv A D
  unfold f_J9_floorDiv_7cf53
  have nz : nzI d = true := decide_eq_true (fun z => by rw [z] at hd; rw [show (0 : Int32).toInt = 0 by decide] at hd; omega)
  rw [grd_t nz]
  by_cases c : 0 ≤ A
  · rw [if_pos ((xor_sign (by omega)).mpr (by omega))]
    exact ⟨_, rfl, by rw [r2, Int.tdiv_eq_ediv_of_nonneg c]⟩
  · rw [if_neg (fun z => by have := (xor_sign (by omega)).mp z; omega)]
    obtain ⟨t1, t2⟩ := tdiv_neg_floor (A := A) (by omega) h0
    have hm : (x / d * d = x) ↔ A.tmod D = 0 := by
      constructor
      · intro h
        rw [h] at r1
        rw [← r1, Int32.sub_self]; decide
      · intro h
        rw [h] at r1
        have := i32_zero.mpr r1
        have hs : x = x / d * d := by
          have := congrArg (fun q => q + x / d * d) this
          simp only [Int32.zero_add] at this
          rw [Int32.sub_add_cancel] at this
          exact this
        exact hs.symm
    have hb : -1000000000 ≤ A.tdiv D ∧ A.tdiv D ≤ 1000000000 := by
      have e : A.tdiv D = -((-A).tdiv D) := by rw [Int.neg_tdiv, Int.neg_neg]
      have u1 : 0 ≤ (-A).tdiv D := Int.tdiv_nonneg (by omega) (Int.le_of_lt h0)
      have u2 : (-A).tdiv D ≤ -A := by
        rw [Int.tdiv_eq_ediv_of_nonneg (show 0 ≤ -A by omega)]
        exact Int.ediv_le_self _ (by omega)
      omega
    by_cases c2 : A.tmod D = 0
    · rw [if_pos (hm.mpr c2)]
      exact ⟨_, rfl, by rw [r2, t1 c2]⟩
    · rw [if_neg (fun z => c2 (hm.mp z))]
      have o1 : (1 : Int32).toInt = 1 := by decide
      exact ⟨_, rfl, by rw [i32_sub (by rw [r2, o1]; omega) (by rw [r2, o1]; omega), r2, o1, t2 c2]⟩
