/-! orders of reals -/
theorem xor_ones {m k : Nat} (h : m < 2 ^ k) : m ^^^ (2 ^ k - 1) = 2 ^ k - 1 - m := by
  have := congrArg BitVec.toNat (BitVec.xor_allOnes (x := BitVec.ofNat k m))
  rw [BitVec.toNat_xor, BitVec.toNat_allOnes, BitVec.toNat_not, BitVec.toNat_ofNat, Nat.mod_eq_of_lt h] at this
  exact this
def plc (x : Int64) : Int := if uL x < 2 ^ 63 then (uL x : Int) else -((uL x % 2 ^ 63 : Nat) : Int) - 1
theorem f_place (x : Int64) : ∃ p, f_X12_place x = some p ∧ p.toInt = plc x := by
  unfold f_X12_place plc
  have hl := uL_lt x
  by_cases h : uL x < 2 ^ 63
  · rw [if_pos ((uL_le0_iff x).mpr h), if_pos h]
    exact ⟨x, rfl, by rw [uL_toInt, if_pos h]⟩
  · rw [if_neg (fun z => h ((uL_le0_iff x).mp z)), if_neg h]
    refine ⟨_, rfl, ?_⟩
    have e1 : uL (x ^^^ (9223372036854775807 : Int64)) = uL x ^^^ (2 ^ 63 - 1) := by
      show (x.toBitVec ^^^ (9223372036854775807 : Int64).toBitVec).toNat = _
      rw [BitVec.toNat_xor]; rfl
    have e2 : (uL x ^^^ (2 ^ 63 - 1)) % 2 ^ 63 = 2 ^ 63 - 1 - uL x % 2 ^ 63 := by
      rw [Nat.xor_mod_two_pow, Nat.mod_eq_of_lt (show 2 ^ 63 - 1 < 2 ^ 63 by decide), xor_ones (Nat.mod_lt _ (by decide))]
    have e3 : (uL x ^^^ (2 ^ 63 - 1)) / 2 ^ 63 = 1 := by
      rw [Nat.xor_div_two_pow, show (2 ^ 63 - 1) / 2 ^ 63 = 0 by decide, Nat.xor_zero]; omega
    rw [uL_toInt, e1]
    generalize uL x ^^^ (2 ^ 63 - 1) = V at *
    rw [if_neg (by omega)]
    omega
theorem dkey_uL (x : Int64) : Jvm.FP.Core.dkey x.toUInt64 = if 2 ^ 63 ≤ uL x then ((2 ^ 63 : Nat) : Int) - (uL x : Int) else (uL x : Int) := rfl
theorem shl1_zero (x : Int64) : x <<< ((1 : Int32).toInt64 &&& 63) = (0 : Int64) ↔ uL x % 2 ^ 63 = 0 := by
  have e : uL (x <<< ((1 : Int32).toInt64 &&& 63)) = uL x * 2 ^ 1 % 2 ^ 64 := uL_shl x 1 _ (by decide)
  have hl := uL_lt x
  constructor
  · intro h
    rw [h, show uL (0 : Int64) = 0 from rfl] at e
    omega
  · intro h
    apply uL_inj
    rw [e, show uL (0 : Int64) = 0 from rfl]
    omega
/-- the reference's order, of whole numbers -/
def plz (x : Int64) : Int := if uL x % 2 ^ 63 = 0 then 0 else plc x
theorem plz_lt (x y : Int64) : (plz x < plz y ↔ Jvm.FP.Core.dkey x.toUInt64 < Jvm.FP.Core.dkey y.toUInt64) ∧ (plz x ≤ plz y ↔ Jvm.FP.Core.dkey x.toUInt64 ≤ Jvm.FP.Core.dkey y.toUInt64) := by
  rw [dkey_uL, dkey_uL]
  unfold plz plc
  have h1 := uL_lt x
  have h2 := uL_lt y
  generalize uL x = a at *
  generalize uL y = b at *
  by_cases c1 : a % 2 ^ 63 = 0 <;> by_cases c2 : b % 2 ^ 63 = 0 <;> by_cases c3 : a < 2 ^ 63 <;> by_cases c4 : b < 2 ^ 63 <;> simp only [c1, c2, c3, c4, if_true, if_false] <;> (constructor <;> constructor <;> intro h <;> (repeat' split at h) <;> (repeat' split) <;> omega)
theorem order_eq {x y : Int64} {s t : Bool} {u v : Nat} (hx : Dv x.toUInt64 s u) (hy : Dv y.toUInt64 t v) : ∃ r, f_X12_order x y = some r ∧ f_X1_orderOf x.toUInt64 y.toUInt64 = some r := by
  have nrm : ∀ z : Int64, ∃ p, (if z <<< ((1 : Int32).toInt64 &&& 63) = (0 : Int64) then f_X12_place 0 else f_X12_place z) = some p ∧ p.toInt = plz z := by
    intro z
    unfold plz
    by_cases c : uL z % 2 ^ 63 = 0
    · rw [if_pos ((shl1_zero z).mpr c), if_pos c]
      exact ⟨0, rfl, by decide⟩
    · rw [if_neg (fun q => c ((shl1_zero z).mp q)), if_neg c]
      exact f_place z
  obtain ⟨p, p1, p2⟩ := nrm x
  obtain ⟨q, q1, q2⟩ := nrm y
  have e : f_X12_order x y = (if q ≤ p then (if p ≤ q then (some (0 : Int32)) else (some (1 : Int32))) else (some (-1 : Int32))) := by
    unfold f_X12_order b_X12_order_13 b_X12_order_31
    by_cases c1 : x <<< ((1 : Int32).toInt64 &&& 63) = (0 : Int64)
    · rw [if_pos c1] at p1
      rw [if_pos c1, bnd_s p1]
      by_cases c2 : y <<< ((1 : Int32).toInt64 &&& 63) = (0 : Int64)
      · rw [if_pos c2] at q1
        rw [if_pos c2, bnd_s q1]
      · rw [if_neg c2] at q1
        rw [if_neg c2, bnd_s q1]
    · rw [if_neg c1] at p1
      rw [if_neg c1, bnd_s p1]
      by_cases c2 : y <<< ((1 : Int32).toInt64 &&& 63) = (0 : Int64)
      · rw [if_pos c2] at q1
        rw [if_pos c2, bnd_s q1]
      · rw [if_neg c2] at q1
        rw [if_neg c2, bnd_s q1]
  rw [e]
  have k1 := (dk_lt (c := .g) hx.ne_nan hy.ne_nan).2
  have k2 := (dk_lt (c := .l) hx.ne_nan hy.ne_nan).1
  have o1 := (plz_lt y x).2
  have o2 := (plz_lt x y).2
  have l1 : q ≤ p ↔ plz y ≤ plz x := by rw [Int64.le_iff_toInt_le, p2, q2]
  have l2 : p ≤ q ↔ plz x ≤ plz y := by rw [Int64.le_iff_toInt_le, p2, q2]
  have k3 : Op.cmpValue (FP.dcmp x.toUInt64 y.toUInt64) .l ≤ 0 ↔ Jvm.FP.Core.dkey x.toUInt64 ≤ Jvm.FP.Core.dkey y.toUInt64 := by
    constructor
    · intro h
      have : ¬ 0 < Op.cmpValue (FP.dcmp x.toUInt64 y.toUInt64) .l := Int32.not_lt.mpr h
      rw [k2] at this
      omega
    · intro h
      refine Int32.not_lt.mp (fun z => ?_)
      have := k2.mp z
      omega
  unfold f_X1_orderOf
  by_cases c1 : q ≤ p
  · rw [if_pos c1, if_pos (k1.mpr (o1.mp (l1.mp c1)))]
    by_cases c2 : p ≤ q
    · rw [if_pos c2, if_pos (k3.mpr (o2.mp (l2.mp c2)))]; exact ⟨_, rfl, rfl⟩
    · rw [if_neg c2, if_neg (fun z => c2 (l2.mpr (o2.mpr (k3.mp z))))]; exact ⟨_, rfl, rfl⟩
  · rw [if_neg c1, if_neg (fun z => c1 (l1.mpr (o1.mpr (k1.mp z))))]; exact ⟨_, rfl, rfl⟩
/-! least and most -/
theorem two_of {x y : Int64} {s t : Bool} {u v : Nat} (hx : Dv x.toUInt64 s u) (hy : Dv y.toUInt64 t v) : f_X6_leastOf x.toUInt64 y.toUInt64 = some (if plc x < plc y then x.toUInt64 else y.toUInt64) ∧ f_X6_mostOf x.toUInt64 y.toUInt64 = some (if plc x < plc y then y.toUInt64 else x.toUInt64) := by
  have k := dk_lt (c := .g) hx.ne_nan hy.ne_nan
  have sx := hx.sgn
  have sy := hy.sgn
  have ex : x.toUInt64.toNat = uL x := rfl
  have ey : y.toUInt64.toNat = uL y := rfl
  rw [ex] at sx
  rw [ey] at sy
  have h1 := uL_lt x
  have h2 := uL_lt y
  have zc : ∀ c, (Op.cmpValue (FP.dcmp x.toUInt64 y.toUInt64) c < 0 ↔ Jvm.FP.Core.dkey x.toUInt64 < Jvm.FP.Core.dkey y.toUInt64) ∧ (0 < Op.cmpValue (FP.dcmp x.toUInt64 y.toUInt64) c ↔ Jvm.FP.Core.dkey y.toUInt64 < Jvm.FP.Core.dkey x.toUInt64) ∧ (Op.cmpValue (FP.dcmp x.toUInt64 y.toUInt64) c = 0 ↔ Jvm.FP.Core.dkey x.toUInt64 = Jvm.FP.Core.dkey y.toUInt64) := by
    intro c
    have h := dk_lt (c := c) hx.ne_nan hy.ne_nan
    have hlt : Op.cmpValue (FP.dcmp x.toUInt64 y.toUInt64) c < 0 ↔ Jvm.FP.Core.dkey x.toUInt64 < Jvm.FP.Core.dkey y.toUInt64 := by
      rw [← Int32.not_le, h.2]; omega
    refine ⟨hlt, h.1, ?_⟩
    constructor
    · intro z
      have a : ¬ 0 < Op.cmpValue (FP.dcmp x.toUInt64 y.toUInt64) c := by rw [z]; decide
      have b : ¬ Op.cmpValue (FP.dcmp x.toUInt64 y.toUInt64) c < 0 := by rw [z]; decide
      rw [h.1] at a
      rw [hlt] at b
      omega
    · intro z
      have hz : Dz x.toUInt64 (Jvm.FP.Core.zval Jvm.FP.Core.b64 (Jvm.FP.Core.val64 x.toUInt64)) := ⟨hx.ne_nan, rfl⟩
      have a : ¬ 0 < Op.cmpValue (FP.dcmp x.toUInt64 y.toUInt64) c := by rw [h.1]; omega
      have b : ¬ Op.cmpValue (FP.dcmp x.toUInt64 y.toUInt64) c < 0 := by rw [hlt]; omega
      exact Int32.le_antisymm (Int32.not_lt.mp a) (Int32.not_lt.mp b)
  have same : uL x = uL y → x.toUInt64 = y.toUInt64 := fun e => by rw [uL_inj e]
  constructor
  · unfold f_X6_leastOf
    by_cases c1 : Jvm.FP.Core.dkey x.toUInt64 < Jvm.FP.Core.dkey y.toUInt64
    · rw [if_pos ((zc .g).1.mpr c1)]
      rw [dkey_uL, dkey_uL] at c1
      unfold plc
      by_cases c : (if uL x < 2 ^ 63 then (uL x : Int) else -((uL x % 2 ^ 63 : Nat) : Int) - 1) < (if uL y < 2 ^ 63 then (uL y : Int) else -((uL y % 2 ^ 63 : Nat) : Int) - 1)
      · rw [if_pos c]
      · exfalso
        split at c <;> split at c <;> split at c1 <;> split at c1 <;> omega
    · rw [if_neg (fun z => c1 ((zc .g).1.mp z))]
      by_cases c2 : Jvm.FP.Core.dkey x.toUInt64 = Jvm.FP.Core.dkey y.toUInt64
      · rw [if_pos ((zc .l).2.2.mpr c2), bnd_s (f_isNegative hx), sgB_if]
        rw [dkey_uL, dkey_uL] at c2
        unfold plc
        by_cases c3 : 2 ^ 63 ≤ uL x
        · rw [sx, decide_eq_true c3, if_pos rfl]
          by_cases c4 : 2 ^ 63 ≤ uL y
          · rw [same (by rw [if_pos c3, if_pos c4] at c2; omega)]
            rw [ite_self]
          · rw [if_pos c3, if_neg c4] at c2
            rw [if_pos]
            rw [if_neg (by omega), if_pos (by omega)]
            omega
        · rw [sx, decide_eq_false c3, if_neg (by decide)]
          by_cases c4 : 2 ^ 63 ≤ uL y
          · rw [if_neg c3, if_pos c4] at c2
            rw [if_neg]
            rw [if_pos (by omega), if_neg (by omega)]
            omega
          · rw [same (by rw [if_neg c3, if_neg c4] at c2; omega)]
            rw [ite_self]
      · rw [if_neg (fun z => c2 ((zc .l).2.2.mp z))]
        rw [dkey_uL, dkey_uL] at c1 c2
        unfold plc
        rw [if_neg]
        intro c
        split at c <;> split at c <;> split at c1 <;> split at c1 <;> omega
  · unfold f_X6_mostOf
    by_cases c1 : Jvm.FP.Core.dkey y.toUInt64 < Jvm.FP.Core.dkey x.toUInt64
    · rw [if_pos ((zc .l).2.1.mpr c1)]
      rw [dkey_uL, dkey_uL] at c1
      unfold plc
      rw [if_neg]
      intro c
      split at c <;> split at c <;> split at c1 <;> split at c1 <;> omega
    · rw [if_neg (fun z => c1 ((zc .l).2.1.mp z))]
      by_cases c2 : Jvm.FP.Core.dkey x.toUInt64 = Jvm.FP.Core.dkey y.toUInt64
      · rw [if_pos ((zc .l).2.2.mpr c2), bnd_s (f_isNegative hy), sgB_if]
        rw [dkey_uL, dkey_uL] at c2
        unfold plc
        by_cases c4 : 2 ^ 63 ≤ uL y
        · rw [sy, decide_eq_true c4, if_pos rfl]
          by_cases c3 : 2 ^ 63 ≤ uL x
          · rw [same (by rw [if_pos c3, if_pos c4] at c2; omega)]
            rw [ite_self]
          · rw [if_neg c3, if_pos c4] at c2
            rw [if_neg]
            rw [if_pos (by omega), if_neg (by omega)]
            omega
        · rw [sy, decide_eq_false c4, if_neg (by decide)]
          by_cases c3 : 2 ^ 63 ≤ uL x
          · rw [if_pos c3, if_neg c4] at c2
            rw [if_pos]
            rw [if_neg (by omega), if_pos (by omega)]
            omega
          · rw [same (by rw [if_neg c3, if_neg c4] at c2; omega)]
            rw [ite_self]
      · rw [if_neg (fun z => c2 ((zc .l).2.2.mp z))]
        rw [dkey_uL, dkey_uL] at c1 c2
        unfold plc
        by_cases c : (if uL x < 2 ^ 63 then (uL x : Int) else -((uL x % 2 ^ 63 : Nat) : Int) - 1) < (if uL y < 2 ^ 63 then (uL y : Int) else -((uL y % 2 ^ 63 : Nat) : Int) - 1)
        · rw [if_pos c]
        · exfalso
          split at c <;> split at c <;> split at c1 <;> split at c1 <;> omega
