/-! doubles by their value, infinities too; comparisons -/
def Dz (a : UInt64) (z : Int) : Prop := Jvm.FP.Core.val64 a ≠ .nan ∧ Jvm.FP.Core.zval Jvm.FP.Core.b64 (Jvm.FP.Core.val64 a) = z
theorem Dv.dz {a : UInt64} {s : Bool} {u : Nat} (h : Dv a s u) : Dz a (Jvm.FP.Core.signed s u) := ⟨h.ne_nan, h.zval⟩
theorem cv_val {a b : UInt64} {z w : Int} {c : CmpOp} (ha : Dz a z) (hb : Dz b w) : Op.cmpValue (FP.dcmp a b) c = if z < w then -1 else if z = w then 0 else 1 := by
  have h : FP.dcmp a b = some (compare (Jvm.FP.Core.zval Jvm.FP.Core.b64 (Jvm.FP.Core.val64 a)) (Jvm.FP.Core.zval Jvm.FP.Core.b64 (Jvm.FP.Core.val64 b))) := Jvm.FP.Core.dcmp_zval ha.1 hb.1
  rw [ha.2, hb.2, Jvm.FP.Core.compare_ite] at h
  rw [h]
  by_cases h1 : z < w
  · rw [if_pos h1, if_pos h1]; rfl
  · rw [if_neg h1, if_neg h1]
    by_cases h2 : z = w
    · rw [if_pos h2, if_pos h2]; rfl
    · rw [if_neg h2, if_neg h2]; rfl
theorem cv_lt {a b : UInt64} {z w : Int} {c : CmpOp} (ha : Dz a z) (hb : Dz b w) : Op.cmpValue (FP.dcmp a b) c < 0 ↔ z < w := by
  rw [cv_val ha hb]
  by_cases h1 : z < w
  · rw [if_pos h1]; exact ⟨fun _ => h1, fun _ => by decide⟩
  · rw [if_neg h1]
    by_cases h2 : z = w
    · rw [if_pos h2]; exact ⟨fun h => absurd h (by decide), fun h => absurd h h1⟩
    · rw [if_neg h2]; exact ⟨fun h => absurd h (by decide), fun h => absurd h h1⟩
theorem cv_le {a b : UInt64} {z w : Int} {c : CmpOp} (ha : Dz a z) (hb : Dz b w) : Op.cmpValue (FP.dcmp a b) c ≤ 0 ↔ z ≤ w := by
  rw [cv_val ha hb]
  by_cases h1 : z < w
  · rw [if_pos h1]; exact ⟨fun _ => by omega, fun _ => by decide⟩
  · rw [if_neg h1]
    by_cases h2 : z = w
    · rw [if_pos h2]; exact ⟨fun _ => by omega, fun _ => by decide⟩
    · rw [if_neg h2]; exact ⟨fun h => absurd h (by decide), fun h => by omega⟩
theorem cv_gt {a b : UInt64} {z w : Int} {c : CmpOp} (ha : Dz a z) (hb : Dz b w) : 0 < Op.cmpValue (FP.dcmp a b) c ↔ w < z := by
  rw [cv_val ha hb]
  by_cases h1 : z < w
  · rw [if_pos h1]; exact ⟨fun h => absurd h (by decide), fun h => by omega⟩
  · rw [if_neg h1]
    by_cases h2 : z = w
    · rw [if_pos h2]; exact ⟨fun h => absurd h (by decide), fun h => by omega⟩
    · rw [if_neg h2]; exact ⟨fun _ => by omega, fun _ => by decide⟩
theorem cv_ge {a b : UInt64} {z w : Int} {c : CmpOp} (ha : Dz a z) (hb : Dz b w) : 0 ≤ Op.cmpValue (FP.dcmp a b) c ↔ w ≤ z := by
  rw [cv_val ha hb]
  by_cases h1 : z < w
  · rw [if_pos h1]; exact ⟨fun h => absurd h (by decide), fun h => by omega⟩
  · rw [if_neg h1]
    by_cases h2 : z = w
    · rw [if_pos h2]; exact ⟨fun _ => by omega, fun _ => by decide⟩
    · rw [if_neg h2]; exact ⟨fun _ => by omega, fun _ => by decide⟩
theorem cv_eq {a b : UInt64} {z w : Int} {c : CmpOp} (ha : Dz a z) (hb : Dz b w) : Op.cmpValue (FP.dcmp a b) c = 0 ↔ z = w := by
  rw [cv_val ha hb]
  by_cases h1 : z < w
  · rw [if_pos h1]; exact ⟨fun h => absurd h (by decide), fun h => by omega⟩
  · rw [if_neg h1]
    by_cases h2 : z = w
    · rw [if_pos h2]; exact ⟨fun _ => h2, fun _ => rfl⟩
    · rw [if_neg h2]; exact ⟨fun h => absurd h (by decide), fun h => absurd h h2⟩
theorem n64_of {r : UInt64} (h : Jvm.FP.Core.val64 r ≠ .nan) : n64 r = true := by
  unfold n64
  refine decide_eq_true ?_
  rw [UInt64.le_iff_toNat_le, Jvm.FP.Core.mask_toNat]
  exact (Jvm.FP.Core.ne_nan r).mp h
theorem Dz.n64 {r : UInt64} {z : Int} (h : Dz r z) : n64 r = true := n64_of h.1
theorem Dv.n64 {r : UInt64} {s : Bool} {u : Nat} (h : Dv r s u) : n64 r = true := n64_of h.ne_nan
theorem grd_t {α : Type} {b : Bool} {e : Option α} (h : b = true) : grd b e = e := by subst h; rfl
theorem bnd_s {α β : Type} {x : Option α} {q : α} {k : α → Option β} (h : x = some q) : bnd x k = k q := by subst h; rfl
theorem sg_t (u : Nat) : Jvm.FP.Core.signed true u = -(u : Int) := rfl
theorem sg_f (u : Nat) : Jvm.FP.Core.signed false u = (u : Int) := rfl
theorem dv_zero : Dv FP.dconst0 false 0 := ⟨0, -1074, by rw [← dv_qmin]; exact Jvm.FP.Core.val64_dconst0, by unfold Jvm.FP.Core.inUnits; rw [Nat.zero_mul]⟩
theorem one64_split (k : Nat) (h : k ≤ 1074) : Jvm.FP.Core.one64 = 2 ^ (1074 - k) * 2 ^ k := by
  unfold Jvm.FP.Core.one64
  rw [← Nat.pow_add]; congr 1; omega
theorem dv_one : Dv FP.dconst1 false Jvm.FP.Core.one64 := ⟨2 ^ 52, -52, Jvm.FP.Core.val64_dconst1, by
  unfold Jvm.FP.Core.inUnits Jvm.FP.Core.one64
  rw [← Nat.pow_add]; congr 1⟩
/-- wholes of up to 53 digits as doubles -/
theorem dv_l2d {m : Nat} (h : m < 2 ^ 53) : Dv (FP.l2d (lN m)) false (m * Jvm.FP.Core.one64) := by
  have h1 : (lN m).toInt = (m : Int) := pk_lT (by omega)
  have h2 : Jvm.FP.Core.val64 (FP.l2d (lN m)) = Jvm.FP.Core.round Jvm.FP.Core.b64 (.fin false m 0) := by
    have := Jvm.FP.Core.val64_l2d (lN m)
    rw [h1] at this
    have e : Jvm.FP.Core.ofInt (m : Int) = .fin false m 0 := by
      unfold Jvm.FP.Core.ofInt
      rw [show decide ((m : Int) < 0) = false from decide_eq_false (by omega), Int.natAbs_natCast]
    rw [e] at this
    exact this
  refine Dv.round (k := 1074) h2 h (by decide) ?_
  rw [show ((0 : Int) + 1074).toNat = 1074 by decide, show (-((0 : Int) + 1074)).toNat = 0 by decide, Nat.pow_zero, Nat.mul_one]
theorem dv_d2l {x : UInt64} {u m : Nat} (h : Dv x false u) (hm : u / Jvm.FP.Core.one64 = m) (h2 : m < 2 ^ 63) : FP.d2l x = lN m := by
  apply Int64.toInt_inj.mp
  have := Jvm.FP.Core.d2l_val h.ne_nan
  rw [h.sgn', h.zmag, hm, sg_f] at this
  have e : (FP.d2l x).toInt = _ := this
  rw [e, pk_lT h2]
  omega
theorem dv_d2l_exact {x : UInt64} {c : Nat} (h : Dv x false (c * Jvm.FP.Core.one64)) (h2 : c < 2 ^ 63) : FP.d2l x = lN c :=
  dv_d2l h (Nat.mul_div_cancel _ Jvm.FP.Core.one64_pos) h2
