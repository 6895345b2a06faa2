/-! frames of the reference's state; finite bits; measure and together -/
def Fr (A : List Nat) (g g' : Gs) : Prop := ∀ k, k ∉ A → gI g' k = gI g k ∧ gL g' k = gL g k ∧ gD g' k = gD g k ∧ gIA g' k = gIA g k ∧ gLA g' k = gLA g k ∧ gDA g' k = gDA g k ∧ gR g' k = gR g k
theorem Fr.refl (A : List Nat) (g : Gs) : Fr A g g := fun _ _ => ⟨rfl, rfl, rfl, rfl, rfl, rfl, rfl⟩
theorem Fr.trans {A : List Nat} {a b c : Gs} (h : Fr A a b) (h' : Fr A b c) : Fr A a c := fun k hk => by
  obtain ⟨a1, a2, a3, a4, a5, a6, a7⟩ := h k hk
  obtain ⟨b1, b2, b3, b4, b5, b6, b7⟩ := h' k hk
  exact ⟨b1.trans a1, b2.trans a2, b3.trans a3, b4.trans a4, b5.trans a5, b6.trans a6, b7.trans a7⟩
theorem Fr.mono {A B : List Nat} {a b : Gs} (h : Fr A a b) (hs : ∀ k, k ∈ A → k ∈ B) : Fr B a b := fun k hk => h k (fun z => hk (hs k z))
theorem Sc.fr {g g' : Gs} (h : Sc g g') : Fr [0, 1, 2] g g' := fun k hk => by
  have h0 : k ≠ 0 := fun z => hk (by rw [z]; decide)
  have h1 : k ≠ 1 := fun z => hk (by rw [z]; decide)
  have h2 : k ≠ 2 := fun z => hk (by rw [z]; decide)
  exact ⟨h.1 k h0 h2, h.2.1 k h1, congrFun h.2.2.1 k, congrFun h.2.2.2.1 k, congrFun h.2.2.2.2.1 k, congrFun h.2.2.2.2.2.1 k, congrFun h.2.2.2.2.2.2 k⟩
theorem Fr.sI {A : List Nat} {k : Nat} (h : k ∈ A) (g : Gs) (v : Int32) : Fr A g (sI g k v) := fun j hj => ⟨va_up_ne _ _ (fun z => hj (z ▸ h)), rfl, rfl, rfl, rfl, rfl, rfl⟩
theorem Fr.sL {A : List Nat} {k : Nat} (h : k ∈ A) (g : Gs) (v : Int64) : Fr A g (sL g k v) := fun j hj => ⟨rfl, va_up_ne _ _ (fun z => hj (z ▸ h)), rfl, rfl, rfl, rfl, rfl⟩
theorem Fr.sIA {A : List Nat} {k : Nat} (h : k ∈ A) (g : Gs) (v : Nat → Int32) : Fr A g (sIA g k v) := fun j hj => ⟨rfl, rfl, rfl, va_up_ne _ _ (fun z => hj (z ▸ h)), rfl, rfl, rfl⟩
theorem Fr.sLA {A : List Nat} {k : Nat} (h : k ∈ A) (g : Gs) (v : Nat → Int64) : Fr A g (sLA g k v) := fun j hj => ⟨rfl, rfl, rfl, rfl, va_up_ne _ _ (fun z => hj (z ▸ h)), rfl, rfl⟩
/-! finite bits -/
def fin64 (x : Int64) : Bool := decide (uL x % 2 ^ 63 < 9218868437227405312)
theorem fin64_field (x : Int64) : uL x / 2 ^ 52 % 2 ^ 11 = 2047 ↔ ¬ uL x % 2 ^ 63 < 9218868437227405312 := by
  have := uL_lt x
  omega
theorem lN_is {m k : Nat} {c : Int64} (h : lN k = c) (hm : m < 2 ^ 64) (hk : k < 2 ^ 64) : lN m = c ↔ m = k := by
  rw [← h]; exact lN_inj hm hk
theorem isFin12 (x : Int64) : f_X12_isFinite x = some (sgB (fin64 x)) := by
  unfold f_X12_isFinite fin64
  have h1 : (x >>> ((52 : Int32).toInt64 &&& 63)) &&& (2047 : Int64) = lN (uL x / 2 ^ 52 % 2 ^ 11) := by
    apply uL_inj
    rw [uL_mask _ 11 (by decide), uL_sshr x 52 11 _ (by decide) (by decide), uL_lN (by omega)]
  rw [h1]
  by_cases h : uL x / 2 ^ 52 % 2 ^ 11 = 2047
  · rw [h, if_pos (show lN 2047 = 2047 from rfl), decide_eq_false ((fin64_field x).mp h)]; rfl
  · rw [if_neg (fun z => h ((lN_is (k := 2047) (c := 2047) rfl (by omega) (by decide)).mp z)), decide_eq_true (Classical.not_not.mp (fun z => h ((fin64_field x).mpr z)))]; rfl
theorem isFin6 (x : Int64) : f_X6_isFinite x = some (sgB (fin64 x)) := by
  unfold f_X6_isFinite fin64
  have h1 : ((x.toUInt64 >>> ((52 : Int32).toInt64.toUInt64 &&& Int64.toUInt64 63)).toInt64) &&& (2047 : Int64) = lN (uL x / 2 ^ 52 % 2 ^ 11) := by
    apply uL_inj
    rw [uL_mask _ 11 (by decide), uL_ushr x 52 _ (by decide) (by decide), uL_lN (by omega)]
  rw [h1]
  by_cases h : uL x / 2 ^ 52 % 2 ^ 11 = 2047
  · rw [h, if_pos (show lN 2047 = 2047 from rfl), decide_eq_false ((fin64_field x).mp h)]; rfl
  · rw [if_neg (fun z => h ((lN_is (k := 2047) (c := 2047) rfl (by omega) (by decide)).mp z)), decide_eq_true (Classical.not_not.mp (fun z => h ((fin64_field x).mpr z)))]; rfl
theorem fin64_dv {x : Int64} (h : fin64 x = true) : ∃ s u, Dv x.toUInt64 s u := ⟨_, _, Dv.of (of_decide_eq_true h)⟩
theorem Dv.fin64 {x : Int64} {s : Bool} {u : Nat} (h : Dv x.toUInt64 s u) : fin64 x = true := decide_eq_true h.lt
theorem sgB_if {α : Type} (b : Bool) (x y : α) : (if sgB b = 0 then x else y) = if b = true then y else x := by cases b <;> rfl
theorem nsnB_of {b : Int64} (h : Jvm.FP.Core.val64 b.toUInt64 ≠ .nan) : nsnB b = true := by
  unfold nsnB vn_snl2d
  have h1 := (Jvm.FP.Core.ne_nan b.toUInt64).mp h
  have h2 : ¬ (b.toUInt64 &&& 0x7fffffffffffffff > 0x7ff0000000000000) := by
    rw [gt_iff_lt, UInt64.lt_iff_toNat_lt, Jvm.FP.Core.mask_toNat]
    exact Nat.not_lt.mpr h1
  rw [decide_eq_false h2]; rfl
theorem bitsOfD {x : UInt64} (h : Jvm.FP.Core.val64 x ≠ .nan) : f_Jxe99ae_doubleToLongBits_ccdee x = some x.toInt64 := by
  have hz : Dz x (Jvm.FP.Core.zval Jvm.FP.Core.b64 (Jvm.FP.Core.val64 x)) := ⟨h, rfl⟩
  have h1 : f_Jxe99ae_isNaN_b9ae7 x = some 0 := by
    unfold f_Jxe99ae_isNaN_b9ae7
    exact if_pos ((cv_eq hz hz).mpr rfl)
  unfold f_Jxe99ae_doubleToLongBits_ccdee
  rw [bnd_s h1, if_pos rfl]
theorem measure_eq {n : Nat} {g gT g2 : Gs} {x y : Int64} (hn : 3000 ≤ n) (hT : Tb g2) : ∃ r g', f_X11_measure n gT g2 x y = some r ∧ f_X12_measure n g x y = some (r, g') ∧ Sc g g' := by
  unfold f_X11_measure f_X12_measure
  rw [bnd_s (isFin6 x), bnd_s (isFin12 x), sgB_if, sgB_if]
  by_cases hx : fin64 x = true
  · rw [if_pos hx, if_pos hx, bnd_s (isFin6 y), bnd_s (isFin12 y), sgB_if, sgB_if]
    by_cases hy : fin64 y = true
    · rw [if_pos hy, if_pos hy]
      obtain ⟨s, u, dx⟩ := fin64_dv hx
      obtain ⟨t, v, dy⟩ := fin64_dv hy
      obtain ⟨r, r1, r2⟩ := f_gcd_cls hn hT dx dy
      obtain ⟨q, g', q1, q2, q3⟩ := f_common_ref (g := g) hn dx dy
      have e : r = q.toUInt64 := r2.inj q3
      rw [bnd_s (f_realOf hT dx), bnd_s (f_realOf hT dy), bnd_s r1, bnd_s (f_bits (by omega) hT r2), bnd_s q1]
      refine ⟨_, g', rfl, ?_, q2⟩
      rw [e]; rfl
    · rw [if_neg hy, if_neg hy]
      exact ⟨_, g, rfl, rfl, Sc.refl g⟩
  · rw [if_neg hx, if_neg hx]
    exact ⟨_, g, rfl, rfl, Sc.refl g⟩
/-! sums, products and quotients of finite doubles are no NaN -/
def dop (o : Int32) (x y : UInt64) : UInt64 := if o = 43 then FP.dadd x y else if o = 45 then FP.dsub x y else if o = 42 then FP.dmul x y else FP.ddiv x y
theorem nn_of {a : UInt64} (h : Jvm.FP.Core.dIsNaN a = false) : Jvm.FP.Core.val64 a ≠ .nan := (Jvm.FP.Core.notNaN_iff a).mp h
theorem Dv.zero_iff {a : UInt64} {s : Bool} {u : Nat} (h : Dv a s u) : Jvm.FP.Core.DZero a ↔ u = 0 := by
  rw [Jvm.FP.Core.zero_bits2, h.mag, Jvm.FP.Core.unitsOf_eq_zero]
theorem dop_nn {o : Int32} {x y : UInt64} {s t : Bool} {u v : Nat} (hx : Dv x s u) (hy : Dv y t v) (hv : v ≠ 0 ∨ o = 43 ∨ o = 45 ∨ o = 42) : Jvm.FP.Core.val64 (dop o x y) ≠ .nan := by
  unfold dop
  split
  · exact nn_of (Jvm.FP.Core.dadd_out hx.fin.notNaN hy.fin)
  · split
    · exact nn_of (Jvm.FP.Core.dsub_out hx.fin.notNaN hy.fin)
    · split
      · exact nn_of (Jvm.FP.Core.dmul_out hx.fin hy.fin)
      · refine nn_of (Jvm.FP.Core.ddiv_out hx.fin.notNaN hy.fin (fun z => ?_))
        rcases hv with h | h | h | h
        · exact h (hy.zero_iff.mp z)
        · exact absurd h (by assumption)
        · exact absurd h (by assumption)
        · exact absurd h (by assumption)
/-- finite bits, or OVER -/
def orOver (z : UInt64) : Int64 := if fin64 z.toInt64 = true then z.toInt64 else 9223372036854775807
theorem orOver_over (z : UInt64) : orOver z = 9223372036854775807 ↔ fin64 z.toInt64 = false := by
  unfold orOver
  by_cases h : fin64 z.toInt64 = true
  · rw [if_pos h]
    refine ⟨fun e => ?_, fun e => absurd (h.symm.trans e) (by decide)⟩
    rw [e] at h
    exact absurd h (by decide)
  · rw [if_neg h]
    exact ⟨fun _ => by simpa using h, fun _ => rfl⟩
theorem reckoned7 {n : Nat} {g : Gs} {o : Int32} {a b : Int64} (ha : Jvm.FP.Core.val64 a.toUInt64 ≠ .nan) (hb : Jvm.FP.Core.val64 b.toUInt64 ≠ .nan) (hz : Jvm.FP.Core.val64 (dop o a.toUInt64 b.toUInt64) ≠ .nan) : f_X12_reckoned n g o a b 7 = some (orOver (dop o a.toUInt64 b.toUInt64), g) := by
  have bec : ∀ (g : Gs) (x : Int64), f_X12_become n g x 7 7 = some (x, g) := fun g x => by
    unfold f_X12_become
    exact if_pos rfl
  have fin : ∀ z : UInt64, Jvm.FP.Core.val64 z ≠ .nan → b_X12_reckoned_76 n g 7 z = some (orOver z, g) := by
    intro z hz
    unfold b_X12_reckoned_76 orOver
    rw [bnd_s (bitsOfD hz), bnd_s (isFin12 _), sgB_if]
    by_cases h : fin64 z.toInt64 = true
    · rw [if_pos h, if_pos h, bnd_s (bec _ _)]
    · rw [if_neg h, if_neg h]
  unfold dop at hz ⊢
  unfold f_X12_reckoned
  rw [bnd_s (bec _ _)]
  dsimp only
  rw [grd_t (nsnB_of ha), bnd_s (bec _ _)]
  dsimp only
  rw [grd_t (nsnB_of hb)]
  by_cases h1 : o = 43
  · rw [if_pos h1] at hz
    rw [if_pos h1, if_pos h1, grd_t (n64_of hz)]
    exact fin _ hz
  · rw [if_neg h1] at hz
    rw [if_neg h1, if_neg h1]
    by_cases h2 : o = 45
    · rw [if_pos h2] at hz
      rw [if_pos h2, if_pos h2, grd_t (n64_of hz)]
      exact fin _ hz
    · rw [if_neg h2] at hz
      rw [if_neg h2, if_neg h2]
      by_cases h3 : o = 42
      · rw [if_pos h3] at hz
        rw [if_pos h3, if_pos h3, grd_t (n64_of hz)]
        exact fin _ hz
      · rw [if_neg h3] at hz
        rw [if_neg h3, if_neg h3, grd_t (n64_of hz)]
        exact fin _ hz
