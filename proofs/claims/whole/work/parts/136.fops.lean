/-! FLOATs reckoned in DOUBLE and rounded are FLOATs reckoned -/
theorem f32_inj {a b : UInt32} (ha : Jvm.FP.Core.val32 a ≠ .nan) (hb : Jvm.FP.Core.val32 b ≠ .nan) (hs : Jvm.FP.Core.sgn (Jvm.FP.Core.val32 a) = Jvm.FP.Core.sgn (Jvm.FP.Core.val32 b)) (hz : Jvm.FP.Core.zmag Jvm.FP.Core.b32 (Jvm.FP.Core.val32 a) = Jvm.FP.Core.zmag Jvm.FP.Core.b32 (Jvm.FP.Core.val32 b)) : a = b := by
  rw [Jvm.FP.Core.zmag_toNat32 ha, Jvm.FP.Core.zmag_toNat32 hb] at hz
  rw [Jvm.FP.Core.sgn_bits32 ha, Jvm.FP.Core.sgn_bits32 hb] at hs
  have l1 := Jvm.FP.Core.unitsOf_le_iff (f := Jvm.FP.Core.b32) (m := a.toNat % 2 ^ 31) (k := b.toNat % 2 ^ 31)
  have l2 := Jvm.FP.Core.unitsOf_le_iff (f := Jvm.FP.Core.b32) (m := b.toNat % 2 ^ 31) (k := a.toNat % 2 ^ 31)
  rw [hz] at l1 l2
  have m1 := l1.mp (Nat.le_refl _)
  have m2 := l2.mp (Nat.le_refl _)
  have hs' := decide_eq_decide.mp hs
  have h1 := a.toNat_lt
  have h2 := b.toNat_lt
  apply UInt32.toNat_inj.mp
  omega
theorem zmag_sign (f : Jvm.FP.Core.Fmt) (s : Bool) (A B : Nat) (e : Int) : Jvm.FP.Core.zmag f (Jvm.FP.Core.roundRatio f s A B e) = Jvm.FP.Core.zmag f (Jvm.FP.Core.roundRatio f false A B e) := by
  cases s with
  | false => rfl
  | true =>
    have h := Jvm.FP.Core.negate_roundRatio f false A B e
    rw [show (!false) = true from rfl] at h
    rw [← h]
    cases Jvm.FP.Core.roundRatio f false A B e <;> rfl
theorem two_round {z : UInt64} {q : UInt32} {sg : Bool} {A B : Nat} {e : Int} (hz : Jvm.FP.Core.val64 z = Jvm.FP.Core.roundRatio Jvm.FP.Core.b64 sg A B e) (hq : Jvm.FP.Core.val32 q = Jvm.FP.Core.roundRatio Jvm.FP.Core.b32 sg A B e) (hdr : rr3 (rr A B e) 1 (-1074) = rr3 A B e ∧ rr A B e < 2 ^ 53 * 2 ^ 2045) : FP.d2f z = q ∧ ∃ u, Dv z sg u := by
  have hzm : Jvm.FP.Core.zmag Jvm.FP.Core.b64 (Jvm.FP.Core.val64 z) = rr A B e := by rw [hz, zmag_sign]; rfl
  have hfin : ∃ c q', Jvm.FP.Core.val64 z = .fin sg c q' := by
    rcases Jvm.FP.Core.roundRatio_cases Jvm.FP.Core.b64 sg A B e with ⟨c, q', h⟩ | h
    · exact ⟨c, q', hz.trans h⟩
    · exfalso
      rw [hz, h] at hzm
      have e1 : Jvm.FP.Core.zmag Jvm.FP.Core.b64 (.inf sg) = 2 ^ 52 * 2 ^ 2046 := by
        show Jvm.FP.Core.b64.tails * 2 ^ (Jvm.FP.Core.b64.exps - 2) = _
        rw [show Jvm.FP.Core.b64.tails = 2 ^ 52 by decide, show Jvm.FP.Core.b64.exps - 2 = 2046 by decide]
      rw [e1] at hzm
      have top : (2 : Nat) ^ 52 * 2 ^ 2046 = 2 ^ 53 * 2 ^ 2045 := by rw [← Nat.pow_add, ← Nat.pow_add]
      rw [top] at hzm
      rw [← hzm] at hdr
      exact absurd hdr.2 (Nat.lt_irrefl _)
  obtain ⟨c, q', hc⟩ := hfin
  have hnn : Jvm.FP.Core.val64 z ≠ .nan := by rw [hc]; intro w; cases w
  have hfit := Jvm.FP.Core.val64_fits z
  rw [hc] at hfit
  have g0 := hfit.2.1
  rw [dv_qmin] at g0
  have hu : c * 2 ^ (q' + 1074).toNat = rr A B e := by
    rw [hc] at hzm
    have : Jvm.FP.Core.inUnits c q' Jvm.FP.Core.b64.qmin = rr A B e := hzm
    rw [dv_qmin] at this
    unfold Jvm.FP.Core.inUnits at this
    rw [← this]
    congr 2
  refine ⟨?_, _, ⟨c, q', hc, rfl⟩⟩
  have hd := jd2f hnn
  rw [hc] at hd
  have hd' : Jvm.FP.Core.val32 (FP.d2f z) = Jvm.FP.Core.roundRatio Jvm.FP.Core.b32 sg c 1 q' := hd
  refine f32_inj ?_ ?_ ?_ ?_
  · rw [hd']; exact Jvm.FP.Core.roundRatio_ne_nan _ _ _ _ _
  · rw [hq]; exact Jvm.FP.Core.roundRatio_ne_nan _ _ _ _ _
  · rw [hd', hq, Jvm.FP.Core.sgn_roundRatio, Jvm.FP.Core.sgn_roundRatio]
  · rw [hd', hq, zmag_sign, zmag_sign Jvm.FP.Core.b32 sg A B e]
    have r1 : rr3 c 1 q' = rr3 (rr A B e) 1 (-1074) := by
      refine rr3_congr (by decide) (by decide) ?_
      rw [← hu, Nat.mul_one, Nat.mul_one, show (-1074 - q').toNat = 0 by omega, Nat.pow_zero, Nat.mul_one, show (q' - -1074).toNat = (q' + 1074).toNat by omega]
    exact r1.trans hdr.1
theorem sumSign_mul {s t : Bool} (V : Int) {P : Nat} (hP : 0 < P) : Jvm.FP.Core.sumSign s t (V * (P : Int)) = Jvm.FP.Core.sumSign s t V := by
  unfold Jvm.FP.Core.sumSign
  have hp : 0 < (P : Int) := by omega
  by_cases h0 : V = 0
  · rw [h0, Int.zero_mul]
  · have hne : V * (P : Int) ≠ 0 := Int.mul_ne_zero h0 (by omega)
    rw [if_neg h0, if_neg hne]
    apply decide_eq_decide.mpr
    constructor
    · intro h
      by_cases q : V < 0
      · exact q
      · have := Int.mul_nonneg (show 0 ≤ V by omega) (Int.le_of_lt hp); omega
    · intro h; exact Int.mul_neg_of_neg_of_pos h hp
/-- a sum, in any units below both -/
theorem round_sum {f : Jvm.FP.Core.Fmt} {s t : Bool} {c d : Nat} {q r e0 : Int} (h1 : e0 ≤ q) (h2 : e0 ≤ r) : Jvm.FP.Core.round f (Jvm.FP.Core.exactSum (.fin s c q) (.fin t d r)) = Jvm.FP.Core.roundRatio f (Jvm.FP.Core.sumSign s t (Jvm.FP.Core.signed s (Jvm.FP.Core.inUnits c q e0) + Jvm.FP.Core.signed t (Jvm.FP.Core.inUnits d r e0))) (Jvm.FP.Core.signed s (Jvm.FP.Core.inUnits c q e0) + Jvm.FP.Core.signed t (Jvm.FP.Core.inUnits d r e0)).natAbs 1 e0 := by
  obtain ⟨m, hm⟩ : ∃ m, min q r = m := ⟨_, rfl⟩
  have hm1 : e0 ≤ m := by omega
  have mv : ∀ (c : Nat) (q : Int), m ≤ q → Jvm.FP.Core.inUnits c q e0 = Jvm.FP.Core.inUnits c q m * 2 ^ (m - e0).toNat := fun c q hq => Jvm.FP.Core.inUnits_move c hm1 hq
  rw [mv c q (by omega), mv d r (by omega), Jvm.FP.Core.signed_mul, Jvm.FP.Core.signed_mul, ← Int.add_mul]
  have ex : Jvm.FP.Core.exactSum (.fin s c q) (.fin t d r) = .fin (Jvm.FP.Core.sumSign s t (Jvm.FP.Core.signed s (Jvm.FP.Core.inUnits c q m) + Jvm.FP.Core.signed t (Jvm.FP.Core.inUnits d r m))) (Jvm.FP.Core.signed s (Jvm.FP.Core.inUnits c q m) + Jvm.FP.Core.signed t (Jvm.FP.Core.inUnits d r m)).natAbs m := by
    rw [← hm]; rfl
  rw [ex]
  generalize Jvm.FP.Core.signed s (Jvm.FP.Core.inUnits c q m) + Jvm.FP.Core.signed t (Jvm.FP.Core.inUnits d r m) = V
  have sg := sumSign_mul (s := s) (t := t) V (Nat.two_pow_pos (m - e0).toNat)
  rw [sg]
  show Jvm.FP.Core.roundRatio f (Jvm.FP.Core.sumSign s t V) V.natAbs 1 m = _
  refine Jvm.FP.Core.roundRatio_congr (by decide) (by decide) ?_
  rw [Int.natAbs_mul, Int.natAbs_natCast, Nat.mul_one, Nat.mul_one, show (e0 - m).toNat = 0 by omega, Nat.pow_zero, Nat.mul_one]
/-- a finite float and its shape -/
def Fs (x : UInt32) (s : Bool) (c k : Nat) : Prop := Jvm.FP.Core.val32 x = .fin s c ((k : Int) - 149) ∧ c < 2 ^ 24 ∧ k ≤ 253 ∧ (k = 0 ∨ 2 ^ 23 ≤ c)
theorem Fs.dv {x : UInt32} {s : Bool} {c k : Nat} (h : Fs x s c k) : Dv (FP.f2d x) s (c * 2 ^ k * 2 ^ 925) := by
  have := dv_f2d h.1
  unfold Jvm.FP.Core.inUnits at this
  rw [show ((k : Int) - 149 - -1074).toNat = k + 925 by omega, Nat.pow_add, ← Nat.mul_assoc] at this
  exact this
theorem fs_of_fl {x : Int64} {s : Bool} {u : Nat} {d : UInt64} (h : Fl x s u) (hd : Dv d s u) : ∃ f c k, Fs f s c k ∧ u = c * 2 ^ k * 2 ^ 925 ∧ d = FP.f2d f ∧ FP.d2f d = f := by
  obtain ⟨c, k, h1, h2, h3, h4, -⟩ := h
  have fit : Jvm.FP.Core.fits Jvm.FP.Core.b32 (.fin s c ((k : Int) - 149)) := by
    refine ⟨h2, ?_, ?_, ?_⟩
    · rw [q32]; omega
    · rw [show Jvm.FP.Core.b32.qmax = 104 by decide]; omega
    · rw [q32, show Jvm.FP.Core.b32.tails = 2 ^ 23 by decide]
      rcases h4 with h | h
      · exact .inl (by omega)
      · exact .inr h
  have hF : Fs (Jvm.FP.Core.of32 (.fin s c ((k : Int) - 149))) s c k := ⟨Jvm.FP.Core.val32_of32 fit, h2, h3, h4⟩
  have ed : d = FP.f2d (Jvm.FP.Core.of32 (.fin s c ((k : Int) - 149))) := by
    refine hd.inj ?_
    rw [h1]; exact hF.dv
  refine ⟨_, c, k, hF, h1, ed, ?_⟩
  have hnn : Jvm.FP.Core.val32 (Jvm.FP.Core.of32 (.fin s c ((k : Int) - 149))) ≠ .nan := by rw [hF.1]; intro z; cases z
  have dn : Jvm.FP.Core.val64 d ≠ .nan := hd.ne_nan
  refine Jvm.FP.Core.val32_inj (by rw [jd2f dn]; exact fun z => dn (Jvm.FP.Core.round_nan.mp z)) ?_
  rw [jd2f dn, ed, jf2d hnn]
  exact Jvm.FP.Core.round_widen Jvm.FP.Core.good_b32 Jvm.FP.Core.good_b64 Jvm.FP.Core.within_32_64 (Jvm.FP.Core.val32_fits _)
/-- sums, whatever the signs -/
theorem sum_two {x y z : UInt64} {q : UInt32} {s t : Bool} {c k d l : Nat} {X Y : Jvm.FP.Core.Datum} (hX : ∃ c' q', X = .fin s c' q' ∧ -1074 ≤ q' ∧ Jvm.FP.Core.inUnits c' q' (-1074) = c * 2 ^ k * 2 ^ 925) (hY : ∃ c' q', Y = .fin t c' q' ∧ -1074 ≤ q' ∧ Jvm.FP.Core.inUnits c' q' (-1074) = d * 2 ^ l * 2 ^ 925) (hc : c < 2 ^ 24) (hd : d < 2 ^ 24) (hk : k ≤ 253) (hl : l ≤ 253) (nk : k = 0 ∨ 2 ^ 23 ≤ c) (nl : l = 0 ∨ 2 ^ 23 ≤ d) (hz : Jvm.FP.Core.val64 z = Jvm.FP.Core.round Jvm.FP.Core.b64 (Jvm.FP.Core.exactSum X Y)) (hq : Jvm.FP.Core.val32 q = Jvm.FP.Core.round Jvm.FP.Core.b32 (Jvm.FP.Core.exactSum (.fin s c ((k : Int) - 149)) (.fin t d ((l : Int) - 149)))) : FP.d2f z = q ∧ ∃ sg u, Dv z sg u := by
  obtain ⟨c1, q1, rfl, x1, x2⟩ := hX
  obtain ⟨d1, r1, rfl, y1, y2⟩ := hY
  rw [round_sum (e0 := -1074) x1 y1, x2, y2] at hz
  rw [round_sum (e0 := -149) (by omega) (by omega)] at hq
  have u1 : Jvm.FP.Core.inUnits c ((k : Int) - 149) (-149) = c * 2 ^ k := by
    unfold Jvm.FP.Core.inUnits
    rw [show ((k : Int) - 149 - -149).toNat = k by omega]
  have u2 : Jvm.FP.Core.inUnits d ((l : Int) - 149) (-149) = d * 2 ^ l := by
    unfold Jvm.FP.Core.inUnits
    rw [show ((l : Int) - 149 - -149).toNat = l by omega]
  rw [u1, u2] at hq
  have dr := dr_sum (s := s) (t := t) hc hd hk hl nk nl
  rw [Jvm.FP.Core.signed_mul s (c * 2 ^ k) (2 ^ 925), Jvm.FP.Core.signed_mul t (d * 2 ^ l) (2 ^ 925), ← Int.add_mul, sumSign_mul _ (Nat.two_pow_pos 925), Int.natAbs_mul, Int.natAbs_natCast] at hz
  generalize Jvm.FP.Core.signed s (c * 2 ^ k) + Jvm.FP.Core.signed t (d * 2 ^ l) = V at *
  have cg : Jvm.FP.Core.roundRatio Jvm.FP.Core.b64 (Jvm.FP.Core.sumSign s t V) (V.natAbs * 2 ^ 925) 1 (-1074) = Jvm.FP.Core.roundRatio Jvm.FP.Core.b64 (Jvm.FP.Core.sumSign s t V) V.natAbs 1 (-149) := by
    refine Jvm.FP.Core.roundRatio_congr (by decide) (by decide) ?_
    rw [Nat.mul_one, Nat.mul_one, show ((-1074 : Int) - -149).toNat = 0 by decide, show ((-149 : Int) - -1074).toNat = 925 by decide, Nat.pow_zero, Nat.mul_one]
  rw [cg] at hz
  obtain ⟨r1, u, r2⟩ := two_round hz hq dr
  exact ⟨r1, _, u, r2⟩
theorem Fs.wide {x : UInt32} {s : Bool} {c k : Nat} (h : Fs x s c k) : ∃ c' q', Jvm.FP.Core.val64 (FP.f2d x) = .fin s c' q' ∧ -1074 ≤ q' ∧ Jvm.FP.Core.inUnits c' q' (-1074) = c * 2 ^ k * 2 ^ 925 := by
  have d := h.dv
  have hf := Jvm.FP.Core.val64_fits (FP.f2d x)
  obtain ⟨c', q', h1, h2⟩ := d
  rw [h1] at hf
  have g := hf.2.1
  rw [dv_qmin] at g
  exact ⟨c', q', h1, g, h2⟩
theorem fadd_two {x y : UInt32} {s t : Bool} {c k d l : Nat} (hx : Fs x s c k) (hy : Fs y t d l) : FP.d2f (FP.dadd (FP.f2d x) (FP.f2d y)) = FP.fadd x y ∧ ∃ sg u, Dv (FP.dadd (FP.f2d x) (FP.f2d y)) sg u := by
  refine sum_two (x := 0) (y := 0) hx.wide hy.wide hx.2.1 hy.2.1 hx.2.2.1 hy.2.2.1 hx.2.2.2 hy.2.2.2 (Jvm.FP.Core.val64_dadd _ _) ?_
  have := Jvm.FP.Core.val32_fadd x y
  rw [hx.1, hy.1] at this
  exact this
theorem fsub_two {x y : UInt32} {s t : Bool} {c k d l : Nat} (hx : Fs x s c k) (hy : Fs y t d l) : FP.d2f (FP.dsub (FP.f2d x) (FP.f2d y)) = FP.fsub x y ∧ ∃ sg u, Dv (FP.dsub (FP.f2d x) (FP.f2d y)) sg u := by
  have hw : ∃ c' q', Jvm.FP.Core.negate (Jvm.FP.Core.val64 (FP.f2d y)) = .fin (!t) c' q' ∧ -1074 ≤ q' ∧ Jvm.FP.Core.inUnits c' q' (-1074) = d * 2 ^ l * 2 ^ 925 := by
    obtain ⟨c', q', h1, h2, h3⟩ := hy.wide
    exact ⟨c', q', by rw [h1]; rfl, h2, h3⟩
  refine sum_two (x := 0) (y := 0) hx.wide hw hx.2.1 hy.2.1 hx.2.2.1 hy.2.2.1 hx.2.2.2 hy.2.2.2 (Jvm.FP.Core.val64_dsub _ _) ?_
  have := Jvm.FP.Core.val32_fsub x y
  rw [hx.1, hy.1] at this
  exact this
theorem fmul_two {x y : UInt32} {s t : Bool} {c k d l : Nat} (hx : Fs x s c k) (hy : Fs y t d l) : FP.d2f (FP.dmul (FP.f2d x) (FP.f2d y)) = FP.fmul x y ∧ ∃ sg u, Dv (FP.dmul (FP.f2d x) (FP.f2d y)) sg u := by
  have fa := Jvm.FP.Core.val64_fits (FP.f2d x)
  have fb := Jvm.FP.Core.val64_fits (FP.f2d y)
  have z1 := hx.dv.zmag
  have z2 := hy.dv.zmag
  obtain ⟨c', q', h1, -, -⟩ := hx.wide
  obtain ⟨d', r', h3, -, -⟩ := hy.wide
  have e := Jvm.FP.Core.val64_dmul (FP.f2d x) (FP.f2d y)
  rw [h1] at fa z1 e
  rw [h3] at fb z2 e
  obtain ⟨p1, p2, p3⟩ := Jvm.FP.Core.product_units fa fb
  rw [p1] at e
  rw [z1, z2] at p3
  have e2 := Jvm.FP.Core.round_inUnits (f := Jvm.FP.Core.b64) (s != t) (c' * d') (q := q' + r') (e := 2 * Jvm.FP.Core.b64.qmin) p2
  rw [p3, show 2 * Jvm.FP.Core.b64.qmin = -2148 by decide] at e2
  have hz : Jvm.FP.Core.val64 (FP.dmul (FP.f2d x) (FP.f2d y)) = Jvm.FP.Core.roundRatio Jvm.FP.Core.b64 (s != t) (c * d) 1 ((k : Int) + l - 298) := by
    refine (e.trans e2.symm).trans ?_
    refine Jvm.FP.Core.roundRatio_congr (by decide) (by decide) ?_
    rw [Nat.mul_one, Nat.mul_one, show ((-2148 : Int) - ((k : Int) + l - 298)).toNat = 0 by omega, show ((k : Int) + l - 298 - -2148).toNat = k + 925 + (l + 925) by omega, Nat.pow_zero, Nat.mul_one, Nat.pow_add, Nat.pow_add, Nat.pow_add]
    generalize (2 : Nat) ^ 925 = X
    ac_rfl
  have hq : Jvm.FP.Core.val32 (FP.fmul x y) = Jvm.FP.Core.roundRatio Jvm.FP.Core.b32 (s != t) (c * d) 1 ((k : Int) + l - 298) := by
    have := Jvm.FP.Core.val32_fmul x y
    rw [hx.1, hy.1] at this
    have e3 : Jvm.FP.Core.round Jvm.FP.Core.b32 (Jvm.FP.Core.exactProduct (.fin s c ((k : Int) - 149)) (.fin t d ((l : Int) - 149))) = Jvm.FP.Core.roundRatio Jvm.FP.Core.b32 (s != t) (c * d) 1 ((k : Int) - 149 + ((l : Int) - 149)) := rfl
    rw [e3, show (k : Int) - 149 + ((l : Int) - 149) = (k : Int) + l - 298 by omega] at this
    exact this
  have hcd : c * d < 2 ^ 53 := by
    have := Nat.mul_le_mul (Nat.le_of_lt hx.2.1) (Nat.le_of_lt hy.2.1)
    omega
  have hkk := hx.2.2.1
  have hll := hy.2.2.1
  obtain ⟨r1, u, r2⟩ := two_round hz hq (dr_small hcd (by omega) (by omega))
  exact ⟨r1, _, u, r2⟩
theorem fdiv_two {x y : UInt32} {s t : Bool} {c k d l : Nat} (hx : Fs x s c k) (hy : Fs y t d l) (hd : d ≠ 0) : FP.d2f (FP.ddiv (FP.f2d x) (FP.f2d y)) = FP.fdiv x y ∧ ∃ sg u, Dv (FP.ddiv (FP.f2d x) (FP.f2d y)) sg u := by
  obtain ⟨c', q', h1, g1, h2⟩ := hx.wide
  obtain ⟨d', r', h3, g2, h4⟩ := hy.wide
  have e := Jvm.FP.Core.val64_ddiv (FP.f2d x) (FP.f2d y)
  rw [h1, h3] at e
  unfold Jvm.FP.Core.inUnits at h2 h4
  have hd' : d' ≠ 0 := fun z => by
    rw [z, Nat.zero_mul] at h4
    have := Nat.mul_pos (Nat.mul_pos (Nat.pos_of_ne_zero hd) (Nat.two_pow_pos l)) (Nat.two_pow_pos 925)
    omega
  have e2 : Jvm.FP.Core.quotient Jvm.FP.Core.b64 (.fin s c' q') (.fin t d' r') = Jvm.FP.Core.roundRatio Jvm.FP.Core.b64 (s != t) c' d' (q' - r') := by
    unfold Jvm.FP.Core.quotient
    dsimp only
    rw [if_neg hd']
  have hz : Jvm.FP.Core.val64 (FP.ddiv (FP.f2d x) (FP.f2d y)) = Jvm.FP.Core.roundRatio Jvm.FP.Core.b64 (s != t) c d ((k : Int) - l) := by
    refine (e.trans e2).trans (Jvm.FP.Core.roundRatio_congr (Nat.pos_of_ne_zero hd') (Nat.pos_of_ne_zero hd) ?_)
    -- c' 2^(q'+1074) d 2^l 2^925 = c 2^k 2^925 d' 2^(r'+1074)
    have hx1 : c' * d * (2 ^ (q' - -1074).toNat * 2 ^ l) = c * d' * (2 ^ (r' - -1074).toNat * 2 ^ k) := by
      refine Nat.eq_of_mul_eq_mul_right (Nat.two_pow_pos 925) ?_
      have l1 : c' * d * (2 ^ (q' - -1074).toNat * 2 ^ l) * 2 ^ 925 = (c' * 2 ^ (q' - -1074).toNat) * (d * 2 ^ l * 2 ^ 925) := by
        generalize (2 : Nat) ^ 925 = X
        ac_rfl
      have l2 : c * d' * (2 ^ (r' - -1074).toNat * 2 ^ k) * 2 ^ 925 = (c * 2 ^ k * 2 ^ 925) * (d' * 2 ^ (r' - -1074).toNat) := by
        generalize (2 : Nat) ^ 925 = X
        ac_rfl
      rw [l1, l2, h2, h4]
    rw [← Nat.pow_add, ← Nat.pow_add] at hx1
    by_cases hh : (k : Int) - l ≤ q' - r'
    · rw [show ((k : Int) - l - (q' - r')).toNat = 0 by omega, Nat.pow_zero, Nat.mul_one]
      have e3 : 2 ^ ((q' - -1074).toNat + l) = 2 ^ (q' - r' - ((k : Int) - l)).toNat * 2 ^ ((r' - -1074).toNat + k) := by rw [← Nat.pow_add]; congr 1; omega
      rw [e3, ← Nat.mul_assoc] at hx1
      exact Nat.eq_of_mul_eq_mul_right (Nat.two_pow_pos _) hx1
    · rw [show (q' - r' - ((k : Int) - l)).toNat = 0 by omega, Nat.pow_zero, Nat.mul_one]
      have e3 : 2 ^ ((r' - -1074).toNat + k) = 2 ^ ((k : Int) - l - (q' - r')).toNat * 2 ^ ((q' - -1074).toNat + l) := by rw [← Nat.pow_add]; congr 1; omega
      rw [e3, ← Nat.mul_assoc] at hx1
      exact Nat.eq_of_mul_eq_mul_right (Nat.two_pow_pos _) hx1
  have hq : Jvm.FP.Core.val32 (FP.fdiv x y) = Jvm.FP.Core.roundRatio Jvm.FP.Core.b32 (s != t) c d ((k : Int) - l) := by
    have := Jvm.FP.Core.val32_fdiv x y
    rw [hx.1, hy.1] at this
    refine this.trans ?_
    unfold Jvm.FP.Core.quotient
    dsimp only
    rw [if_neg hd, show (k : Int) - 149 - ((l : Int) - 149) = (k : Int) - l by omega]
  have hkk := hx.2.2.1
  have hll := hy.2.2.1
  have dr : rr3 (rr c d ((k : Int) - l)) 1 (-1074) = rr3 c d ((k : Int) - l) ∧ rr c d ((k : Int) - l) < 2 ^ 53 * 2 ^ 2045 := by
    rcases Nat.eq_zero_or_pos c with h0 | h0
    · rw [h0, rr_zero, rr3_zero, rr3_zero]
      exact ⟨rfl, Nat.mul_pos (Nat.two_pow_pos _) (Nat.two_pow_pos _)⟩
    · exact dr_div h0 hx.2.1 (Nat.pos_of_ne_zero hd) hy.2.1 (by omega) (by omega)
  obtain ⟨r1, u, r2⟩ := two_round hz hq dr
  exact ⟨r1, _, u, r2⟩
