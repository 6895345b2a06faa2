/-! FLOATs: reckoning, remainders; orders -/
theorem round_sized3 {s : Bool} {C c k : Nat} {Q : Int} (hc : c < 2 ^ 24) (hk : k ≤ 253) (he : C * 2 ^ (Q + 149).toNat = c * 2 ^ k * 2 ^ (-(Q + 149)).toNat) : ∃ c' q', Jvm.FP.Core.round Jvm.FP.Core.b32 (.fin s C Q) = .fin s c' q' ∧ Jvm.FP.Core.inUnits c' q' (-149) = c * 2 ^ k := by
  have hr : Jvm.FP.Core.round Jvm.FP.Core.b32 (.fin s C Q) = Jvm.FP.Core.round Jvm.FP.Core.b32 (.fin s c ((k : Int) - 149)) := by
    refine Jvm.FP.Core.roundRatio_congr (by decide) (by decide) ?_
    rw [Nat.mul_one, Nat.mul_one]
    by_cases hQ : (k : Int) - 149 ≤ Q
    · rw [show ((k : Int) - 149 - Q).toNat = 0 by omega, Nat.pow_zero, Nat.mul_one]
      rw [show (Q + 149).toNat = (Q - ((k : Int) - 149)).toNat + k by omega, show (-(Q + 149)).toNat = 0 by omega, Nat.pow_add, ← Nat.mul_assoc, Nat.pow_zero, Nat.mul_one] at he
      exact Nat.eq_of_mul_eq_mul_right (Nat.two_pow_pos k) he
    · rw [show (Q - ((k : Int) - 149)).toNat = 0 by omega, Nat.pow_zero, Nat.mul_one]
      by_cases hQ0 : 0 ≤ Q + 149
      · have e2 : 2 ^ k = 2 ^ ((k : Int) - 149 - Q).toNat * 2 ^ (Q + 149).toNat := by
          rw [← Nat.pow_add]; congr 1; omega
        rw [show (-(Q + 149)).toNat = 0 by omega, Nat.pow_zero, Nat.mul_one, e2, ← Nat.mul_assoc] at he
        exact Nat.eq_of_mul_eq_mul_right (Nat.two_pow_pos _) he
      · rw [show (Q + 149).toNat = 0 by omega, Nat.pow_zero, Nat.mul_one, Nat.mul_assoc, ← Nat.pow_add] at he
        rw [he]
        congr 2
        omega
  rw [hr]
  obtain ⟨c', q', h1, h2⟩ := Jvm.FP.Core.round_exact Jvm.FP.Core.good_b32 s (c := c) (q := (k : Int) - 149) hc (by rw [q32]; omega) (by rw [show Jvm.FP.Core.b32.qmax = 104 by decide]; omega)
  refine ⟨c', q', h1, ?_⟩
  rw [← q32, h2, q32]
  unfold Jvm.FP.Core.inUnits
  congr 2
  omega
def fop (o : Int32) (x y : UInt32) : UInt32 := if o = 43 then FP.fadd x y else if o = 45 then FP.fsub x y else if o = 42 then FP.fmul x y else FP.fdiv x y
theorem reck_core {n : Nat} {g : Gs} {z : UInt64} {sg : Bool} {w : Nat} (hn : 65 ≤ n) (hz : Dv z sg w) : ∃ r g', b_X12_reckoned_76 n g 6 z = some (r, g') ∧ Sc g g' ∧ ((∃ v, Fl r sg v ∧ Dv (FP.f2d (FP.d2f z)) sg v) ∨ (r = 9223372036854775807 ∧ Jvm.FP.Core.val64 (FP.f2d (FP.d2f z)) = .inf sg)) := by
  have hz' : Dv z.toInt64.toUInt64 sg w := hz
  obtain ⟨r, g', b1, b2, b3⟩ := become76 (n := n) (g := g) hn hz'
  refine ⟨r, g', ?_, b2, b3⟩
  unfold b_X12_reckoned_76
  rw [bnd_s (bitsOfD hz.ne_nan), bnd_s (isFin12 _), hz'.fin64, if_neg (by decide), bnd_s b1]
theorem reckoned6 {n : Nat} {g : Gs} {o : Int32} {a b : Int64} {s t : Bool} {u v : Nat} {dA dB : UInt64} (hn : 65 ≤ n) (ho : o = 43 ∨ o = 45 ∨ o = 42 ∨ o = 47) (ha : Fl a s u) (hA : Dv dA s u) (hb : Fl b t v) (hB : Dv dB t v) (hv : o = 47 → v ≠ 0) : ∃ r g', f_X12_reckoned n g o a b 6 = some (r, g') ∧ Sc g g' ∧ Jvm.FP.Core.val32 (fop o (FP.d2f dA) (FP.d2f dB)) ≠ .nan ∧ ((∃ sg w, Fl r sg w ∧ Dv (FP.f2d (fop o (FP.d2f dA) (FP.d2f dB))) sg w) ∨ (r = 9223372036854775807 ∧ ∃ sg, Jvm.FP.Core.val64 (FP.f2d (fop o (FP.d2f dA) (FP.d2f dB))) = .inf sg)) := by
  obtain ⟨x, c, k, fx, eu, dx, ex⟩ := fs_of_fl ha hA
  obtain ⟨y, d, l, fy, ev, dy, ey⟩ := fs_of_fl hb hB
  obtain ⟨rA, g1, a1, a2, a3⟩ := become67 (n := n) (g := g) hn ha
  obtain ⟨rB, g2, b1, b2, b3⟩ := become67 (n := n) (g := g1) hn hb
  have eA : rA.toUInt64 = FP.f2d x := (a3.inj hA).trans dx
  have eB : rB.toUInt64 = FP.f2d y := (b3.inj hB).trans dy
  -- the DOUBLE result, and that rounding it is the FLOAT one
  have key : ∃ sg w, Dv (dop o (FP.f2d x) (FP.f2d y)) sg w ∧ FP.d2f (dop o (FP.f2d x) (FP.f2d y)) = fop o x y := by
    unfold dop fop
    rcases ho with rfl | rfl | rfl | rfl
    · obtain ⟨r1, sg, w, r2⟩ := fadd_two fx fy
      exact ⟨sg, w, r2, r1⟩
    · obtain ⟨r1, sg, w, r2⟩ := fsub_two fx fy
      exact ⟨sg, w, r2, r1⟩
    · obtain ⟨r1, sg, w, r2⟩ := fmul_two fx fy
      exact ⟨sg, w, r2, r1⟩
    · have hd : d ≠ 0 := fun z => hv rfl (by rw [ev, z, Nat.zero_mul, Nat.zero_mul])
      obtain ⟨r1, sg, w, r2⟩ := fdiv_two fx fy hd
      exact ⟨sg, w, r2, r1⟩
  obtain ⟨sg, w, z1, z2⟩ := key
  obtain ⟨r, g3, c1, c2, c3⟩ := reck_core (n := n) (g := g2) hn z1
  rw [z2] at c3
  refine ⟨r, g3, ?_, (a2.trans b2).trans c2, ?_, ?_⟩
  · unfold f_X12_reckoned
    rw [bnd_s a1]
    dsimp only
    rw [grd_t (nsnB_of a3.ne_nan), bnd_s b1]
    dsimp only
    rw [grd_t (nsnB_of b3.ne_nan), eA, eB]
    unfold dop at z1 c1
    rcases ho with rfl | rfl | rfl | rfl
    · rw [if_pos rfl] at z1 c1
      rw [if_pos rfl, grd_t z1.n64]; exact c1
    · rw [if_neg (by decide), if_pos rfl] at z1 c1
      rw [if_neg (by decide), if_pos rfl, grd_t z1.n64]; exact c1
    · rw [if_neg (by decide), if_neg (by decide), if_pos rfl] at z1 c1
      rw [if_neg (by decide), if_neg (by decide), if_pos rfl, grd_t z1.n64]; exact c1
    · rw [if_neg (by decide), if_neg (by decide), if_neg (by decide)] at z1 c1
      rw [if_neg (by decide), if_neg (by decide), if_neg (by decide), grd_t z1.n64]; exact c1
  · rw [ex, ey, ← z2, jd2f z1.ne_nan]
    exact fun q => z1.ne_nan (Jvm.FP.Core.round_nan.mp q)
  · rw [ex, ey]
    rcases c3 with ⟨v', f1, f2⟩ | ⟨f1, f2⟩
    · exact .inl ⟨sg, v', f1, f2⟩
    · exact .inr ⟨f1, sg, f2⟩
/-- what fits 24 digits stays what it is -/
theorem become76_exact {n : Nat} {g : Gs} {x : Int64} {s : Bool} {R m : Nat} (hn : 65 ≤ n) (hR : R < 2 ^ 24) (hm : m ≤ 253) (h : Dv x.toUInt64 s (R * 2 ^ m * 2 ^ 925)) : ∃ r g', f_X12_become n g x 7 6 = some (r, g') ∧ Sc g g' ∧ Fl r s (R * 2 ^ m * 2 ^ 925) := by
  obtain ⟨r, g', b1, b2, b3⟩ := become76 (n := n) (g := g) hn h
  refine ⟨r, g', b1, b2, ?_⟩
  have hfit := Jvm.FP.Core.val64_fits x.toUInt64
  have hnn := h.ne_nan
  have h' := h
  obtain ⟨c, q, h1, h2⟩ := h'
  rw [h1] at hfit
  have g0 := hfit.2.1
  rw [dv_qmin] at g0
  unfold Jvm.FP.Core.inUnits at h2
  have e := jd2f hnn
  rw [h1] at e
  obtain ⟨c', q', k1, k2⟩ := round_sized3 (s := s) (C := c) (Q := q) (c := R) (k := m) hR hm (by
    by_cases hq : -149 ≤ q
    · rw [show (-(q + 149)).toNat = 0 by omega, Nat.pow_zero, Nat.mul_one]
      have e1 : 2 ^ (q - -1074).toNat = 2 ^ (q + 149).toNat * 2 ^ 925 := by rw [← Nat.pow_add]; congr 1; omega
      rw [e1, ← Nat.mul_assoc] at h2
      exact Nat.eq_of_mul_eq_mul_right (Nat.two_pow_pos 925) h2
    · rw [show (q + 149).toNat = 0 by omega, Nat.pow_zero, Nat.mul_one]
      have e1 : (2 : Nat) ^ 925 = 2 ^ (-(q + 149)).toNat * 2 ^ (q - -1074).toNat := by rw [← Nat.pow_add]; congr 1; omega
      rw [e1, ← Nat.mul_assoc] at h2
      exact Nat.eq_of_mul_eq_mul_right (Nat.two_pow_pos _) h2)
  have hv : Jvm.FP.Core.val32 (FP.d2f x.toUInt64) = .fin s c' q' := e.trans k1
  have dv := dv_f2d hv
  have hf32 := Jvm.FP.Core.val32_fits (FP.d2f x.toUInt64)
  rw [hv] at hf32
  have g1 := hf32.2.1
  rw [q32] at g1
  have eu : Jvm.FP.Core.inUnits c' q' (-1074) = R * 2 ^ m * 2 ^ 925 := by
    rw [Jvm.FP.Core.inUnits_move c' (r := -149) (by decide) g1, k2]
    rfl
  rw [eu] at dv
  rcases b3 with ⟨v, v1, v2⟩ | ⟨-, v2⟩
  · have := (v2.same dv).2
    rw [← this]; exact v1
  · exfalso
    obtain ⟨c2, q2, hc2, -⟩ := dv
    rw [v2] at hc2
    cases hc2
/-- remainders of FLOATs -/
theorem rem6 {n : Nat} {g g2 : Gs} {a b : Int64} {s t : Bool} {u v : Nat} {dA dB : UInt64} (hn : 3000 ≤ n) (hT : Tb g2) (ha : Fl a s u) (hA : Dv dA s u) (hb : Fl b t v) (hB : Dv dB t v) (hv : v ≠ 0) : ∃ A g1 B g3 R g4 r g5 d, f_X12_become n g a 6 7 = some (A, g1) ∧ f_X12_become n g1 b 6 7 = some (B, g3) ∧ f_X12_remainder n g3 A B = some (R, g4) ∧ f_X12_become n g4 R 7 6 = some (r, g5) ∧ Sc g g5 ∧ f_X6_remainder n g2 dA dB = some d ∧ ∃ w, Fl r s w ∧ Dv d s w := by
  obtain ⟨A, g1, a1, a2, a3⟩ := become67 (n := n) (g := g) (by omega) ha
  obtain ⟨B, g3, b1, b2, b3⟩ := become67 (n := n) (g := g1) (by omega) hb
  obtain ⟨R, g4, r1, r2, r3⟩ := f_rem_ref (g := g3) hn a3 b3 hv
  obtain ⟨d, d1, d2⟩ := f_rem_cls hn hT hA hB hv
  obtain ⟨c, k, h1, h2, h3, h4, -⟩ := ha
  obtain ⟨c', l, k1, k2, k3, k4, -⟩ := hb
  -- the rest has 24 digits
  have hc' : c' ≠ 0 := fun z => hv (by rw [k1, z, Nat.zero_mul, Nat.zero_mul])
  have hm : ∃ Q m, Q < 2 ^ 24 ∧ m ≤ 253 ∧ u % v = Q * 2 ^ m * 2 ^ 925 := by
    rw [h1, k1, Nat.mul_mod_mul_right]
    by_cases hkl : l ≤ k
    · refine ⟨c * 2 ^ (k - l) % c', l, ?_, k3, ?_⟩
      · have := Nat.mod_lt (c * 2 ^ (k - l)) (Nat.pos_of_ne_zero hc')
        omega
      · congr 1
        rw [show k = (k - l) + l by omega, Nat.pow_add, ← Nat.mul_assoc, Nat.mul_mod_mul_right, show k - l + l - l = k - l by omega]
    · refine ⟨c % (c' * 2 ^ (l - k)), k, ?_, h3, ?_⟩
      · have := Nat.mod_le c (c' * 2 ^ (l - k))
        omega
      · congr 1
        rw [show l = (l - k) + k by omega, Nat.pow_add, ← Nat.mul_assoc, Nat.mul_mod_mul_right, show l - k + k - k = l - k by omega]
  obtain ⟨Q, m, m1, m2, m3⟩ := hm
  rw [m3] at r3 d2
  obtain ⟨r, g5, f1, f2, f3⟩ := become76_exact (n := n) (g := g4) (by omega) m1 m2 r3
  exact ⟨A, g1, B, g3, R, g4, r, g5, d, a1, b1, r1, f1, ((a2.trans b2).trans r2).trans f2, d1, _, f3, d2⟩
