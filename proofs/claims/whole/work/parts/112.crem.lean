/-! the class's remainder and gcd -/
theorem rem_arith {d m f : Nat} {z : Int} (h10 : m ≤ 10) (hm : m ≤ d) (hm2 : m = 10 ∨ m = d) (hd0 : d ≠ 0) (hd : d ≤ 5000) (hf : d < f + 1) (hz : z = (d : Int) - 10) : d - m < f ∧ z ≤ ((d - m : Nat) : Int) ∧ (z = ((d - m : Nat) : Int) ∨ d - m = 0) ∧ -20 ≤ z ∧ d - m ≤ 5000 := by
  rcases hm2 with h | h
  · subst h; omega
  · subst h; omega
theorem L_rem_cls {n : Nat} {g : Gs} {x : UInt64} {v9 : Int32} {D : Nat} (h0 : 0 < D) (hD : D < 2 ^ 53) : ∀ (d f r : Nat) (v15 : Int32), d < f → v15.toInt ≤ (d : Int) → (v15.toInt = (d : Int) ∨ d = 0) → -20 ≤ v15.toInt → d ≤ 5000 → r < D → L_X6_remainder n f g x v9 (lN D) (lN r) v15 = bnd (f_X6_scaled g (FP.l2d (lN (r * 2 ^ d % D))) v9) (fun q_14 => bnd (f_X6_isNegative x) (fun q_16 => if q_16 = 0 then (some q_14) else (some (FP.dneg q_14))))
  | _, 0, _, _, h, _, _, _, _, _ => absurd h (Nat.not_lt_zero _)
  | d, f + 1, r, v15, hf, hv1, hv2, hv3, hd, hr => by
    show h_X6_remainder_106 n (L_X6_remainder n f) g x v9 (lN D) (lN r) v15 = _
    unfold h_X6_remainder_106 b_X6_remainder_139
    have t0 : (0 : Int32).toInt = 0 := by decide
    have t10 : (10 : Int32).toInt = 10 := by decide
    by_cases hd0 : d = 0
    · subst hd0
      rw [if_pos (by rw [Int32.le_iff_toInt_le, t0]; omega), Nat.pow_zero, Nat.mul_one, Nat.mod_eq_of_lt hr]
    · have hv : v15.toInt = (d : Int) := by omega
      rw [if_neg (by rw [Int32.le_iff_toInt_le, t0]; omega)]
      by_cases hr0 : r = 0
      · subst hr0
        rw [if_pos (show lN 0 = 0 from rfl), Nat.zero_mul, Nat.zero_mod]
      · have c2 : ¬ lN r = (0 : Int64) := fun z => hr0 ((lN_inj (b := 0) (by omega) (by decide)).mp z)
        have c3 : nzL (lN D) = true := by
          unfold nzL
          exact decide_eq_true (fun z => by have := (lN_inj (b := 0) (by omega) (by decide)).mp z; omega)
        rw [if_neg c2, grd_t c3]
        obtain ⟨m, hm1, hm2, hm3⟩ : ∃ m : Nat, (if (10 : Int32) < v15 then (10 : Int32) else v15) = nI m ∧ m ≤ 10 ∧ m ≤ d ∧ (m = 10 ∨ m = d) := by
          by_cases h : (10 : Int32) < v15
          · refine ⟨10, by rw [if_pos h]; rfl, by decide, ?_, .inl rfl⟩
            rw [Int32.lt_iff_toInt_lt, t10, hv] at h; omega
          · refine ⟨d, by rw [if_neg h]; exact i32_nI hv (by omega), ?_, Nat.le_refl _, .inr rfl⟩
            rw [Int32.lt_iff_toInt_lt, t10, hv] at h; omega
        have hp : 2 ^ m ≤ 2 ^ 10 := Nat.pow_le_pow_right (by decide) hm2
        have hlt : r * 2 ^ m < 2 ^ 63 := by
          have a : r * 2 ^ m ≤ r * 2 ^ 10 := Nat.mul_le_mul_left _ hp
          omega
        have e1 : lN r <<< ((nI m).toInt64 &&& 63) = lN (r * 2 ^ m) := lN_shl (by omega) (by omega)
        rw [hm1, e1, pk_lRem hlt h0 (by omega)]
        have tm : (-10 : Int32).toInt = -10 := by decide
        have e2 : (v15 + (-10 : Int32)).toInt = (d : Int) - 10 := by
          rw [i32_add (by rw [hv, tm]; omega) (by rw [hv, tm]; omega), hv, tm]; omega
        have e3 : r * 2 ^ d % D = (r * 2 ^ m % D) * 2 ^ (d - m) % D := by
          rw [Nat.mod_mul_mod, Nat.mul_assoc, ← Nat.pow_add, Nat.add_sub_cancel' hm3.1]
        rw [e3]
        obtain ⟨k1, k2, k3, k4, k5⟩ := rem_arith hm2 hm3.1 hm3.2 hd0 hd hf e2
        exact L_rem_cls h0 hD (d - m) f (r * 2 ^ m % D) _ k1 k2 k3 k4 k5 (Nat.mod_lt _ h0)
theorem unit_of {e : Int32} {c k : Nat} (he : e.toInt = (c.log2 : Int) + k - 1074) (hc0 : c ≠ 0) (hc : c < 2 ^ 53) (hk : k ≤ 2045) (hck : k = 0 ∨ 2 ^ 52 ≤ c) : (if (e - (52 : Int32)) < (-1074 : Int32) then (-1074 : Int32) else (e - (52 : Int32))).toInt = (k : Int) - 1074 := by
  have hl : c.log2 < 53 := (Nat.log2_lt hc0).mpr hc
  have t52 : (52 : Int32).toInt = 52 := by decide
  have tl : (-1074 : Int32).toInt = -1074 := by decide
  have a : (e - (52 : Int32)).toInt = (c.log2 : Int) + k - 1074 - 52 := by
    rw [i32_sub (by rw [he, t52]; omega) (by rw [he, t52]; omega), he, t52]
  split
  · rename_i h
    rw [Int32.lt_iff_toInt_lt, tl, a] at h
    rw [tl]
    rcases hck with h3 | h3
    · omega
    · have := log2_52 h3 hc; omega
  · rename_i h
    rw [Int32.lt_iff_toInt_lt, tl, a] at h
    rw [a]
    rcases hck with h3 | h3
    · omega
    · have := log2_52 h3 hc; omega
theorem f_rem_cls {n : Nat} {g : Gs} (hn : 3000 ≤ n) (hT : Tb g) {x y : UInt64} {s t : Bool} {u v : Nat} (hx : Dv x s u) (hy : Dv y t v) (hv : v ≠ 0) : ∃ r, f_X6_remainder n g x y = some r ∧ Dv r s (u % v) := by
  obtain ⟨a, a1, a2⟩ := f_sizeOf hx
  obtain ⟨b, b1, b2⟩ := f_sizeOf hy
  obtain ⟨cx, kx, x1, x2, x3, x4, -⟩ := hx.shape
  obtain ⟨cy, ky, y1, y2, y3, y4, -⟩ := hy.shape
  unfold f_X6_remainder
  rw [bnd_s a1, bnd_s b1, if_neg]
  rotate_left
  · rw [cv_eq b2.dz dv_zero.dz, sg_f, sg_f]; omega
  by_cases c1 : 0 ≤ Op.cmpValue (FP.dcmp a b) .g
  · rw [if_pos c1]
    rw [cv_ge a2.dz b2.dz, sg_f, sg_f] at c1
    have huv : v ≤ u := by omega
    have hcy : cy ≠ 0 := fun z => hv (by rw [y1, z, Nat.zero_mul])
    have hcx : cx ≠ 0 := fun z => by rw [x1, z, Nat.zero_mul] at huv; omega
    have hkk : ky ≤ kx := by
      rcases Nat.lt_or_ge kx ky with h | h
      · exfalso
        have h5 : 2 ^ 52 ≤ cy := by omega
        have e : 2 ^ ky = 2 ^ (ky - kx) * 2 ^ kx := by rw [← Nat.pow_add]; congr 1; omega
        have h6 : 2 ≤ 2 ^ (ky - kx) := by
          have := Nat.pow_le_pow_right (n := 2) (by decide) (show 1 ≤ ky - kx by omega)
          simpa using this
        have h7 : cx * 2 ^ kx < cy * 2 ^ ky := by
          rw [e, ← Nat.mul_assoc]
          refine Nat.mul_lt_mul_of_pos_right ?_ (Nat.two_pow_pos kx)
          have := Nat.mul_le_mul h5 h6
          omega
        omega
      · exact h
    rw [x1] at a2
    rw [y1] at b2
    obtain ⟨ey, e1, e2⟩ := f_powerOf (n := n) (by omega) hT b2 hcy y2 y3
    obtain ⟨ex, e3, e4⟩ := f_powerOf (n := n) (by omega) hT a2 hcx x2 x3
    have uy := unit_of e2 hcy y2 y3 y4
    have ux := unit_of e4 hcx x2 x3 x4
    rw [bnd_s e1, bnd_s e3]
    generalize (if (ey - (52 : Int32)) < (-1074 : Int32) then (-1074 : Int32) else (ey - (52 : Int32))) = my at uy ⊢
    generalize (if (ex - (52 : Int32)) < (-1074 : Int32) then (-1074 : Int32) else (ex - (52 : Int32))) = mx at ux ⊢
    have ny : (-my).toInt = 1074 - (ky : Int) := by
      rw [Int32.toInt_neg, uy]
      rw [Int.bmod_eq_of_le (by omega) (by omega)]; omega
    have nx : (-mx).toInt = 1074 - (kx : Int) := by
      rw [Int32.toInt_neg, ux]
      rw [Int.bmod_eq_of_le (by omega) (by omega)]; omega
    obtain ⟨p, p1, p2⟩ := f_scaled hT (l := 1074) ny (by omega) (by omega) b2 y2 y3 (by omega) (by decide)
    obtain ⟨q, q1, q2⟩ := f_scaled hT (l := 1074) nx (by omega) (by omega) a2 x2 x3 (by omega) (by decide)
    have dp : FP.d2l p = lN cy := dv_d2l_exact p2 (by omega)
    have dq : FP.d2l q = lN cx := dv_d2l_exact q2 (by omega)
    have c3 : nzL (lN cy) = true := by
      unfold nzL
      exact decide_eq_true (fun z => by have := (lN_inj (b := 0) (by omega) (by decide)).mp z; omega)
    rw [bnd_s p1, dp, if_pos (show (0 : Int64) < lN cy from (pk_lLT (a := 0) (by decide) (by omega)).mpr (by omega)), bnd_s q1, dq, grd_t c3, pk_lRem (by omega) (by omega) (by omega)]
    have hg : (mx - my).toInt = ((kx - ky : Nat) : Int) := by
      rw [i32_sub (by rw [ux, uy]; omega) (by rw [ux, uy]; omega), ux, uy]; omega
    rw [L_rem_cls (by omega) y2 (kx - ky) n (cx % cy) (mx - my) (by omega) (by omega) (.inl hg) (by omega) (by omega) (Nat.mod_lt _ (by omega))]
    have hlt : cx % cy * 2 ^ (kx - ky) % cy < 2 ^ 53 := by
      have := Nat.mod_lt (cx % cy * 2 ^ (kx - ky)) (show 0 < cy by omega)
      omega
    obtain ⟨w, w1, w2⟩ := f_scaled hT (k := 1074) (l := ky) uy (by omega) (by omega) (dv_l2d hlt) hlt (by decide) (by omega) y3
    have e : u % v = cx % cy * 2 ^ (kx - ky) % cy * 2 ^ ky := by
      rw [x1, y1, show kx = (kx - ky) + ky by omega, Nat.pow_add, ← Nat.mul_assoc, Nat.mul_mod_mul_right, Nat.mod_mul_mod]
      rw [show (kx - ky) + ky - ky = kx - ky by omega]
    rw [bnd_s w1, bnd_s (f_isNegative hx), e]
    cases s with
    | false => exact ⟨w, if_pos (by decide), w2⟩
    | true => exact ⟨FP.dneg w, if_neg (by decide), dv_neg w2⟩
  · rw [if_neg c1]
    rw [cv_ge a2.dz b2.dz, sg_f, sg_f] at c1
    refine ⟨x, rfl, ?_⟩
    rw [Nat.mod_eq_of_lt (by omega)]
    exact hx
theorem L_gcd_cls {n : Nat} {g : Gs} (hn : 3000 ≤ n) (hT : Tb g) : ∀ (k f j : Nat) (x y : UInt64) (u v : Nat), k < f → j + k < 1000 → eu k u v → Dv x false u → Dv y false v → ∃ r, L_X6_gcdOf n f g x y (nI j) = some r ∧ Dv r false (Nat.gcd u v)
  | _, 0, _, _, _, _, _, h, _, _, _, _ => absurd h (Nat.not_lt_zero _)
  | k, f + 1, j, x, y, u, v, hf, hj, he, hx, hy => by
    show ∃ r, h_X6_gcdOf_15 n (L_X6_gcdOf n f) g x y (nI j) = some r ∧ _
    unfold h_X6_gcdOf_15
    rw [if_neg (show ¬ (1000 : Int32) ≤ nI j from nI_ge (a := j) (b := 1000) (by omega) (by decide))]
    by_cases hv : v = 0
    · rw [if_pos]
      · refine ⟨x, rfl, ?_⟩
        rw [hv, Nat.gcd_zero_right]; exact hx
      · rw [cv_eq hy.dz dv_zero.dz, hv]
    · rw [if_neg]
      rotate_left
      · rw [cv_eq hy.dz dv_zero.dz, sg_f, sg_f]; omega
      obtain ⟨r, r1, r2⟩ := f_rem_cls (g := g) hn hT hx hy hv
      rw [bnd_s r1, nI_1]
      cases k with
      | zero => exact absurd he hv
      | succ k =>
        rcases he with he | he
        · exact absurd he hv
        obtain ⟨r', q1, q2⟩ := L_gcd_cls hn hT k f (j + 1) y r v (u % v) (by omega) (by omega) he hy r2
        refine ⟨r', q1, ?_⟩
        rw [gcd_step] at q2
        exact q2
theorem f_gcd_cls {n : Nat} {g : Gs} (hn : 3000 ≤ n) (hT : Tb g) {x y : UInt64} {s t : Bool} {u v : Nat} (hx : Dv x s u) (hy : Dv y t v) : ∃ r, f_X6_gcdOf n g x y = some r ∧ Dv r false (Nat.gcd u v) := by
  obtain ⟨a, a1, a2⟩ := f_sizeOf hx
  obtain ⟨b, b1, b2⟩ := f_sizeOf hy
  unfold f_X6_gcdOf
  rw [bnd_s a1, bnd_s b1]
  exact L_gcd_cls hn hT 110 n 0 a b u v (by omega) (by decide) (Dv.eu hx hy) a2 b2
