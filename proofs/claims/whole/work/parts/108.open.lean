/-! the reference's open, made and remainder, by sizes -/
def Sc (g g' : Gs) : Prop := (∀ k, k ≠ 0 → k ≠ 2 → gI g' k = gI g k) ∧ (∀ k, k ≠ 1 → gL g' k = gL g k) ∧ gD g' = gD g ∧ gIA g' = gIA g ∧ gLA g' = gLA g ∧ gDA g' = gDA g ∧ gR g' = gR g
theorem Sc.refl (g : Gs) : Sc g g := ⟨fun _ _ _ => rfl, fun _ _ => rfl, rfl, rfl, rfl, rfl, rfl⟩
theorem Sc.trans {a b c : Gs} (h : Sc a b) (h' : Sc b c) : Sc a c := ⟨fun k h0 h2 => (h'.1 k h0 h2).trans (h.1 k h0 h2), fun k h1 => (h'.2.1 k h1).trans (h.2.1 k h1), h'.2.2.1.trans h.2.2.1, h'.2.2.2.1.trans h.2.2.2.1, h'.2.2.2.2.1.trans h.2.2.2.2.1, h'.2.2.2.2.2.1.trans h.2.2.2.2.2.1, h'.2.2.2.2.2.2.trans h.2.2.2.2.2.2⟩
theorem Sc.i0 (g : Gs) (v : Int32) : Sc g (sI g 0 v) := ⟨fun _ h _ => va_up_ne _ _ h, fun _ _ => rfl, rfl, rfl, rfl, rfl, rfl⟩
theorem Sc.i2 (g : Gs) (v : Int32) : Sc g (sI g 2 v) := ⟨fun _ _ h => va_up_ne _ _ h, fun _ _ => rfl, rfl, rfl, rfl, rfl, rfl⟩
theorem Sc.l1 (g : Gs) (v : Int64) : Sc g (sL g 1 v) := ⟨fun _ _ _ => rfl, fun _ h => va_up_ne _ _ h, rfl, rfl, rfl, rfl, rfl⟩
theorem uLow (y : Int64) (k : Nat) (hk : k ≤ 63) : ((uL y % 2 ^ k : Nat) : Int) = y.toInt % ((2 ^ k : Nat) : Int) := by
  rw [uL_toInt]
  split
  · rw [Int.natCast_emod]
  · have e : ((2 : Int) ^ 64) = ((2 ^ k : Nat) : Int) * ((2 ^ (64 - k) : Nat) : Int) := by
      rw [← Int.natCast_mul, ← Nat.pow_add, show k + (64 - k) = 64 by omega]; rfl
    rw [e, Int.sub_mul_emod_self_left, Int.natCast_emod]
theorem toI32_nat (y : Int64) : y.toInt32.toBitVec.toNat = uL y % 2 ^ 32 := by
  show (y.toBitVec.signExtend 32).toNat = _
  rw [BitVec.signExtend_eq_setWidth_of_le _ (by decide), BitVec.toNat_setWidth]; rfl
theorem uL_sshr (x : Int64) (k j : Nat) (s : Int64) (hs : (s.toBitVec.smod 64).toNat = k) (hkj : k + j ≤ 63) : uL (x >>> s) % 2 ^ j = uL x / 2 ^ k % 2 ^ j := by
  have h1 := uLow (x >>> s) j (by omega)
  rw [toInt_shr x k s hs, Int.shiftRight_eq_div_pow] at h1
  have h2 : ((uL x / 2 ^ k % 2 ^ j : Nat) : Int) = x.toInt / ((2 ^ k : Nat) : Int) % ((2 ^ j : Nat) : Int) := by
    rw [uL_toInt]
    split
    · rw [Int.natCast_emod, Int.natCast_ediv]
    · have e : ((2 : Int) ^ 64) = (((2 ^ j : Nat) : Int) * ((2 ^ (64 - k - j) : Nat) : Int)) * ((2 ^ k : Nat) : Int) := by
        rw [← Int.natCast_mul, ← Int.natCast_mul, ← Nat.pow_add, ← Nat.pow_add, show j + (64 - k - j) + k = 64 by omega]; rfl
      have hp : ((2 ^ k : Nat) : Int) ≠ 0 := by have := Nat.two_pow_pos k; omega
      rw [e, Int.sub_mul_ediv_right _ _ hp, Int.sub_mul_emod_self_left, Int.natCast_emod, Int.natCast_ediv]
  exact Int.ofNat.inj (h1.trans h2.symm)
theorem open_field (x : Int64) : ((x >>> ((52 : Int32).toInt64 &&& 63)).toInt32) &&& (2047 : Int32) = nI (uL x / 2 ^ 52 % 2 ^ 11) := by
  rw [pk_and _ 11 (by decide), toI32_nat, Nat.mod_mod_of_dvd _ (by decide : 2 ^ 11 ∣ 2 ^ 32), uL_sshr x 52 11 _ (by decide) (by decide)]
def sgB (s : Bool) : Int32 := if s = true then 1 else 0
theorem sgB_0 (s : Bool) : sgB s = 0 ↔ s = false := by cases s <;> decide
theorem sgB_dec (s : Bool) : decide (¬ sgB s = 0) = s := by cases s <;> decide
theorem f_open {g : Gs} {x : Int64} {s : Bool} {u : Nat} (h : Dv x.toUInt64 s u) : ∃ (g' : Gs) (c k : Nat) (e : Int32), f_X12_open g x 7 = some g' ∧ Sc g g' ∧ gI g' 0 = sgB s ∧ gL g' 1 = lN c ∧ gI g' 2 = e ∧ e.toInt = (k : Int) - 1074 ∧ u = c * 2 ^ k ∧ c < 2 ^ 53 ∧ k ≤ 2045 ∧ (k = 0 ∨ 2 ^ 52 ≤ c) := by
  obtain ⟨c, k, h1, h2, h3, h4, h5⟩ := h.shape
  have hx : uL x = (if s = true then 2 ^ 63 else 0) + (k * 2 ^ 52 + c) := h5
  have hs : (if s = true then 2 ^ 63 else 0 : Nat) = 2 ^ 63 ∨ (if s = true then 2 ^ 63 else 0 : Nat) = 0 := by cases s <;> simp
  have hf : uL x / 2 ^ 52 % 2 ^ 11 = if c < 2 ^ 52 then 0 else k + 1 := by
    split <;> omega
  have ht : x &&& (4503599627370495 : Int64) = lN (if c < 2 ^ 52 then c else c - 2 ^ 52) := by
    apply uL_inj
    rw [uL_mask x 52 (by decide), uL_lN (by split <;> omega)]
    split <;> omega
  have key : b_X12_open_12 g x 7 (sgB s) = f_X12_open g x 7 := by
    unfold f_X12_open
    cases s with
    | true => rw [if_neg]; · rfl
              rw [uL_le0_iff, hx]; simp
    | false => rw [if_pos]; · rfl
               rw [uL_le0_iff, hx]; simp; omega
  rw [← key]
  unfold b_X12_open_12
  rw [grd_t (by cases s <;> decide), if_neg (by decide), open_field, hf, ht]
  by_cases hc : c < 2 ^ 52
  · have hk : k = 0 := by omega
    subst hk
    rw [if_pos hc, if_pos hc]
    refine ⟨sI (sL (sI g 0 (sgB s)) 1 (lN c)) 2 (-1074), c, 0, -1074, (if_pos (by decide)).trans ?_, ?_, ?_, ?_, ?_, by decide, h1, h2, h3, h4⟩
    · unfold b_X12_open_117 b_X12_open_135
      exact if_pos rfl
    · exact ((Sc.i0 _ _).trans (Sc.l1 _ _)).trans (Sc.i2 _ _)
    · rfl
    · rfl
    · rfl
  · rw [if_neg hc, if_neg hc]
    have hor : lN (c - 2 ^ 52) ||| (4503599627370496 : Int64) = lN c := by
      apply uL_inj
      rw [uL_or, uL_lN (by omega), uL_lN (by omega), show uL (4503599627370496 : Int64) = 2 ^ 52 by decide, Nat.or_comm]
      have := Nat.two_pow_add_eq_or_of_lt (i := 52) (b := c - 2 ^ 52) (by omega) 1
      rw [Nat.mul_one] at this
      rw [← this]; omega
    refine ⟨sI (sL (sL (sI g 0 (sgB s)) 1 (lN (c - 2 ^ 52))) 1 (lN c)) 2 (nI (k + 1) - (1075 : Int32)), c, k, nI (k + 1) - (1075 : Int32), (if_neg (nI_nle (by omega) (by omega))).trans ?_, ?_, ?_, ?_, ?_, ?_, h1, h2, h3, h4⟩
    · unfold b_X12_open_117 b_X12_open_135
      rw [if_neg (nI_ne0 (by omega) (by omega)), hor]
    · exact (((Sc.i0 _ _).trans (Sc.l1 _ _)).trans (Sc.l1 _ _)).trans (Sc.i2 _ _)
    · rfl
    · rfl
    · rfl
    · have t : (1075 : Int32).toInt = 1075 := by decide
      have t2 : (nI (k + 1)).toInt = ((k + 1 : Nat) : Int) := nI_toInt (by omega)
      rw [i32_sub (by rw [t, t2]; omega) (by rw [t, t2]; omega), t, t2]; omega
theorem bitsOr_dv {s : Bool} {c : Nat} {q : Int} (hf : Jvm.FP.Core.fits Jvm.FP.Core.b64 (.fin false c q)) : Dv (bitsOr s (.fin false c q)).toUInt64 s (Jvm.FP.Core.inUnits c q (-1074)) := by
  have hf' : Jvm.FP.Core.fits Jvm.FP.Core.b64 (.fin s c q) := hf
  refine ⟨c, q, ?_, rfl⟩
  have h1 := Jvm.FP.Core.encode_lt Jvm.FP.Core.good_b64 _ hf'
  rw [Jvm.FP.Core.size_b64] at h1
  show Jvm.FP.Core.decode Jvm.FP.Core.b64 (uL (lN (Jvm.FP.Core.encode Jvm.FP.Core.b64 (.fin s c q)))) = _
  rw [uL_lN h1, Jvm.FP.Core.decode_encode Jvm.FP.Core.good_b64 _ hf']
/-- made where nothing is rounded -/
theorem made_dv {n M c k : Nat} {s : Bool} {e : Int32} {E : Int} (hn : 65 ≤ n) (hM : M < 2 ^ 63) (he : e.toInt = E) (h1 : -4000 ≤ E) (h2 : E ≤ 4000) (hc : c < 2 ^ 53) (hk : k ≤ 2045) (hu : M * 2 ^ (E + 1074).toNat = c * 2 ^ k * 2 ^ (-(E + 1074)).toNat) : ∃ r, f_X12_made n (sgB s) (lN M) e 7 = some r ∧ Dv r.toUInt64 s (c * 2 ^ k) := by
  refine ⟨_, f_made hn hM he h1 h2, ?_⟩
  obtain ⟨c', q', h3, h4⟩ := round_sized (s := false) hc hk hu
  have h5 : Jvm.FP.Core.roundRatio Jvm.FP.Core.b64 false M 1 E = .fin false c' q' := h3
  have hf := Jvm.FP.Core.roundRatio_fits Jvm.FP.Core.good_b64 false M (B := 1) (by decide) E
  rw [h5] at hf ⊢
  rw [sgB_dec, ← h4]
  exact bitsOr_dv hf
theorem made_dv_k {n c k : Nat} {s : Bool} {e : Int32} (hn : 65 ≤ n) (he : e.toInt = (k : Int) - 1074) (hc : c < 2 ^ 53) (hk : k ≤ 2045) : ∃ r, f_X12_made n (sgB s) (lN c) e 7 = some r ∧ Dv r.toUInt64 s (c * 2 ^ k) := by
  refine made_dv hn (by omega) he (by omega) (by omega) hc hk ?_
  rw [show ((k : Int) - 1074 + 1074).toNat = k by omega, show (-((k : Int) - 1074 + 1074)).toNat = 0 by omega, Nat.pow_zero, Nat.mul_one]
theorem L_rem_ref {n : Nat} {g : Gs} {cy : Nat} {v7 : Int32} {ky : Int} (h0 : 0 < cy) (hcy : cy < 2 ^ 53) (h7 : v7.toInt = ky) (hk : -2000 ≤ ky) : ∀ (d f r : Nat) (v10 : Int32), d < f → d ≤ 4000 → r < cy → v10.toInt = ky + d → ky + d ≤ 4000 → L_X12_remainder n f g (lN cy) v7 (lN r) v10 = bnd (f_X12_made n (gI g 0) (lN (r * 2 ^ d % cy)) v7 (7 : Int32)) (fun q_6 => some (q_6, g))
  | _, 0, _, _, h, _, _, _, _ => absurd h (Nat.not_lt_zero _)
  | 0, f + 1, r, v10, _, _, hr, hv, _ => by
    show h_X12_remainder_98 n (L_X12_remainder n f) g (lN cy) v7 (lN r) v10 = _
    unfold h_X12_remainder_98 b_X12_remainder_139
    have c1 : v10 ≤ v7 := by rw [Int32.le_iff_toInt_le, hv, h7]; omega
    rw [if_pos c1, Nat.pow_zero, Nat.mul_one, Nat.mod_eq_of_lt hr]
  | d + 1, f + 1, r, v10, hf, hd, hr, hv, hb => by
    show h_X12_remainder_98 n (L_X12_remainder n f) g (lN cy) v7 (lN r) v10 = _
    unfold h_X12_remainder_98 b_X12_remainder_139 b_X12_remainder_133
    have c1 : ¬ v10 ≤ v7 := by rw [Int32.le_iff_toInt_le, hv, h7]; omega
    rw [if_neg c1]
    by_cases hr0 : r = 0
    · subst hr0
      rw [if_pos (show lN 0 = 0 from rfl), Nat.zero_mul, Nat.zero_mod]
    · have c2 : ¬ lN r = (0 : Int64) := fun z => hr0 ((lN_inj (b := 0) (by omega) (by decide)).mp z)
      have e1 : lN r <<< ((1 : Int32).toInt64 &&& 63) = lN (r * 2) := by
        have := lN_shl (n := r) (k := 1) (by decide) (by omega)
        exact this
      have hm1 : (-1 : Int32).toInt = -1 := by decide
      have e2 : (v10 + (-1 : Int32)).toInt = ky + d := by
        rw [i32_add (by rw [hv, hm1]; omega) (by rw [hv, hm1]; omega), hv, hm1]; omega
      have e3 : r * 2 ^ (d + 1) % cy = (r * 2 % cy) * 2 ^ d % cy := by
        rw [Nat.mod_mul_mod, Nat.pow_succ, Nat.mul_comm (2 ^ d) 2, ← Nat.mul_assoc]
      rw [if_neg c2, e1, e3]
      by_cases c3 : r * 2 < cy
      · rw [if_pos ((pk_lLT (by omega) (by omega)).mpr c3), Nat.mod_eq_of_lt c3]
        exact L_rem_ref h0 hcy h7 hk d f (r * 2) _ (by omega) (by omega) c3 e2 (by omega)
      · rw [if_neg (fun z => c3 ((pk_lLT (by omega) (by omega)).mp z)), lN_sub (by omega)]
        have e4 : r * 2 % cy = r * 2 - cy := by
          rw [Nat.mod_eq_sub_mod (by omega), Nat.mod_eq_of_lt (by omega)]
        rw [e4]
        exact L_rem_ref h0 hcy h7 hk d f (r * 2 - cy) _ (by omega) (by omega) (by omega) e2 (by omega)
theorem f_rem_ref {n : Nat} {g : Gs} {x y : Int64} {s t : Bool} {u v : Nat} (hn : 3000 ≤ n) (hx : Dv x.toUInt64 s u) (hy : Dv y.toUInt64 t v) (hv : v ≠ 0) : ∃ r g', f_X12_remainder n g x y = some (r, g') ∧ Sc g g' ∧ Dv r.toUInt64 s (u % v) := by
  obtain ⟨g1, cy, ky, ey, o1, o2, o3, o4, o5, o6, o7, o8, o9, o10⟩ := f_open (g := g) hy
  obtain ⟨g2, cx, kx, ex, p1, p2, p3, p4, p5, p6, p7, p8, p9, p10⟩ := f_open (g := g1) hx
  have hcy : 0 < cy := by
    rcases Nat.eq_zero_or_pos cy with h | h
    · rw [h, Nat.zero_mul] at o7; exact absurd o7 hv
    · exact h
  unfold f_X12_remainder
  rw [bnd_s o1, bnd_s p1, o5, p5, o4, p4, p3]
  by_cases hc : ky ≤ kx
  · have c1 : ey ≤ ex := by rw [Int32.le_iff_toInt_le, o6, p6]; omega
    have c2 : nzL (lN cy) = true := by
      unfold nzL
      exact decide_eq_true (fun z => by have := (lN_inj (b := 0) (by omega) (by decide)).mp z; omega)
    rw [if_pos c1, grd_t c2, pk_lRem (by omega) hcy (by omega)]
    rw [L_rem_ref hcy o8 o6 (by omega) (kx - ky) n (cx % cy) ex (by omega) (by omega) (Nat.mod_lt _ hcy) (by rw [p6]; omega) (by omega), p3]
    obtain ⟨r, r1, r2⟩ := made_dv_k (n := n) (s := s) (c := cx % cy * 2 ^ (kx - ky) % cy) (k := ky) (e := ey) (by omega) o6 (by have := Nat.mod_lt (cx % cy * 2 ^ (kx - ky)) hcy; omega) o9
    rw [bnd_s r1]
    refine ⟨r, g2, rfl, o2.trans p2, ?_⟩
    have e : u % v = cx % cy * 2 ^ (kx - ky) % cy * 2 ^ ky := by
      rw [p7, o7, show kx = (kx - ky) + ky by omega, Nat.pow_add, ← Nat.mul_assoc, Nat.mul_mod_mul_right, Nat.mod_mul_mod]
      rw [show (kx - ky) + ky - ky = kx - ky by omega]
    rw [e]; exact r2
  · have c1 : ¬ ey ≤ ex := by rw [Int32.le_iff_toInt_le, o6, p6]; omega
    have hL : lenN cy ≤ 64 := lenN_le (by omega)
    have hB := lenN_bounds (M := cy) (by omega)
    have hL53 : lenN cy ≤ 53 := by
      rcases Nat.lt_or_ge 53 (lenN cy) with h | h
      · have : 2 ^ 53 ≤ 2 ^ (lenN cy - 1) := Nat.pow_le_pow_right (by decide) (by omega)
        omega
      · exact h
    have t62 : (62 : Int32).toInt = 62 := by decide
    have tL : (nI (lenN cy)).toInt = (lenN cy : Int) := nI_toInt (by omega)
    have a1 : (ey - ex).toInt = (ky : Int) - kx := by
      rw [i32_sub (by rw [o6, p6]; omega) (by rw [o6, p6]; omega), o6, p6]; omega
    have a2 : ((62 : Int32) - nI (lenN cy)).toInt = 62 - (lenN cy : Int) := by
      rw [i32_sub (by rw [t62, tL]; omega) (by rw [t62, tL]; omega), t62, tL]
    rw [if_neg c1, f_lengthOf (by omega) (by omega)]
    show ∃ r g', (if ey - ex ≤ (62 : Int32) - nI (lenN cy) then _ else _) = some (r, g') ∧ _
    by_cases c3 : ey - ex ≤ (62 : Int32) - nI (lenN cy)
    · rw [if_pos c3]
      rw [Int32.le_iff_toInt_le, a1, a2] at c3
      obtain ⟨d, hd⟩ : ∃ d : Nat, ky = kx + d := ⟨ky - kx, by omega⟩
      have e0 : ey - ex = nI d := i32_nI (by rw [a1]; omega) (by omega)
      have hlt : cy * 2 ^ d < 2 ^ 62 := by
        have h1 : cy * 2 ^ d < 2 ^ lenN cy * 2 ^ d := Nat.mul_lt_mul_of_pos_right hB.2 (Nat.two_pow_pos d)
        rw [← Nat.pow_add] at h1
        have h2 : 2 ^ (lenN cy + d) ≤ 2 ^ 62 := Nat.pow_le_pow_right (by decide) (by omega)
        omega
      have hpos : 0 < cy * 2 ^ d := Nat.mul_pos hcy (Nat.two_pow_pos d)
      have e1 : lN cy <<< ((ey - ex).toInt64 &&& 63) = lN (cy * 2 ^ d) := by
        rw [e0]; exact lN_shl (by omega) (by omega)
      have c2 : nzL (lN (cy * 2 ^ d)) = true := by
        unfold nzL
        exact decide_eq_true (fun z => by have := (lN_inj (b := 0) (by omega) (by decide)).mp z; omega)
      rw [e1, grd_t c2, pk_lRem (by omega) hpos (by omega)]
      obtain ⟨r, r1, r2⟩ := made_dv_k (n := n) (s := s) (c := cx % (cy * 2 ^ d)) (k := kx) (e := ex) (by omega) p6 (by have := Nat.mod_le cx (cy * 2 ^ d); omega) p9
      rw [bnd_s r1]
      refine ⟨r, g2, rfl, o2.trans p2, ?_⟩
      have e : u % v = cx % (cy * 2 ^ d) * 2 ^ kx := by
        rw [p7, o7, hd, Nat.add_comm kx d, Nat.pow_add, ← Nat.mul_assoc, Nat.mul_mod_mul_right]
      rw [e]; exact r2
    · rw [if_neg c3]
      rw [Int32.le_iff_toInt_le, a1, a2] at c3
      refine ⟨x, g2, rfl, o2.trans p2, ?_⟩
      have hlt : u < v := by
        obtain ⟨d, hd⟩ : ∃ d : Nat, ky = kx + d := ⟨ky - kx, by omega⟩
        have h1 : 2 ^ (lenN cy - 1) * 2 ^ d ≤ cy * 2 ^ d := Nat.mul_le_mul_right _ hB.1
        rw [← Nat.pow_add] at h1
        have hl1 : 1 ≤ lenN cy := by unfold lenN; rw [if_neg (by omega)]; omega
        have h2 : 2 ^ 62 ≤ 2 ^ (lenN cy - 1 + d) := Nat.pow_le_pow_right (by decide) (by omega)
        rw [p7, o7, hd, Nat.add_comm kx d, Nat.pow_add, ← Nat.mul_assoc]
        exact Nat.mul_lt_mul_of_pos_right (by omega) (Nat.two_pow_pos kx)
      rw [Nat.mod_eq_of_lt hlt]
      exact hx
