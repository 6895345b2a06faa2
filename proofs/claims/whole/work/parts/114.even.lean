/-! reals taken to wholes: towards, evened; floorOf, ceilOf, rintOf -/
def cl (s : Bool) (most q : Nat) : Int64 := if q ≤ most then (if s = true then -lN q else lN q) else (if s = true then -lN most - 1 else lN most)
theorem neg_lN {m : Nat} (h : m < 2 ^ 63) : (-lN m).toInt = -(m : Int) := by
  have h1 : (lN m).toInt = (m : Int) := pk_lT h
  rw [Jvm.FP.Core.int64_neg (by rw [h1]; omega), h1]
theorem cl_toInt {s : Bool} {most q : Nat} (hm : most < 2 ^ 63) : (cl s most q).toInt = max (-(most : Int) - 1) (min (most : Int) (Jvm.FP.Core.signed s q)) := by
  unfold cl
  have t1 : (1 : Int64).toInt = 1 := by decide
  cases s with
  | false =>
    rw [sg_f]
    by_cases h : q ≤ most
    · rw [if_pos h, if_neg (by decide), pk_lT (by omega)]; omega
    · rw [if_neg h, if_neg (by decide), pk_lT (by omega)]; omega
  | true =>
    rw [sg_t]
    by_cases h : q ≤ most
    · rw [if_pos h, if_pos rfl, neg_lN (by omega)]; omega
    · rw [if_neg h, if_pos rfl, Jvm.FP.Core.int64_sub (by rw [neg_lN hm, t1]; omega) (by rw [neg_lN hm, t1]; omega), neg_lN hm, t1]; omega
theorem div_one64 {c k : Nat} (hk : k ≤ 1074) : c * 2 ^ k / Jvm.FP.Core.one64 = c / 2 ^ (1074 - k) := by
  rw [one64_split k hk]
  exact Nat.mul_div_mul_right _ _ (Nat.two_pow_pos k)
theorem lN_ne0 {c : Nat} (h : ¬ c = 0) (hc : c < 2 ^ 64) : ¬ lN c = (0 : Int64) := fun z => h ((lN_inj (b := 0) hc (by decide)).mp z)
theorem lN_is1 {c : Nat} (hc : c < 2 ^ 63) : lN c = (1 : Int64) ↔ c = 1 := pk_lEQ (b := 1) hc (by decide)
theorem pow_one64 {k : Nat} (hk : 1074 ≤ k) : 2 ^ k = 2 ^ (k - 1074) * Jvm.FP.Core.one64 := by
  unfold Jvm.FP.Core.one64
  rw [← Nat.pow_add]; congr 1; omega
theorem div_one64' {c k : Nat} (hk : 1074 ≤ k) : c * 2 ^ k / Jvm.FP.Core.one64 = c * 2 ^ (k - 1074) := by
  have e : 2 ^ k = 2 ^ (k - 1074) * Jvm.FP.Core.one64 := by
    unfold Jvm.FP.Core.one64
    rw [← Nat.pow_add]; congr 1; omega
  rw [e, ← Nat.mul_assoc]
  exact Nat.mul_div_cancel _ Jvm.FP.Core.one64_pos
theorem lN_sshr {m k : Nat} (hm : m < 2 ^ 63) (hk : k < 64) : lN m >>> ((nI k).toInt64 &&& 63) = lN (m / 2 ^ k) := by
  apply Int64.toInt_inj.mp
  have h2 : m / 2 ^ k ≤ m := Nat.div_le_self _ _
  rw [toInt_shr _ k _ (shS k hk), pk_lT hm, pk_lT (by omega), Int.shiftRight_eq_div_pow, Int.natCast_ediv]
theorem wholeOf_cl {s : Bool} {most q : Nat} (h : q ≤ most) : f_X12_wholeOf (sgB s) (lN q) = some (cl s most q) := by
  unfold f_X12_wholeOf cl
  rw [if_pos h]
  cases s <;> rfl
theorem cl_over {s : Bool} {most q : Nat} {g : Gs} (h : ¬ q ≤ most) : (if sgB s = 0 then some (lN most, g) else some ((-lN most) - (1 : Int64), g)) = some (cl s most q, g) := by
  unfold cl
  rw [if_neg h]
  cases s <;> rfl
theorem towards_21 {n : Nat} {g : Gs} {s : Bool} {c k most : Nat} {e : Int32} (hn : 65 ≤ n) (h0 : gI g 0 = sgB s) (h1 : gL g 1 = lN c) (h2 : gI g 2 = e) (he : e.toInt = (k : Int) - 1074) (hc : c < 2 ^ 53) (hk : k ≤ 2045) (hm : most < 2 ^ 63) : b_X12_towards_21 n g (lN most) = some (cl s most (c * 2 ^ k / Jvm.FP.Core.one64), g) := by
  unfold b_X12_towards_21
  rw [h0, h1, h2]
  have zero : some ((0 : Int64), g) = some (cl s most 0, g) := by
    unfold cl
    rw [if_pos (Nat.zero_le _)]
    cases s <;> rfl
  by_cases hc0 : c = 0
  · subst hc0
    rw [if_pos (show lN 0 = 0 from rfl), Nat.zero_mul, Nat.zero_div]
    exact zero
  · rw [if_neg (lN_ne0 hc0 (by omega))]
    have t63 : (-63 : Int32).toInt = -63 := by decide
    have t0 : (0 : Int32).toInt = 0 := by decide
    by_cases c1 : (-63 : Int32) ≤ e
    · rw [if_pos c1]
      rw [Int32.le_iff_toInt_le, t63, he] at c1
      by_cases c2 : 0 ≤ e
      · rw [if_pos c2]
        rw [Int32.le_iff_toInt_le, t0, he] at c2
        have e0 : e = nI (k - 1074) := i32_nI (by rw [he]; omega) (by omega)
        have hL : lenN c ≤ 64 := lenN_le (by omega)
        have hB := lenN_bounds hc0
        have hL1 : 1 ≤ lenN c := by unfold lenN; rw [if_neg hc0]; omega
        rw [bnd_s (f_lengthOf hn (by omega)), div_one64' (by omega), e0, nI_add]
        by_cases c3 : nI (k - 1074 + lenN c) ≤ (63 : Int32)
        · rw [if_pos c3]
          have c3' : k - 1074 + lenN c ≤ 63 := (nI_leI (b := 63) (by omega) (by decide)).mp c3
          have hlt : c * 2 ^ (k - 1074) < 2 ^ 63 := by
            have a1 : c * 2 ^ (k - 1074) < 2 ^ lenN c * 2 ^ (k - 1074) := Nat.mul_lt_mul_of_pos_right hB.2 (Nat.two_pow_pos _)
            rw [← Nat.pow_add] at a1
            have a2 : 2 ^ (lenN c + (k - 1074)) ≤ 2 ^ 63 := Nat.pow_le_pow_right (by decide) (by omega)
            omega
          rw [lN_shl (by omega) (by omega)]
          by_cases c4 : c * 2 ^ (k - 1074) ≤ most
          · rw [if_pos ((pk_lLE hlt hm).mpr c4), bnd_s (wholeOf_cl c4)]
          · rw [if_neg (fun z => c4 ((pk_lLE hlt hm).mp z))]
            exact cl_over c4
        · rw [if_neg c3]
          have c3' : ¬ k - 1074 + lenN c ≤ 63 := fun z => c3 ((nI_leI (b := 63) (by omega) (by decide)).mpr z)
          have hge : 2 ^ 63 ≤ c * 2 ^ (k - 1074) := by
            have a1 : 2 ^ (lenN c - 1) * 2 ^ (k - 1074) ≤ c * 2 ^ (k - 1074) := Nat.mul_le_mul_right _ hB.1
            rw [← Nat.pow_add] at a1
            have a2 : 2 ^ 63 ≤ 2 ^ (lenN c - 1 + (k - 1074)) := Nat.pow_le_pow_right (by decide) (by omega)
            omega
          exact cl_over (by omega)
      · rw [if_neg c2]
        rw [Int32.le_iff_toInt_le, t0, he] at c2
        have e0 : -e = nI (1074 - k) := by
          refine i32_nI ?_ (by omega)
          rw [Int32.toInt_neg, he, Int.bmod_eq_of_le (by omega) (by omega)]; omega
        have hd : c / 2 ^ (1074 - k) ≤ c := Nat.div_le_self _ _
        rw [e0, lN_sshr (by omega) (by omega), div_one64 (by omega)]
        by_cases c4 : c / 2 ^ (1074 - k) ≤ most
        · rw [if_pos ((pk_lLE (by omega) hm).mpr c4), bnd_s (wholeOf_cl c4)]
        · rw [if_neg (fun z => c4 ((pk_lLE (by omega) hm).mp z))]
          exact cl_over c4
    · rw [if_neg c1]
      rw [Int32.le_iff_toInt_le, t63, he] at c1
      rw [div_one64 (by omega), Nat.div_eq_of_lt]
      · exact zero
      · exact Nat.lt_of_lt_of_le hc (Nat.pow_le_pow_right (by decide) (by omega))
theorem f_towards_l {n : Nat} {g : Gs} {x : Int64} {s : Bool} {u : Nat} (hn : 65 ≤ n) (h : Dv x.toUInt64 s u) : ∃ g', f_X12_towards n g x 7 5 = some (FP.d2l x.toUInt64, g') ∧ Sc g g' := by
  obtain ⟨g1, c, k, e, o1, o2, o3, o4, o5, o6, o7, o8, o9, -⟩ := f_open (g := g) h
  refine ⟨g1, ?_, o2⟩
  unfold f_X12_towards
  rw [bnd_s o1, if_neg (by decide)]
  have := towards_21 (most := 2 ^ 63 - 1) hn o3 o4 o5 o6 o8 o9 (by decide)
  rw [← o7] at this
  refine Eq.trans this ?_
  congr 2
  apply Int64.toInt_inj.mp
  have e : (FP.d2l x.toUInt64).toInt = _ := Jvm.FP.Core.d2l_val h.ne_nan
  rw [h.sgn', h.zmag] at e
  rw [cl_toInt (by decide), e]
  rfl
theorem f_towards_i {n : Nat} {g : Gs} {x : Int64} {s : Bool} {u : Nat} (hn : 65 ≤ n) (h : Dv x.toUInt64 s u) : ∃ g', f_X12_towards n g x 7 4 = some ((FP.d2i x.toUInt64).toInt64, g') ∧ Sc g g' := by
  obtain ⟨g1, c, k, e, o1, o2, o3, o4, o5, o6, o7, o8, o9, -⟩ := f_open (g := g) h
  refine ⟨g1, ?_, o2⟩
  unfold f_X12_towards
  rw [bnd_s o1, if_pos (by decide)]
  have := towards_21 (most := 2 ^ 31 - 1) hn o3 o4 o5 o6 o8 o9 (by decide)
  rw [← o7] at this
  refine Eq.trans this ?_
  congr 2
  apply Int64.toInt_inj.mp
  have e : (FP.d2i x.toUInt64).toInt = _ := Jvm.FP.Core.d2i_val h.ne_nan
  rw [h.sgn', h.zmag] at e
  rw [cl_toInt (by decide), Int32.toInt_toInt64, e]
  rfl
/-- is it raised by one (0 floor, 1 ceil, 2 rint) -/
def evm (w : Nat) (s : Bool) (u : Nat) : Bool := if w = 2 then decide (Jvm.FP.Core.one64 < 2 * (u % Jvm.FP.Core.one64) ∨ 2 * (u % Jvm.FP.Core.one64) = Jvm.FP.Core.one64 ∧ u / Jvm.FP.Core.one64 % 2 = 1) else decide (u % Jvm.FP.Core.one64 ≠ 0) && (if w = 0 then s else !s)
def evn (w : Nat) (s : Bool) (u : Nat) : Nat := u / Jvm.FP.Core.one64 + (if evm w s u = true then 1 else 0)
theorem evn_mul (w : Nat) (s : Bool) (q : Nat) : evn w s (q * Jvm.FP.Core.one64) = q := by
  unfold evn evm
  have h1 : q * Jvm.FP.Core.one64 % Jvm.FP.Core.one64 = 0 := Nat.mul_mod_left _ _
  have h2 : q * Jvm.FP.Core.one64 / Jvm.FP.Core.one64 = q := Nat.mul_div_cancel _ Jvm.FP.Core.one64_pos
  have h3 := Jvm.FP.Core.one64_pos
  rw [h1, h2]
  have hw : (if w = 2 then decide (Jvm.FP.Core.one64 < 2 * 0 ∨ 2 * 0 = Jvm.FP.Core.one64 ∧ q % 2 = 1) else decide (0 ≠ 0) && (if w = 0 then s else !s)) = false := by
    split
    · exact decide_eq_false (by omega)
    · rfl
  rw [hw]; rfl
theorem mod_one64 {c k : Nat} (hk : k ≤ 1074) : c * 2 ^ k % Jvm.FP.Core.one64 = c % 2 ^ (1074 - k) * 2 ^ k := by
  rw [one64_split k hk]
  exact Nat.mul_mod_mul_right _ _ _
theorem ev_fin {n : Nat} {g : Gs} {s b : Bool} {m : Nat} (hn : 65 ≤ n) (h0 : gI g 0 = sgB s) (hm : m + 1 < 2 ^ 53) : ∃ r, b_X12_evened_202 n g (lN m) (sgB b) = some (r, g) ∧ Dv r.toUInt64 s ((m + if b = true then 1 else 0) * Jvm.FP.Core.one64) := by
  unfold b_X12_evened_202 b_X12_evened_213
  rw [h0]
  cases b with
  | false =>
    rw [if_pos (show sgB false = 0 by decide), if_neg (by decide), Nat.add_zero]
    obtain ⟨r, r1, r2⟩ := made_dv_k (n := n) (s := s) (c := m) (k := 1074) (e := 0) hn (by decide) (by omega) (by decide)
    exact ⟨r, bnd_s r1, r2⟩
  | true =>
    rw [if_neg (show ¬ sgB true = 0 by decide), if_pos rfl, lN_1]
    obtain ⟨r, r1, r2⟩ := made_dv_k (n := n) (s := s) (c := m + 1) (k := 1074) (e := 0) hn (by decide) (by omega) (by decide)
    exact ⟨r, bnd_s r1, r2⟩
theorem ev_80 {n : Nat} {g : Gs} {s b : Bool} {w : Nat} {v4 : Int32} {v5 : Int64} (h0 : gI g 0 = sgB s) (hw : w < 2) : b_X12_evened_80 n g (nI w) v4 v5 (sgB b) = b_X12_evened_202 n g v5 (sgB (b && (if w = 0 then s else !s))) := by
  unfold b_X12_evened_80 b_X12_evened_112 b_X12_evened_108 b_X12_evened_113
  rw [h0]
  have hw' : w = 0 ∨ w = 1 := by omega
  have n0 : nI 0 = (0 : Int32) := rfl
  have n1 : nI 1 = (1 : Int32) := rfl
  rcases hw' with rfl | rfl <;> cases b <;> cases s <;> simp (decide := true) [sgB, n0, n1]
theorem ev_80_2 {n : Nat} {g : Gs} {s b : Bool} {v4 : Int32} {v5 : Int64} (h0 : gI g 0 = sgB s) : b_X12_evened_80 n g (nI 2) v4 v5 (sgB b) = (if v4 ≤ (62 : Int32) then (b_X12_evened_137 n g v4 v5 ((1 : Int64) <<< ((v4 - (1 : Int32)).toInt64 &&& 63))) else (b_X12_evened_137 n g v4 v5 (0 : Int64))) := by
  unfold b_X12_evened_80 b_X12_evened_112 b_X12_evened_108 b_X12_evened_113
  rw [h0]
  have n2 : nI 2 = (2 : Int32) := rfl
  cases b <;> cases s <;> simp (decide := true) [sgB, n2]
theorem evm_eq {w : Nat} {s : Bool} {c k : Nat} (hk : k < 1074) : evm w s (c * 2 ^ k) = (if w = 2 then decide (2 ^ (1074 - k - 1) < c % 2 ^ (1074 - k) ∨ c % 2 ^ (1074 - k) = 2 ^ (1074 - k - 1) ∧ c / 2 ^ (1074 - k) % 2 = 1) else decide (c % 2 ^ (1074 - k) ≠ 0) && (if w = 0 then s else !s)) := by
  unfold evm
  have e1 : 2 ^ (1074 - k) = 2 * 2 ^ (1074 - k - 1) := by
    obtain ⟨d, hd⟩ : ∃ d, 1074 - k = d + 1 := ⟨1074 - k - 1, by omega⟩
    rw [hd, Nat.pow_succ, Nat.add_sub_cancel]; omega
  rw [mod_one64 (by omega), div_one64 (by omega), one64_split k (by omega)]
  have hp := Nat.two_pow_pos k
  have a1 : (2 ^ (1074 - k) * 2 ^ k < 2 * (c % 2 ^ (1074 - k) * 2 ^ k)) ↔ 2 ^ (1074 - k - 1) < c % 2 ^ (1074 - k) := by
    rw [← Nat.mul_assoc, Nat.mul_lt_mul_right hp]; omega
  have a2 : (2 * (c % 2 ^ (1074 - k) * 2 ^ k) = 2 ^ (1074 - k) * 2 ^ k) ↔ c % 2 ^ (1074 - k) = 2 ^ (1074 - k - 1) := by
    rw [← Nat.mul_assoc, Nat.mul_left_inj (by omega)]; omega
  have a3 : (c % 2 ^ (1074 - k) * 2 ^ k ≠ 0) ↔ c % 2 ^ (1074 - k) ≠ 0 := by
    rw [Ne, Nat.mul_eq_zero]; omega
  simp only [a1, a2, a3]
theorem f_evened {n : Nat} {g : Gs} {x : Int64} {s : Bool} {u w : Nat} (hn : 65 ≤ n) (hw : w < 3) (h : Dv x.toUInt64 s u) : ∃ r g', f_X12_evened n g x (nI w) = some (r, g') ∧ Sc g g' ∧ Dv r.toUInt64 s (evn w s u * Jvm.FP.Core.one64) := by
  obtain ⟨g1, c, k, e, o1, o2, o3, o4, o5, o6, o7, o8, o9, o10⟩ := f_open (g := g) h
  unfold f_X12_evened
  rw [bnd_s o1, o5, o4]
  have t0 : (0 : Int32).toInt = 0 := by decide
  by_cases c1 : 0 ≤ e
  · rw [if_pos c1]
    rw [Int32.le_iff_toInt_le, t0, o6] at c1
    refine ⟨x, g1, rfl, o2, ?_⟩
    have e1 : u = c * 2 ^ (k - 1074) * Jvm.FP.Core.one64 := by
      rw [o7, Nat.mul_assoc, ← pow_one64 (by omega)]
    rw [e1, evn_mul, ← e1]
    exact h
  · rw [if_neg c1]
    rw [Int32.le_iff_toInt_le, t0, o6] at c1
    by_cases hc0 : c = 0
    · rw [hc0, if_pos (show lN 0 = 0 from rfl)]
      refine ⟨x, g1, rfl, o2, ?_⟩
      have e1 : u = 0 * Jvm.FP.Core.one64 := by rw [o7, hc0, Nat.zero_mul, Nat.zero_mul]
      rw [e1, evn_mul, ← e1]
      exact h
    · rw [if_neg (lN_ne0 hc0 (by omega))]
      obtain ⟨d, hd⟩ : ∃ d : Nat, d = 1074 - k := ⟨_, rfl⟩
      have e0 : -e = nI d := by
        refine i32_nI ?_ (by omega)
        rw [Int32.toInt_neg, o6, Int.bmod_eq_of_le (by omega) (by omega)]; omega
      have hev := evm_eq (w := w) (s := s) (c := c) (k := k) (by omega)
      rw [← hd, ← o7] at hev
      have hq : u / Jvm.FP.Core.one64 = c / 2 ^ d := by rw [o7, div_one64 (by omega), hd]
      unfold evn
      rw [hev, hq, e0]
      have hdl : c / 2 ^ d ≤ c / 2 := by
        have a : 2 ^ 1 ≤ 2 ^ d := Nat.pow_le_pow_right (by decide) (by omega)
        exact Nat.div_le_div_left (by simpa using a) (by decide)
      by_cases c2 : d ≤ 62
      · have hd2 : 2 ^ d ≤ 2 ^ 62 := Nat.pow_le_pow_right (by decide) c2
        have hmod : c % 2 ^ d < 2 ^ d := Nat.mod_lt _ (Nat.two_pow_pos d)
        have hp1 : 2 ^ (d - 1) ≤ 2 ^ 62 := Nat.pow_le_pow_right (by decide) (by omega)
        have b1 : nI d ≤ (62 : Int32) := (nI_leI (b := 62) (by omega) (by decide)).mpr c2
        have b2 : ¬ (62 : Int32) < nI d := fun z => by have := (nI_ltI (a := 62) (by decide) (by omega)).mp z; omega
        have m1 : (1 : Int64) <<< ((nI d).toInt64 &&& 63) = lN (2 ^ d) := by
          have := lN_shl (n := 1) (k := d) (by omega) (by omega)
          rw [Nat.one_mul] at this; exact this
        have m2 : lN (2 ^ d) - (1 : Int64) = lN (2 ^ d - 1) := lN_sub (a := 2 ^ d) (b := 1) (Nat.two_pow_pos d)
        have m3 : lN c &&& lN (2 ^ d - 1) = lN (c % 2 ^ d) := lN_and (by omega) d (uL_lN (by omega))
        have m4 : (1 : Int64) <<< ((nI d - (1 : Int32)).toInt64 &&& 63) = lN (2 ^ (d - 1)) := by
          rw [show nI d - (1 : Int32) = nI (d - 1) from pk_sub (b := 1) (by omega)]
          have := lN_shl (n := 1) (k := d - 1) (by omega) (by omega)
          rw [Nat.one_mul] at this; exact this
        have m5 : lN (c / 2 ^ d) &&& (1 : Int64) = lN (c / 2 ^ d % 2) := lN_and (by omega) 1 (m := 1) (by decide)
        rw [if_pos b1, lN_sshr (by omega) (by omega)]
        have key : b_X12_evened_50 n g1 (nI w) (nI d) (lN (c / 2 ^ d)) = b_X12_evened_202 n g1 (lN (c / 2 ^ d)) (sgB (if w = 2 then decide (2 ^ (d - 1) < c % 2 ^ d ∨ c % 2 ^ d = 2 ^ (d - 1) ∧ c / 2 ^ d % 2 = 1) else decide (c % 2 ^ d ≠ 0) && (if w = 0 then s else !s))) := by
          have h50 : b_X12_evened_50 n g1 (nI w) (nI d) (lN (c / 2 ^ d)) = b_X12_evened_80 n g1 (nI w) (nI d) (lN (c / 2 ^ d)) (sgB (decide (c % 2 ^ d ≠ 0))) := by
            unfold b_X12_evened_50 b_X12_evened_75
            rw [if_neg b2, o4, m1, m2, m3]
            by_cases hz : c % 2 ^ d = 0
            · rw [hz, if_pos (show lN 0 = 0 from rfl)]; rfl
            · rw [if_neg (lN_ne0 hz (by omega)), show decide (c % 2 ^ d ≠ 0) = true from decide_eq_true hz]; rfl
          rw [h50]
          by_cases hw2 : w = 2
          · subst hw2
            rw [ev_80_2 o3, if_pos b1, m4, if_pos rfl]
            unfold b_X12_evened_137 b_X12_evened_161 b_X12_evened_195 b_X12_evened_199 b_X12_evened_200
            rw [if_pos b1, if_neg b2, o4, m1, m2, m3, m5]
            by_cases h1 : 2 ^ (d - 1) < c % 2 ^ d
            · rw [if_pos ((pk_lLT (by omega) (by omega)).mpr h1), show decide (2 ^ (d - 1) < c % 2 ^ d ∨ c % 2 ^ d = 2 ^ (d - 1) ∧ c / 2 ^ d % 2 = 1) = true from decide_eq_true (.inl h1)]; rfl
            · rw [if_neg (fun z => h1 ((pk_lLT (by omega) (by omega)).mp z))]
              by_cases h2 : c % 2 ^ d = 2 ^ (d - 1)
              · rw [if_pos ((pk_lEQ (by omega) (by omega)).mpr h2)]
                by_cases h3 : c / 2 ^ d % 2 = 1
                · rw [if_pos ((lN_is1 (by omega)).mpr h3), show decide (2 ^ (d - 1) < c % 2 ^ d ∨ c % 2 ^ d = 2 ^ (d - 1) ∧ c / 2 ^ d % 2 = 1) = true from decide_eq_true (.inr ⟨h2, h3⟩)]; rfl
                · rw [if_neg (fun z => h3 ((lN_is1 (by omega)).mp z)), show decide (2 ^ (d - 1) < c % 2 ^ d ∨ c % 2 ^ d = 2 ^ (d - 1) ∧ c / 2 ^ d % 2 = 1) = false from decide_eq_false (by omega)]; rfl
              · rw [if_neg (fun z => h2 ((pk_lEQ (by omega) (by omega)).mp z)), show decide (2 ^ (d - 1) < c % 2 ^ d ∨ c % 2 ^ d = 2 ^ (d - 1) ∧ c / 2 ^ d % 2 = 1) = false from decide_eq_false (by omega)]; rfl
          · rw [if_neg hw2, ev_80 o3 (by omega)]
        rw [key]
        obtain ⟨r, r1, r2⟩ := ev_fin (n := n) (g := g1) (s := s) (m := c / 2 ^ d) (b := if w = 2 then decide (2 ^ (d - 1) < c % 2 ^ d ∨ c % 2 ^ d = 2 ^ (d - 1) ∧ c / 2 ^ d % 2 = 1) else decide (c % 2 ^ d ≠ 0) && (if w = 0 then s else !s)) hn o3 (by omega)
        exact ⟨r, g1, r1, o2, r2⟩
      · have hd2 : 2 ^ 62 ≤ 2 ^ (d - 1) := Nat.pow_le_pow_right (by decide) (by omega)
        have hd3 : 2 ^ 62 ≤ 2 ^ d := Nat.pow_le_pow_right (by decide) (by omega)
        have b1 : ¬ nI d ≤ (62 : Int32) := fun z => c2 ((nI_leI (b := 62) (by omega) (by decide)).mp z)
        have b2 : (62 : Int32) < nI d := (nI_ltI (a := 62) (by decide) (by omega)).mpr (by omega)
        rw [if_neg b1, Nat.mod_eq_of_lt (show c < 2 ^ d by omega), Nat.div_eq_of_lt (show c < 2 ^ d by omega)]
        have key : b_X12_evened_50 n g1 (nI w) (nI d) (0 : Int64) = b_X12_evened_202 n g1 (lN 0) (sgB (if w = 2 then decide (2 ^ (d - 1) < c ∨ c = 2 ^ (d - 1) ∧ 0 % 2 = 1) else decide (c ≠ 0) && (if w = 0 then s else !s))) := by
          have h50 : b_X12_evened_50 n g1 (nI w) (nI d) (0 : Int64) = b_X12_evened_80 n g1 (nI w) (nI d) (lN 0) (sgB (decide (c ≠ 0))) := by
            unfold b_X12_evened_50 b_X12_evened_75
            rw [if_pos b2, show decide (c ≠ 0) = true from decide_eq_true hc0]; rfl
          rw [h50]
          by_cases hw2 : w = 2
          · subst hw2
            rw [ev_80_2 o3, if_neg b1, if_pos rfl]
            unfold b_X12_evened_137 b_X12_evened_161 b_X12_evened_199 b_X12_evened_200
            rw [if_neg b1, if_pos b2, show decide (2 ^ (d - 1) < c ∨ c = 2 ^ (d - 1) ∧ 0 % 2 = 1) = false from decide_eq_false (by omega)]; rfl
          · rw [if_neg hw2, ev_80 o3 (by omega)]
        rw [key]
        obtain ⟨r, r1, r2⟩ := ev_fin (n := n) (g := g1) (s := s) (m := 0) (b := if w = 2 then decide (2 ^ (d - 1) < c ∨ c = 2 ^ (d - 1) ∧ 0 % 2 = 1) else decide (c ≠ 0) && (if w = 0 then s else !s)) hn o3 (by decide)
        exact ⟨r, g1, r1, o2, r2⟩
