/-! Euclid's rounds: how many there are -/
def eu : Nat → Nat → Nat → Prop
  | 0, _, v => v = 0
  | k + 1, u, v => v = 0 ∨ eu k v (u % v)
theorem eu_zero (k u : Nat) : eu k u 0 := by
  cases k with
  | zero => rfl
  | succ k => exact .inl rfl
theorem eu_mono {k u v : Nat} (h : eu k u v) : eu (k + 1) u v := by
  induction k generalizing u v with
  | zero => exact .inl h
  | succ k ih =>
    rcases h with h | h
    · exact .inl h
    · exact .inr (ih h)
theorem eu_le {k j u v : Nat} (h : eu k u v) (hj : k ≤ j) : eu j u v := by
  induction hj with
  | refl => exact h
  | step _ ih => exact eu_mono ih
theorem half_mod {v r : Nat} (hr : 0 < r) (h : r < v) : 2 * (v % r) < v := by
  have h1 := Nat.mod_lt v hr
  by_cases h2 : 2 * r ≤ v
  · omega
  · have : v % r = v - r := by
      rw [Nat.mod_eq_sub_mod (by omega), Nat.mod_eq_of_lt (by omega)]
    omega
theorem eu_bits (j : Nat) : ∀ u v : Nat, v < 2 ^ j → eu (2 * j) u v := by
  induction j with
  | zero => intro u v h; exact (show v = 0 by omega)
  | succ j ih =>
    intro u v h
    show eu (2 * j + 2) u v
    by_cases hv : v = 0
    · exact .inl hv
    · refine .inr ?_
      by_cases hr : u % v = 0
      · exact .inl hr
      · refine .inr (ih _ _ ?_)
        have h1 := half_mod (v := v) (r := u % v) (by omega) (Nat.mod_lt _ (by omega))
        rw [Nat.pow_succ] at h
        omega
theorem eu_scale (d : Nat) (hd : 0 < d) : ∀ (k u v : Nat), eu k u v → eu k (u * d) (v * d)
  | 0, u, v, h => by
    show v * d = 0
    rw [show v = 0 from h, Nat.zero_mul]
  | k + 1, u, v, h => by
    rcases h with h | h
    · exact .inl (by rw [h, Nat.zero_mul])
    · refine .inr ?_
      rw [Nat.mul_mod_mul_right]
      exact eu_scale d hd k _ _ h
/-- of doubles there are at most 110 -/
theorem eu_dv {cu ku cv kv : Nat} (h1 : cu < 2 ^ 53) (h2 : cv < 2 ^ 53) : eu 110 (cu * 2 ^ ku) (cv * 2 ^ kv) := by
  by_cases h : ku ≤ kv
  · obtain ⟨d, rfl⟩ : ∃ d, kv = d + ku := ⟨kv - ku, by omega⟩
    rw [Nat.pow_add, ← Nat.mul_assoc]
    refine eu_scale _ (Nat.two_pow_pos ku) 110 _ _ ?_
    by_cases hv : cv * 2 ^ d = 0
    · rw [hv]; exact eu_zero _ _
    · refine .inr ?_
      by_cases hr : cu % (cv * 2 ^ d) = 0
      · rw [hr]; exact eu_zero _ _
      · refine eu_le (k := 2 * 53 + 1) (.inr (eu_bits 53 _ _ ?_)) (by decide)
        have a := Nat.mod_le cu (cv * 2 ^ d)
        have b := Nat.mod_lt (cv * 2 ^ d) (y := cu % (cv * 2 ^ d)) (by omega)
        omega
  · obtain ⟨d, rfl⟩ : ∃ d, ku = d + kv := ⟨ku - kv, by omega⟩
    rw [Nat.pow_add, ← Nat.mul_assoc]
    exact eu_scale _ (Nat.two_pow_pos kv) 110 _ _ (eu_le (k := 2 * 53) (eu_bits 53 _ _ h2) (by decide))
theorem Dv.eu {a b : UInt64} {s t : Bool} {u v : Nat} (ha : Dv a s u) (hb : Dv b t v) : eu 110 u v := by
  obtain ⟨c, k, h1, h2, -⟩ := ha.shape
  obtain ⟨d, l, h3, h4, -⟩ := hb.shape
  rw [h1, h3]
  exact eu_dv h2 h4
theorem gcd_step {u v : Nat} : Nat.gcd v (u % v) = Nat.gcd u v := by
  rw [Nat.gcd_comm v, ← Nat.gcd_rec, Nat.gcd_comm]
theorem L_common_ref {n : Nat} (hn : 3000 ≤ n) : ∀ (k f : Nat) (g : Gs) (x y : Int64) (u v : Nat), k < f → eu k u v → Dv x.toUInt64 false u → Dv y.toUInt64 false v → ∃ r g', L_X12_common n f g x y = some (r, g') ∧ Sc g g' ∧ Dv r.toUInt64 false (Nat.gcd u v)
  | _, 0, _, _, _, _, _, h, _, _, _ => absurd h (Nat.not_lt_zero _)
  | k, f + 1, g, x, y, u, v, hf, he, hx, hy => by
    show ∃ r g', h_X12_common_12 n (L_X12_common n f) g x y = some (r, g') ∧ _
    unfold h_X12_common_12
    have hy0 : y = (0 : Int64) ↔ v = 0 := by
      constructor
      · intro h
        subst h
        exact (hy.same (t := false) (v := 0) dv_zero).2
      · intro h
        subst h
        have := hy.inj dv_zero
        exact Int64.toBitVec_inj.mp (congrArg UInt64.toBitVec this)
    by_cases hv : v = 0
    · rw [if_pos (hy0.mpr hv)]
      refine ⟨x, g, rfl, Sc.refl g, ?_⟩
      rw [hv, Nat.gcd_zero_right]
      exact hx
    · rw [if_neg (fun z => hv (hy0.mp z))]
      obtain ⟨r, g1, r1, r2, r3⟩ := f_rem_ref (g := g) hn hx hy hv
      rw [bnd_s r1]
      cases k with
      | zero => exact absurd he hv
      | succ k =>
        rcases he with he | he
        · exact absurd he hv
        obtain ⟨r', g2, q1, q2, q3⟩ := L_common_ref hn k f g1 y r v (u % v) (by omega) he hy r3
        refine ⟨r', g2, q1, r2.trans q2, ?_⟩
        rw [gcd_step] at q3
        exact q3
theorem dv_mask {x : Int64} {s : Bool} {u : Nat} (h : Dv x.toUInt64 s u) : Dv (x &&& (9223372036854775807 : Int64)).toUInt64 false u := by
  have h1 : (x &&& (9223372036854775807 : Int64)).toUInt64.toNat = uL x % 2 ^ 63 := by
    show uL (x &&& (9223372036854775807 : Int64)) = _
    exact uL_mask x 63 (by decide)
  have hl : uL x % 2 ^ 63 < 2 ^ 63 := Nat.mod_lt _ (by decide)
  have h2 := h.mag
  have h3 := h.lt
  have h4 := Dv.of (a := (x &&& (9223372036854775807 : Int64)).toUInt64) (by rw [h1, Nat.mod_mod]; exact h3)
  rw [h1, Nat.mod_mod, show decide (2 ^ 63 ≤ uL x % 2 ^ 63) = false from decide_eq_false (by omega)] at h4
  rw [h2]
  exact h4
theorem f_common_ref {n : Nat} {g : Gs} {x y : Int64} {s t : Bool} {u v : Nat} (hn : 3000 ≤ n) (hx : Dv x.toUInt64 s u) (hy : Dv y.toUInt64 t v) : ∃ r g', f_X12_common n g x y = some (r, g') ∧ Sc g g' ∧ Dv r.toUInt64 false (Nat.gcd u v) :=
  L_common_ref hn 110 n g _ _ u v (by omega) (Dv.eu hx hy) (dv_mask hx) (dv_mask hy)
