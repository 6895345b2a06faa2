/-! the table is made -/
theorem dv_const2 : Dv (4611686018427387904 : UInt64) false (2 ^ 1075) := ⟨2 ^ 52, -51, by decide +kernel, by
  unfold Jvm.FP.Core.inUnits
  rw [← Nat.pow_add]; congr 1⟩
theorem dv_consth : Dv (4602678819172646912 : UInt64) false (2 ^ 1073) := ⟨2 ^ 52, -53, by decide +kernel, by
  unfold Jvm.FP.Core.inUnits
  rw [← Nat.pow_add]; congr 1⟩
theorem dv_pow2 {p : UInt64} {k i j : Nat} {q : UInt64} (hp : Dv p false (2 ^ k)) (hq : Dv q false (2 ^ i)) (h : j + 1074 = k + i) (hj : j ≤ 2097) : Dv (FP.dmul p q) false (2 ^ j) := by
  by_cases hj2 : j ≤ 2045
  · have := dv_mul (c := 1) (k := j) hp hq (by decide) hj2 (by
      unfold Jvm.FP.Core.one64
      rw [Nat.one_mul, ← Nat.pow_add, ← Nat.pow_add, h])
    rw [Nat.one_mul] at this
    exact this
  · have := dv_mul (c := 2 ^ (j - 2045)) (k := 2045) hp hq (by
      exact Nat.pow_lt_pow_right (by decide) (by omega)) (by decide) (by
      unfold Jvm.FP.Core.one64
      rw [← Nat.pow_add, ← Nat.pow_add, ← Nat.pow_add]; congr 1; omega)
    rw [← Nat.pow_add, show j - 2045 + 2045 = j by omega] at this
    exact this
theorem mul_n64 {a b : UInt64} (ha : Jvm.FP.Core.DFin a) (hb : Jvm.FP.Core.DFin b) : n64 (FP.dmul a b) = true :=
  n64_of ((Jvm.FP.Core.notNaN_iff _).mp (Jvm.FP.Core.dmul_out ha hb))
theorem gDA_set (g : Gs) (f : Nat → UInt64) : gDA (sDA g 0 f) 0 = f := by
  show va_up g.2.2.2.2.2.1 0 f 0 = f
  exact va_up_self _ _ _
theorem L_init2 {n : Nat} : ∀ (d f : Nat) (g : Gs) (p : UInt64), d + 1 < f → d ≤ 1074 → Dv p false (2 ^ d) → (∀ k, d < k → k < 2098 → Dv (gDA g 0 k) false (2 ^ k)) → ∃ g', (L_X6_init n f).2 g p (nI d) = some g' ∧ Tb g'
  | _, 0, _, _, h, _, _, _ => absurd h (Nat.not_lt_zero _)
  | d, f + 1, g, p, hf, hd, hp, ht => by
    show ∃ g', h_X6_init_51 n (L_X6_init n f) g p (nI d) = some g' ∧ _
    unfold h_X6_init_51
    have b1 : inB (nI d) 2098 = true := decide_eq_true (nI_in (by omega) (by decide))
    rw [if_neg (nI_pos (by omega)), grd_t b1, grd_t (mul_n64 hp.fin dv_consth.fin), nI_clamp (by omega)]
    have ht' : ∀ k, d ≤ k → k < 2098 → Dv (gDA (sDA g 0 (vf_upd (gDA g 0) d p)) 0 k) false (2 ^ k) := by
      intro k h1 h2
      rw [gDA_set]
      unfold vf_upd
      by_cases hk : k = d
      · rw [if_pos hk, hk]; exact hp
      · rw [if_neg hk]; exact ht k (by omega) h2
    cases d with
    | zero =>
      obtain ⟨f', rfl⟩ : ∃ f', f = f' + 1 := ⟨f - 1, by omega⟩
      refine ⟨_, ?_, fun k hk => ht' k (Nat.zero_le _) hk⟩
      show h_X6_init_51 n (L_X6_init n f') (sDA g 0 (vf_upd (gDA g 0) 0 p)) (FP.dmul p (4602678819172646912 : UInt64)) (nI 0 + (-1 : Int32)) = _
      unfold h_X6_init_51
      rw [if_pos (by decide)]
    | succ d =>
      have e : nI (d + 1) + (-1 : Int32) = nI d := pk_m1 d
      rw [e]
      exact L_init2 d f _ _ (by omega) (by omega) (dv_pow2 hp dv_consth (by omega) (by omega)) (fun k h1 h2 => ht' k (by omega) h2)
theorem dv_1074 : Dv FP.dconst1 false (2 ^ 1074) := dv_one
theorem L_init1 {n : Nat} : ∀ (d f k : Nat) (g : Gs) (p : UInt64), d + 1076 < f → k + d = 2098 → 1074 ≤ k → (0 < d → Dv p false (2 ^ k)) → (∀ j, 1074 ≤ j → j < k → Dv (gDA g 0 j) false (2 ^ j)) → ∃ g', (L_X6_init n f).1 g p (nI k) = some g' ∧ Tb g'
  | _, 0, _, _, _, h, _, _, _, _ => absurd h (Nat.not_lt_zero _)
  | 0, f + 1, k, g, p, hf, hk, hk2, hp, ht => by
    show ∃ g', h_X6_init_19 n (L_X6_init n f) g p (nI k) = some g' ∧ _
    unfold h_X6_init_19
    have e : k = 2098 := by omega
    subst e
    rw [if_pos (show (2098 : Int32) ≤ nI 2098 by decide)]
    exact L_init2 1074 f g _ (by omega) (by decide) dv_1074 (fun j h1 h2 => ht j (by omega) h2)
  | d + 1, f + 1, k, g, p, hf, hk, hk2, hp, ht => by
    show ∃ g', h_X6_init_19 n (L_X6_init n f) g p (nI k) = some g' ∧ _
    unfold h_X6_init_19
    have b1 : inB (nI k) 2098 = true := decide_eq_true (nI_in (by omega) (by decide))
    have hp' := hp (by omega)
    rw [if_neg (show ¬ (2098 : Int32) ≤ nI k from nI_ge (a := k) (b := 2098) (by omega) (by decide)), grd_t b1, grd_t (mul_n64 hp'.fin dv_const2.fin), nI_clamp (by omega), nI_1]
    refine L_init1 d f (k + 1) _ _ (by omega) (by omega) (by omega) (fun h => dv_pow2 hp' dv_const2 (by omega) (by omega)) ?_
    intro j h1 h2
    rw [gDA_set]
    unfold vf_upd
    by_cases hj : j = k
    · rw [if_pos hj, hj]; exact hp'
    · rw [if_neg hj]; exact ht j h1 (by omega)
theorem f_init6 {n : Nat} (hn : 3000 ≤ n) (g : Gs) : ∃ g', f_X6_init n g = some g' ∧ Tb g' :=
  L_init1 1024 n 1074 g _ (by omega) (by decide) (by decide) (fun _ => dv_1074) (fun j h1 h2 => absurd h2 (by omega))
