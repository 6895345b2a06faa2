/-! wholes as reals, reals as wholes, wholes made narrow -/
theorem both64 {A B : Nat} {e : Int} {s : Bool} {z : UInt64} (hB : 0 < B) (h : Jvm.FP.Core.val64 z = Jvm.FP.Core.roundRatio Jvm.FP.Core.b64 s A B e) : (∃ u, Dv (bitsOr s (Jvm.FP.Core.roundRatio Jvm.FP.Core.b64 false A B e)).toUInt64 s u ∧ Dv z s u) ∨ (bitsOr s (Jvm.FP.Core.roundRatio Jvm.FP.Core.b64 false A B e) = 9223372036854775807 ∧ Jvm.FP.Core.val64 z = .inf s) := by
  have hfit := Jvm.FP.Core.roundRatio_fits Jvm.FP.Core.good_b64 false A hB e
  have hneg : Jvm.FP.Core.roundRatio Jvm.FP.Core.b64 s A B e = (if s = true then Jvm.FP.Core.negate (Jvm.FP.Core.roundRatio Jvm.FP.Core.b64 false A B e) else Jvm.FP.Core.roundRatio Jvm.FP.Core.b64 false A B e) := by
    cases s with
    | false => rfl
    | true => rw [if_pos rfl, Jvm.FP.Core.negate_roundRatio]; rfl
  rw [hneg] at h
  rcases Jvm.FP.Core.roundRatio_cases Jvm.FP.Core.b64 false A B e with ⟨c, q, hc⟩ | hi
  · rw [hc] at h hfit ⊢
    left
    refine ⟨_, bitsOr_dv hfit, ⟨c, q, ?_, rfl⟩⟩
    rw [h]
    cases s <;> rfl
  · rw [hi] at h ⊢
    right
    refine ⟨rfl, ?_⟩
    rw [h]
    cases s <;> rfl
theorem i64_min_or (v : Int64) : v = (-9223372036854775808 : Int64) ∨ (v.toInt ≠ -9223372036854775808 ∧ v ≠ (-9223372036854775808 : Int64)) := by
  by_cases h : v = (-9223372036854775808 : Int64)
  · exact .inl h
  · refine .inr ⟨fun z => h (Int64.toInt_inj.mp (by rw [z]; decide)), h⟩
theorem i64_range (v : Int64) : -9223372036854775808 ≤ v.toInt ∧ v.toInt < 9223372036854775808 := by
  have h := uL_lt v
  have t := uL_toInt v
  rw [t]
  split <;> omega
theorem fromWhole_made (n : Nat) (v : Int64) (t : Int32) : ∃ (M : Nat) (e : Int32) (E : Int), f_X12_fromWhole n v t = f_X12_made n (sgB (decide (v.toInt < 0))) (lN M) e t ∧ M < 2 ^ 63 ∧ e.toInt = E ∧ 0 ≤ E ∧ E ≤ 63 ∧ M * 2 ^ E.toNat = v.toInt.natAbs := by
  have bs : ∀ x : Option Int64, bnd x (fun q => some q) = x := fun x => by cases x <;> rfl
  unfold f_X12_fromWhole b_X12_fromWhole_28 b_X12_fromWhole_40
  rcases i64_min_or v with h | ⟨h1, h2⟩
  · subst h
    refine ⟨1, 63, 63, ?_, by decide, by decide, by decide, by decide, by decide⟩
    rw [if_pos rfl, bs]
    rfl
  · have hr := i64_range v
    rw [if_neg h2]
    have h0 : (0 : Int64) ≤ v ↔ 0 ≤ v.toInt := by rw [Int64.le_iff_toInt_le]; rfl
    by_cases c : 0 ≤ v.toInt
    · obtain ⟨m, hm⟩ : ∃ m : Nat, v.toInt = (m : Int) := ⟨v.toInt.toNat, by omega⟩
      have ev : v = lN m := Int64.toInt_inj.mp (by rw [hm, pk_lT (by omega)])
      refine ⟨m, 0, 0, ?_, by omega, by decide, by decide, by decide, ?_⟩
      · rw [if_pos (h0.mpr c), if_pos (h0.mpr c), bs, show decide (v.toInt < 0) = false from decide_eq_false (by omega), ← ev]; rfl
      · rw [hm]; simp
    · obtain ⟨m, hm⟩ : ∃ m : Nat, v.toInt = -(m : Int) := ⟨(-v.toInt).toNat, by omega⟩
      have ev : -v = lN m := Int64.toInt_inj.mp (by rw [Jvm.FP.Core.int64_neg (by omega), hm, pk_lT (by omega)]; omega)
      refine ⟨m, 0, 0, ?_, by omega, by decide, by decide, by decide, ?_⟩
      · rw [if_neg (fun z => c (h0.mp z)), if_neg (fun z => c (h0.mp z)), bs, show decide (v.toInt < 0) = true from decide_eq_true (by omega), ev]; rfl
      · rw [hm]; simp
theorem whole_ratio {f : Jvm.FP.Core.Fmt} {s : Bool} {M : Nat} {E : Int} {k : Nat} (h0 : 0 ≤ E) (h : M * 2 ^ E.toNat = k) : Jvm.FP.Core.roundRatio f s M 1 E = Jvm.FP.Core.roundRatio f s k 1 0 := by
  refine Jvm.FP.Core.roundRatio_congr (by decide) (by decide) ?_
  rw [Nat.mul_one, Nat.mul_one, show (0 - E).toNat = 0 by omega, Nat.pow_zero, Nat.mul_one, show (E - 0).toNat = E.toNat by omega, h]
theorem fromWhole7 {n : Nat} (hn : 65 ≤ n) (v : Int64) : ∃ r s u, f_X12_fromWhole n v 7 = some r ∧ r.toUInt64 = FP.l2d v ∧ Dv (FP.l2d v) s u := by
  obtain ⟨M, e, E, h1, h2, h3, h4, h5, h6⟩ := fromWhole_made n v 7
  have hm := f_made (n := n) (M := M) (x0 := sgB (decide (v.toInt < 0))) (e := e) hn h2 h3 (by omega) (by omega)
  rw [sgB_dec] at hm
  have hv : Jvm.FP.Core.val64 (FP.l2d v) = Jvm.FP.Core.roundRatio Jvm.FP.Core.b64 (decide (v.toInt < 0)) M 1 E := by
    rw [whole_ratio h4 h6]
    exact Jvm.FP.Core.val64_l2d v
  have hfin : Jvm.FP.Core.DFin (FP.l2d v) := Jvm.FP.Core.l2d_fin v
  rcases both64 (by decide) hv with ⟨u, d1, d2⟩ | ⟨-, d⟩
  · exact ⟨_, _, u, h1.trans hm, d1.inj d2, d2⟩
  · exact absurd d (hfin.ne_inf _)
theorem fromWhole6 {n : Nat} (hn : 65 ≤ n) (v : Int64) : ∃ r s u, f_X12_fromWhole n v 6 = some r ∧ Fl r s u ∧ Dv (FP.f2d (FP.l2f v)) s u := by
  obtain ⟨M, e, E, h1, h2, h3, h4, h5, h6⟩ := fromWhole_made n v 6
  have hm := f32_f_made (n := n) (M := M) (x0 := sgB (decide (v.toInt < 0))) (e := e) hn h2 h3 (by omega) (by omega)
  rw [sgB_dec] at hm
  have hv : Jvm.FP.Core.val32 (FP.l2f v) = Jvm.FP.Core.roundRatio Jvm.FP.Core.b32 (decide (v.toInt < 0)) M 1 E := by
    rw [whole_ratio h4 h6]
    exact Jvm.FP.Core.val32_l2f v
  have hfin : Jvm.FP.Core.FFin (FP.l2f v) := Jvm.FP.Core.l2f_fin v
  rcases both32 (by decide) hv with ⟨u, d1, d2⟩ | ⟨-, d⟩
  · exact ⟨_, _, u, h1.trans hm, d1, d2⟩
  · exfalso
    obtain ⟨s, c, q, hc⟩ := hfin
    have := dv_f2d hc
    obtain ⟨c', q', hc', -⟩ := this
    rw [d] at hc'
    cases hc'
/-! narrowed and wholeOf -/
theorem nar_bits (v : Int64) (k : Nat) {mask hf top : Int64} (hk : k ≤ 32) (hk1 : 1 ≤ k) (hm : uL mask = 2 ^ k - 1) (hh : hf = lN (2 ^ (k - 1))) (ht : top = lN (2 ^ k)) : (if (v &&& mask) < hf then some (v &&& mask) else some ((v &&& mask) - top)) = some (Int64.ofInt (v.toInt.bmod (2 ^ k))) := by
  have hp : 2 ^ k = 2 * 2 ^ (k - 1) := by
    obtain ⟨j, rfl⟩ : ∃ j, k = j + 1 := ⟨k - 1, by omega⟩
    rw [Nat.pow_succ, Nat.add_sub_cancel]; omega
  have hp2 : 2 ^ k ≤ 2 ^ 32 := Nat.pow_le_pow_right (by decide) hk
  have hp3 : 0 < 2 ^ (k - 1) := Nat.two_pow_pos _
  have e1 : v &&& mask = lN (uL v % 2 ^ k) := by
    apply uL_inj
    have := Nat.mod_lt (uL v) (Nat.two_pow_pos k)
    rw [uL_mask v k hm, uL_lN (by omega)]
  have hlt : uL v % 2 ^ k < 2 ^ k := Nat.mod_lt _ (Nat.two_pow_pos k)
  have low := uLow v k (by omega)
  have hb : v.toInt.bmod (2 ^ k) = if uL v % 2 ^ k < 2 ^ (k - 1) then ((uL v % 2 ^ k : Nat) : Int) else ((uL v % 2 ^ k : Nat) : Int) - ((2 ^ k : Nat) : Int) := by
    rw [Int.bmod_def, ← low]
    have hc : ((((2 ^ k : Nat) : Int) + 1) / 2) = ((2 ^ (k - 1) : Nat) : Int) := by omega
    rw [hc]
    by_cases c : uL v % 2 ^ k < 2 ^ (k - 1)
    · rw [if_pos c, if_pos (by omega)]
    · rw [if_neg c, if_neg (by omega)]
  rw [e1, hh, ht, hb]
  have oi : ∀ z : Int, -9223372036854775808 ≤ z → z < 9223372036854775808 → (Int64.ofInt z).toInt = z := fun z h1 h2 => by
    rw [Int64.toInt_ofInt, show Int64.size = 18446744073709551616 from rfl]
    exact Int.bmod_eq_of_le (by omega) (by omega)
  by_cases c : uL v % 2 ^ k < 2 ^ (k - 1)
  · rw [if_pos ((pk_lLT (by omega) (by omega)).mpr c), if_pos c]
    refine congrArg some (Int64.toInt_inj.mp ?_)
    rw [pk_lT (by omega), oi _ (by omega) (by omega)]
  · rw [if_neg (fun z => c ((pk_lLT (by omega) (by omega)).mp z)), if_neg c]
    refine congrArg some (Int64.toInt_inj.mp ?_)
    rw [Jvm.FP.Core.int64_sub (by rw [pk_lT (by omega), pk_lT (by omega)]; omega) (by rw [pk_lT (by omega), pk_lT (by omega)]; omega), pk_lT (by omega), pk_lT (by omega), oi _ (by omega) (by omega)]
theorem oi_toInt (x : Int64) : Int64.ofInt x.toInt = x := Int64.ofInt_toInt x
/-- wholes of a sort: what both make of any long -/
theorem nar_eq (v : Int64) {t : Nat} (h1 : 1 ≤ t) (h5 : t ≤ 5) : ∃ r, f_X12_narrowed v (nI t) = some r ∧ f_X6_wholeOf (nI t) v = some r := by
  have ht : t = 1 ∨ t = 2 ∨ t = 3 ∨ t = 4 ∨ t = 5 := by omega
  have b1 : ∀ k : Nat, k ≤ 32 → (v.toInt.bmod (2 ^ 32)).bmod (2 ^ k) = v.toInt.bmod (2 ^ k) := fun k hk => Int.bmod_bmod_of_dvd (Nat.pow_dvd_pow 2 hk)
  rcases ht with rfl | rfl | rfl | rfl | rfl
  · refine ⟨_, (if_pos rfl).trans (nar_bits v 8 (by decide) (by decide) (by decide) rfl rfl), ?_⟩
    unfold f_X6_wholeOf
    rw [if_neg (by decide), if_pos (show nI 1 = (1 : Int32) from rfl)]
    refine congrArg some (Int64.toInt_inj.mp ?_)
    rw [Int32.toInt_toInt64, Int8.toInt_toInt32, Int32.toInt_toInt8, Int64.toInt_toInt32, b1 8 (by decide), Int64.toInt_ofInt, show Int64.size = 18446744073709551616 from rfl]
    have := Int.bmod_lt (x := v.toInt) (m := 2 ^ 8) (by decide)
    have := Int.le_bmod (x := v.toInt) (m := 2 ^ 8) (by decide)
    exact (Int.bmod_eq_of_le (by omega) (by omega)).symm
  · refine ⟨_, ((if_neg (by decide)).trans (if_pos rfl)).trans (nar_bits v 16 (by decide) (by decide) (by decide) rfl rfl), ?_⟩
    unfold f_X6_wholeOf
    rw [if_neg (by decide), if_neg (by decide), if_pos (show nI 2 = (2 : Int32) from rfl)]
    refine congrArg some (Int64.toInt_inj.mp ?_)
    rw [Int32.toInt_toInt64, Int16.toInt_toInt32, Int32.toInt_toInt16, Int64.toInt_toInt32, b1 16 (by decide), Int64.toInt_ofInt, show Int64.size = 18446744073709551616 from rfl]
    have := Int.bmod_lt (x := v.toInt) (m := 2 ^ 16) (by decide)
    have := Int.le_bmod (x := v.toInt) (m := 2 ^ 16) (by decide)
    exact (Int.bmod_eq_of_le (by omega) (by omega)).symm
  · refine ⟨v &&& (65535 : Int64), rfl, ?_⟩
    unfold f_X6_wholeOf
    rw [if_neg (by decide), if_neg (by decide), if_neg (by decide), if_pos (show nI 3 = (3 : Int32) from rfl)]
    refine congrArg some (uL_inj ?_)
    rw [pk_char, toI32_nat, Nat.mod_mod_of_dvd _ (by decide : 65536 ∣ 2 ^ 32), nI_l (by omega), uL_lN (by omega), uL_mask v 16 (by decide)]
  · refine ⟨_, ((if_neg (by decide)).trans ((if_neg (by decide)).trans ((if_neg (by decide)).trans (if_pos rfl)))).trans (nar_bits v 32 (by decide) (by decide) (by decide) rfl rfl), ?_⟩
    unfold f_X6_wholeOf
    rw [if_neg (by decide), if_neg (by decide), if_neg (by decide), if_neg (by decide), if_pos (show nI 4 = (4 : Int32) from rfl)]
    refine congrArg some (Int64.toInt_inj.mp ?_)
    rw [Int32.toInt_toInt64, Int64.toInt_toInt32, Int64.toInt_ofInt, show Int64.size = 18446744073709551616 from rfl]
    have := Int.bmod_lt (x := v.toInt) (m := 2 ^ 32) (by decide)
    have := Int.le_bmod (x := v.toInt) (m := 2 ^ 32) (by decide)
    exact (Int.bmod_eq_of_le (by omega) (by omega)).symm
  · exact ⟨v, rfl, rfl⟩
/-! reals to wholes: of FLOATs too -/
theorem f_towards6 {n : Nat} {g : Gs} {x : Int64} {d : UInt64} {s : Bool} {u : Nat} (hn : 65 ≤ n) (h : Fl x s u) (hd : Dv d s u) : (∃ g', f_X12_towards n g x 6 5 = some (FP.d2l d, g') ∧ Sc g g') ∧ ∃ g', f_X12_towards n g x 6 4 = some ((FP.d2i d).toInt64, g') ∧ Sc g g' := by
  obtain ⟨g1, c, k, e, o1, o2, o3, o4, o5, o6, o7, o8, o9⟩ := f_open6 (g := g) h
  have hu : c * 2 ^ (k + 925) = u := by rw [o7, Nat.mul_assoc, ← Nat.pow_add]
  have he : e.toInt = ((k + 925 : Nat) : Int) - 1074 := by rw [o6]; omega
  constructor
  · refine ⟨g1, ?_, o2⟩
    unfold f_X12_towards
    rw [bnd_s o1, if_neg (by decide)]
    have := towards_21 (most := 2 ^ 63 - 1) hn o3 o4 o5 he (by omega) (by omega) (by decide)
    rw [hu] at this
    refine Eq.trans this (congrArg (fun q => some (q, g1)) (Int64.toInt_inj.mp ?_))
    have e : (FP.d2l d).toInt = _ := Jvm.FP.Core.d2l_val hd.ne_nan
    rw [hd.sgn', hd.zmag] at e
    rw [cl_toInt (by decide), e]
    rfl
  · refine ⟨g1, ?_, o2⟩
    unfold f_X12_towards
    rw [bnd_s o1, if_pos (by decide)]
    have := towards_21 (most := 2 ^ 31 - 1) hn o3 o4 o5 he (by omega) (by omega) (by decide)
    rw [hu] at this
    refine Eq.trans this (congrArg (fun q => some (q, g1)) (Int64.toInt_inj.mp ?_))
    have e : (FP.d2i d).toInt = _ := Jvm.FP.Core.d2i_val hd.ne_nan
    rw [hd.sgn', hd.zmag] at e
    rw [cl_toInt (by decide), Int32.toInt_toInt64, e]
    rfl
