/-! + - * / % on both sides -/
def OP (o o' : Int32) : Prop := (o = 43 ∧ o' = 49) ∨ (o = 45 ∧ o' = 50) ∨ (o = 42 ∧ o' = 51) ∨ (o = 47 ∧ o' = 52) ∨ (o = 37 ∧ o' = 53)
theorem wh4 (q : Int64) : wh 4 q = q.toInt32.toInt64 := rfl
theorem wh5 (q : Int64) : wh 5 q = q := rfl
theorem div_m1 (a : Int64) : a / (-1 : Int64) = -a := by
  apply Int64.toInt_inj.mp
  have t : (-1 : Int64).toInt = -1 := by decide
  rw [Int64.toInt_div, t, Int64.toInt_neg]
  have e : a.toInt.tdiv (-1) = -a.toInt := by rw [Int.tdiv_neg, Int.tdiv_one]
  rw [e]
theorem rem_m1 (a : Int64) : a - a / (-1 : Int64) * (-1 : Int64) = 0 := by
  rw [div_m1, Int64.neg_mul_neg, Int64.mul_one, Int64.sub_self]
theorem counts_w {n : Nat} {g gm : Gs} {K T t : Nat} {o o' : Int32} {a b : Int64} (hK : K < 8000) (hT : gI g 93 = nI (T + 1)) (hT2 : T < 400) (hp : OP o o') (ht : t = 4 ∨ t = 5) : (∃ q, f_X12_counts n g (nI K) o a b (nI t) = some (1, sLA g 92 (vp_updL (gLA g 92) T (wh t q))) ∧ f_X1_workWholes gm o' a b = some (q, gm)) ∨ (f_X12_counts n g (nI K) o a b (nI t) = some (0, sI (sI g 95 1) 96 (gIA g 17 K)) ∧ f_X1_workWholes gm o' a b = some (0, sI gm 5 1)) := by
  have t1 : 1 ≤ t := by omega
  have t5 : t ≤ 5 := by omega
  have ir : f_X12_isReal (nI t) = some 0 := by rw [isReal_nI (by omega), if_pos t5]
  have st : gI g 93 - (1 : Int32) = nI T := by rw [hT]; exact nI_pred T
  have fin : ∀ r, b_X12_counts_252 n g (nI t) r = some (1, sLA g 92 (vp_updL (gLA g 92) T (wh t r))) := by
    intro r
    unfold b_X12_counts_252 b_X12_counts_261
    rw [bnd_s (wh_eq r t1 t5).2, st, grd_t (inB_nI hT2 (by decide)), nI_clamp (by omega)]
  have jam : (grd (inB (nI K) 8000) (bnd (f_X12_jams g (1 : Int32) (gIA g 17 (nI K).toNatClampNeg)) (fun q_9 => grd (zB q_9.1) (some (q_9.1, q_9.2))))) = some (0, sI (sI g 95 1) 96 (gIA g 17 K)) := by
    rw [grd_t (inB_nI hK (by decide)), nI_clamp (by omega)]
    rfl
  have nz : ∀ b : Int64, b ≠ 0 → nzL b = true := fun b h => decide_eq_true h
  rcases hp with ⟨rfl, rfl⟩ | ⟨rfl, rfl⟩ | ⟨rfl, rfl⟩ | ⟨rfl, rfl⟩ | ⟨rfl, rfl⟩
  · refine .inl ⟨a + b, ?_, rfl⟩
    unfold f_X12_counts b_X12_counts_17 b_X12_counts_162
    rw [if_neg (by decide), if_neg (by decide), bnd_s ir, if_pos rfl, if_pos rfl, if_pos rfl, fin]
  · refine .inl ⟨a - b, ?_, rfl⟩
    unfold f_X12_counts b_X12_counts_17 b_X12_counts_162
    rw [if_neg (by decide), if_neg (by decide), bnd_s ir, if_pos rfl, if_pos rfl, if_neg (by decide), if_pos rfl, fin]
  · refine .inl ⟨a * b, ?_, rfl⟩
    unfold f_X12_counts b_X12_counts_17 b_X12_counts_162
    rw [if_neg (by decide), if_neg (by decide), bnd_s ir, if_pos rfl, if_pos rfl, if_neg (by decide), if_neg (by decide), if_pos rfl, fin]
  · by_cases hb : b = 0
    · refine .inr ⟨?_, ?_⟩
      · unfold f_X12_counts b_X12_counts_12 b_X12_counts_17
        rw [if_pos rfl, bnd_s ir, if_pos rfl, if_neg (by decide), if_pos hb, jam]
      · unfold f_X1_workWholes b_X1_workWholes_12
        rw [if_pos rfl, if_pos hb]
    · refine .inl ⟨a / b, ?_, ?_⟩
      · unfold f_X12_counts b_X12_counts_12 b_X12_counts_17 b_X12_counts_162 b_X12_counts_228 b_X12_counts_250
        rw [if_pos rfl, bnd_s ir, if_pos rfl, if_neg (by decide), if_neg hb, if_neg (by decide), if_neg (by decide), if_neg (by decide)]
        by_cases hm : b = (-1 : Int64)
        · rw [if_pos hm, if_pos rfl, fin, hm, div_m1]
        · rw [if_neg hm, if_pos rfl, grd_t (nz b hb), fin]
      · unfold f_X1_workWholes b_X1_workWholes_12 b_X1_workWholes_26
        rw [if_pos rfl, if_neg hb, if_neg (by decide), if_neg (by decide), if_neg (by decide), if_neg (by decide), if_pos rfl, grd_t (nz b hb)]
  · by_cases hb : b = 0
    · refine .inr ⟨?_, ?_⟩
      · unfold f_X12_counts b_X12_counts_12 b_X12_counts_17
        rw [if_neg (by decide), if_pos rfl, bnd_s ir, if_pos rfl, if_neg (by decide), if_pos hb, jam]
      · unfold f_X1_workWholes b_X1_workWholes_12
        rw [if_neg (by decide), if_pos rfl, if_pos hb]
    · refine .inl ⟨a - a / b * b, ?_, ?_⟩
      · unfold f_X12_counts b_X12_counts_12 b_X12_counts_17 b_X12_counts_162 b_X12_counts_228 b_X12_counts_250
        rw [if_neg (by decide), if_pos rfl, bnd_s ir, if_pos rfl, if_neg (by decide), if_neg hb, if_neg (by decide), if_neg (by decide), if_neg (by decide)]
        by_cases hm : b = (-1 : Int64)
        · rw [if_pos hm, if_neg (by decide), fin, hm, rem_m1]
        · rw [if_neg hm, if_neg (by decide), grd_t (nz b hb), fin]
      · unfold f_X1_workWholes b_X1_workWholes_12 b_X1_workWholes_26
        rw [if_neg (by decide), if_pos rfl, if_neg hb, if_neg (by decide), if_neg (by decide), if_neg (by decide), if_neg (by decide), if_neg (by decide), if_pos rfl, grd_t (nz b hb)]
/-! reals -/
theorem isZero7 {b : Int64} {t : Bool} {v : Nat} (h : Dv b.toUInt64 t v) : f_X12_isZero b 7 = some (sgB (decide (v = 0))) := by
  unfold f_X12_isZero
  have e : uL b % 2 ^ 63 = 0 ↔ v = 0 := by
    rw [h.mag, Jvm.FP.Core.unitsOf_eq_zero]; rfl
  rw [if_neg (by decide)]
  by_cases c : v = 0
  · rw [if_pos ((shl1_zero b).mpr (e.mpr c)), decide_eq_true c]; rfl
  · rw [if_neg (fun z => c (e.mp ((shl1_zero b).mp z))), decide_eq_false c]; rfl
theorem isZero6 {b : Int64} {t : Bool} {v : Nat} (h : Fl b t v) : f_X12_isZero b 6 = some (sgB (decide (v = 0))) := by
  obtain ⟨c, k, h1, h2, h3, h4, h5⟩ := h
  unfold f_X12_isZero
  have hz : v = 0 ↔ c = 0 := by
    rw [h1]
    constructor
    · intro z
      rcases Nat.mul_eq_zero.mp z with z | z
      · rcases Nat.mul_eq_zero.mp z with z | z
        · exact z
        · exact absurd z (Nat.ne_of_gt (Nat.two_pow_pos _))
      · exact absurd z (Nat.ne_of_gt (Nat.two_pow_pos _))
    · intro z; rw [z, Nat.zero_mul, Nat.zero_mul]
  have e : (b.toInt32 <<< ((1 : Int32) &&& 31)).toBitVec.toNat = b.toInt32.toBitVec.toNat * 2 ^ 1 % 2 ^ 32 := pk_shl _ _ 1 (by decide)
  rw [toI32_nat] at e
  have hs : (if t = true then 18446744071562067968 else 0 : Nat) = 18446744071562067968 ∨ (if t = true then 18446744071562067968 else 0 : Nat) = 0 := by cases t <;> simp
  have iz : (b.toInt32 <<< ((1 : Int32) &&& 31)) = 0 ↔ v = 0 := by
    rw [hz]
    constructor
    · intro z
      rw [z, show (0 : Int32).toBitVec.toNat = 0 from rfl] at e
      omega
    · intro z
      refine Int32.toBitVec_inj.mp (BitVec.eq_of_toNat_eq ?_)
      rw [e, show (0 : Int32).toBitVec.toNat = 0 from rfl]
      omega
  rw [if_pos rfl]
  by_cases cc : v = 0
  · rw [if_pos (iz.mpr cc), decide_eq_true cc]; rfl
  · rw [if_neg (fun z => cc (iz.mp z)), decide_eq_false cc]; rfl
theorem isReal67 {t : Nat} (ht : t = 6 ∨ t = 7) : f_X12_isReal (nI t) = some 1 := by
  rcases ht with rfl | rfl <;> decide
/-- what the class does at the end of a reckoning -/
theorem reals_130 {n : Nat} {gm g2 : Gs} {z : UInt64} (hz : Jvm.FP.Core.val64 z ≠ .nan) : b_X1_workReals_130 n gm g2 z = some (z, if fin64 z.toInt64 = true then gm else sI gm 5 3) := by
  unfold b_X1_workReals_130
  rw [bnd_s (isBeyond6 hz)]
  cases fin64 z.toInt64 <;> rfl
/-- + - * / of reals, the class -/
theorem cls_reck {n : Nat} {gm g2 : Gs} {o o' : Int32} {t : Nat} {dA dB z : UInt64} {s' t' : Bool} {u v : Nat} (hp : OP o o') (ho : o ≠ 37) (ht : t = 6 ∨ t = 7) (hA : Dv dA s' u) (hB : Dv dB t' v) (hv : o = 47 → v ≠ 0) (hz : z = if t = 6 then FP.f2d (fop o (FP.d2f dA) (FP.d2f dB)) else dop o dA dB) (hn6 : t = 6 → Jvm.FP.Core.val32 (fop o (FP.d2f dA) (FP.d2f dB)) ≠ .nan) : Jvm.FP.Core.val64 z ≠ .nan ∧ f_X1_workReals n gm g2 o' (nI t) dA dB = some (z, if fin64 z.toInt64 = true then gm else sI gm 5 3) := by
  have g32 : ∀ x : UInt32, Jvm.FP.Core.val32 x ≠ .nan → n32 x = true := by
    intro x hx
    unfold n32
    refine decide_eq_true ?_
    rw [UInt32.le_iff_toNat_le, Jvm.FP.Core.mask_toNat32]
    exact (Jvm.FP.Core.ne_nan32 _).mp hx
  have nA : Jvm.FP.Core.val32 (FP.d2f dA) ≠ .nan := by rw [jd2f hA.ne_nan]; exact fun q => hA.ne_nan (Jvm.FP.Core.round_nan.mp q)
  have nB : Jvm.FP.Core.val32 (FP.d2f dB) ≠ .nan := by rw [jd2f hB.ne_nan]; exact fun q => hB.ne_nan (Jvm.FP.Core.round_nan.mp q)
  have hzn : Jvm.FP.Core.val64 z ≠ .nan := by
    rcases ht with rfl | rfl
    · rw [if_pos rfl] at hz
      rw [hz, jf2d (hn6 rfl)]
      exact fun q => hn6 rfl (Jvm.FP.Core.round_nan.mp q)
    · rw [if_neg (by decide)] at hz
      rw [hz]
      refine dop_nn hA hB ?_
      rcases hp with ⟨h, -⟩ | ⟨h, -⟩ | ⟨h, -⟩ | ⟨h, -⟩ | ⟨h, -⟩
      · exact .inr (.inl h)
      · exact .inr (.inr (.inl h))
      · exact .inr (.inr (.inr h))
      · exact .inl (hv h)
      · exact absurd h ho
  refine ⟨hzn, ?_⟩
  have c6 : nI t = (6 : Int32) ↔ t = 6 := by rcases ht with rfl | rfl <;> decide
  have end26 : o' ≠ 23 → o' ≠ 24 → o' ≠ 25 → o' ≠ 53 → b_X1_workReals_26 n gm g2 o' (nI t) dA dB = some (z, if fin64 z.toInt64 = true then gm else sI gm 5 3) := by
    intro q1 q2 q3 q4
    unfold b_X1_workReals_26
    rw [if_neg q1, if_neg q2, if_neg q3, if_neg q4]
    rcases ht with rfl | rfl
    · rw [if_pos rfl] at hz
      have hnn := hn6 rfl
      have of : f_X1_ofFloats o' (FP.d2f dA) (FP.d2f dB) = some (fop o (FP.d2f dA) (FP.d2f dB)) := by
        unfold f_X1_ofFloats
        unfold fop at hnn ⊢
        rcases hp with ⟨rfl, rfl⟩ | ⟨rfl, rfl⟩ | ⟨rfl, rfl⟩ | ⟨rfl, rfl⟩ | ⟨h, -⟩
        · rw [if_pos rfl] at hnn
          rw [if_pos rfl, if_pos rfl, grd_t (g32 _ hnn)]
        · rw [if_neg (by decide), if_pos rfl] at hnn
          rw [if_neg (by decide), if_pos rfl, if_neg (by decide), if_pos rfl, grd_t (g32 _ hnn)]
        · rw [if_neg (by decide), if_neg (by decide), if_pos rfl] at hnn
          rw [if_neg (by decide), if_neg (by decide), if_pos rfl, if_neg (by decide), if_neg (by decide), if_pos rfl, grd_t (g32 _ hnn)]
        · rw [if_neg (by decide), if_neg (by decide), if_neg (by decide)] at hnn
          rw [if_neg (by decide), if_neg (by decide), if_neg (by decide), if_neg (by decide), if_neg (by decide), if_neg (by decide), grd_t (g32 _ hnn)]
        · exact absurd h ho
      rw [if_pos (c6.mpr rfl), grd_t (g32 _ nA), grd_t (g32 _ nB), bnd_s of, ← hz, grd_t (n64_of hzn)]
      exact reals_130 hzn
    · rw [if_neg (by decide)] at hz
      have od : f_X1_ofDoubles o' dA dB = some z := by
        unfold f_X1_ofDoubles
        unfold dop at hz
        rcases hp with ⟨rfl, rfl⟩ | ⟨rfl, rfl⟩ | ⟨rfl, rfl⟩ | ⟨rfl, rfl⟩ | ⟨h, -⟩
        · rw [if_pos rfl] at hz
          rw [if_pos rfl, ← hz, grd_t (n64_of hzn)]
        · rw [if_neg (by decide), if_pos rfl] at hz
          rw [if_neg (by decide), if_pos rfl, ← hz, grd_t (n64_of hzn)]
        · rw [if_neg (by decide), if_neg (by decide), if_pos rfl] at hz
          rw [if_neg (by decide), if_neg (by decide), if_pos rfl, ← hz, grd_t (n64_of hzn)]
        · rw [if_neg (by decide), if_neg (by decide), if_neg (by decide)] at hz
          rw [if_neg (by decide), if_neg (by decide), if_neg (by decide), ← hz, grd_t (n64_of hzn)]
        · exact absurd h ho
      rw [if_neg (fun q => absurd (c6.mp q) (by decide)), bnd_s od]
      exact reals_130 hzn
  unfold f_X1_workReals
  rcases hp with ⟨rfl, rfl⟩ | ⟨rfl, rfl⟩ | ⟨rfl, rfl⟩ | ⟨rfl, rfl⟩ | ⟨h, -⟩
  · rw [if_neg (by decide), if_neg (by decide)]; exact end26 (by decide) (by decide) (by decide) (by decide)
  · rw [if_neg (by decide), if_neg (by decide)]; exact end26 (by decide) (by decide) (by decide) (by decide)
  · rw [if_neg (by decide), if_neg (by decide)]; exact end26 (by decide) (by decide) (by decide) (by decide)
  · rw [if_pos rfl]
    unfold b_X1_workReals_12
    rw [if_neg]
    · exact end26 (by decide) (by decide) (by decide) (by decide)
    · rw [cv_eq hB.dz dv_zero.dz, sg_f]
      exact fun q => hv rfl ((Jvm.FP.Core.signed_eq_zero t' v).mp q)
  · exact absurd h ho
