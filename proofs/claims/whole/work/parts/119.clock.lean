/-! clock and together -/
theorem dv_day : ∃ u, u ≠ 0 ∧ Dv (4680673776000565248 : UInt64) false u := by
  have h := Dv.of (a := (4680673776000565248 : UInt64)) (by decide)
  rw [show decide (2 ^ 63 ≤ (4680673776000565248 : UInt64).toNat) = false by decide] at h
  refine ⟨_, ?_, h⟩
  intro z
  have := Jvm.FP.Core.unitsOf_eq_zero.mp z
  exact absurd this (by decide)
theorem putTwo_both {g gp : Gs} {L : List Int32} (c : Int32) (h : Tx g gp L) (hl : L.length + 2 ≤ 48) : ∃ g' gp' L', f_X12_putTwo g c = some g' ∧ f_X3_putTwo gp c = some gp' ∧ Tx g' gp' L' ∧ L'.length = L.length + 2 ∧ Df g g' ∧ Pf gp gp' := by
  obtain ⟨g1, gp1, p1, p2, p3, p4, p5⟩ := put_both ((48 : Int32) + (c / (10 : Int32))) h (by omega)
  obtain ⟨g2, gp2, q1, q2, q3, q4, q5⟩ := put_both ((48 : Int32) + (c - c / (10 : Int32) * (10 : Int32))) p3 (by rw [List.length_append]; show L.length + 1 < 48; omega)
  refine ⟨g2, gp2, _, ?_, ?_, q3, by rw [List.length_append, List.length_append]; rfl, p4.trans q4, p5.trans q5⟩
  · unfold f_X12_putTwo
    rw [bnd_s p1, bnd_s q1]
  · unfold f_X3_putTwo
    rw [bnd_s p2, bnd_s q2]
/-- the part of clock that writes -/
theorem clock_out {n : Nat} {g gp g2 : Gs} {x : Int64} {s : Bool} {u : Nat} {sec : Int32} {v7 : UInt64} {w : Nat} {t : Bool} (hn : 3000 ≤ n) (hT2 : Tb g2) (h : Dv x.toUInt64 s u) (h7 : Dv v7 t w) (hsec : sec = FP.d2i v7) (gT : Gs) : ∃ r g' gp', b_X11_clock_64 n gT g2 gp x.toUInt64 sec = some (r, gp') ∧ b_X12_clock_54 n g x (4680673776000565248 : UInt64) v7 = some (r, g') ∧ Dk g' gp' ∧ Df g g' ∧ Pf gp gp' := by
  have hm : (FP.ddiv x.toUInt64 (4680673776000565248 : UInt64)).toNat % 2 ^ 63 < (2047 + (1074 - 52 - 1) - 1039 + 3) * 2 ^ 52 := Jvm.FP.Core.ddiv_mag (K := 2047) (L := 1039) h.lt (by decide) (by decide) (by decide) (by decide)
  have dq := Dv.of (a := FP.ddiv x.toUInt64 (4680673776000565248 : UInt64)) (by omega)
  have dq' : Dv (FP.ddiv x.toUInt64 (4680673776000565248 : UInt64)).toInt64.toUInt64 _ _ := dq
  obtain ⟨r1, a1, a2⟩ := f_floorOf dq
  obtain ⟨r2, g1, b1, b2, b3⟩ := f_evened (n := n) (g := sI g 99 0) (w := 0) (by omega) (by decide) dq'
  have er : r1 = r2.toUInt64 := a2.inj b3
  have f1 : Df g (sI g 99 0) := Fr.sI (by decide) _ _
  have f2 : Pf gp (sI gp 2 0) := Fr.sI (by decide) _ _
  have T0 : Tx g1 (sI gp 2 0) [] := (tx_nil (g := sI g 99 0) (gp := sI gp 2 0) rfl rfl).sc b2
  obtain ⟨g3, gp3, L3, c1, c2, c3, c4, c5, c6⟩ := putReal_both (B := 0) hn hT2 (by decide) b3 T0
  rw [nI_0] at b1 c1 c2
  have h7' : Dv v7.toInt64.toUInt64 t w := h7
  obtain ⟨g4, d1, d2⟩ := f_towards_i (n := n) (g := g3) (by omega) h7'
  have e7 : (FP.d2i v7.toInt64.toUInt64) = sec := hsec.symm
  rw [e7] at d1
  have es : sec.toInt64.toInt32 = sec := Int32.toInt32_toInt64 sec
  obtain ⟨g5, gp5, k1, k2, k3, k4, k5⟩ := put_both (32 : Int32) (c3.sc d2) (by omega)
  have l5 : (L3 ++ [nb 32]).length = L3.length + 1 := by rw [List.length_append]; rfl
  obtain ⟨g6, gp6, L6, m1, m2, m3, m4, m5, m6⟩ := putTwo_both (sec / (3600 : Int32)) k3 (by omega)
  obtain ⟨g7, gp7, n1, n2, n3, n4, n5⟩ := put_both (58 : Int32) m3 (by omega)
  have l7 : (L6 ++ [nb 58]).length = L6.length + 1 := by rw [List.length_append]; rfl
  obtain ⟨g8, gp8, L8, o1, o2, o3, o4, o5, o6⟩ := putTwo_both ((sec / (60 : Int32)) - (sec / (60 : Int32)) / (60 : Int32) * (60 : Int32)) n3 (by omega)
  obtain ⟨g9, gp9, p1, p2, p3, p4, p5⟩ := put_both (58 : Int32) o3 (by omega)
  have l9 : (L8 ++ [nb 58]).length = L8.length + 1 := by rw [List.length_append]; rfl
  obtain ⟨ga, gpa, La, q1, q2, q3, q4, q5, q6⟩ := putTwo_both (sec - sec / (60 : Int32) * (60 : Int32)) p3 (by omega)
  refine ⟨gI ga 99, ga, gpa, ?_, ?_, ⟨La, q3⟩, ?_, ?_⟩
  · unfold b_X11_clock_64
    rw [grd_t dq.n64, bnd_s a1, er, bnd_s c2, bnd_s k2, bnd_s m2, bnd_s n2, bnd_s o2, bnd_s p2, bnd_s q2, q3.1, q3.2.1]
  · unfold b_X12_clock_54
    rw [grd_t (nsnB_of h.ne_nan), grd_t dq.n64, bnd_s (bitsOfD dq.ne_nan), bnd_s b1]
    dsimp only
    rw [bnd_s c1, bnd_s (bitsOfD h7.ne_nan), bnd_s d1]
    dsimp only
    rw [es, bnd_s k1, bnd_s m1, bnd_s n1, bnd_s o1, bnd_s p1, bnd_s q1]
  · exact ((((((((f1.trans b2.df).trans c5).trans d2.df).trans k4).trans m5).trans n4).trans o5).trans p4).trans q5
  · exact ((((((f2.trans c6).trans k5).trans m6).trans n5).trans o6).trans p5).trans q6
theorem d2i_zero : FP.d2i FP.dconst0 = 0 := by decide +kernel
theorem clock_eq {n : Nat} {g gT gp g2 : Gs} {x : Int64} (hn : 3000 ≤ n) (hT2 : Tb g2) (hD : Dk g gp) : ∃ r g' gp', f_X11_clock n gT g2 gp x = some (r, gp') ∧ f_X12_clock n g x = some (r, g') ∧ Dk g' gp' ∧ Df g g' ∧ Pf gp gp' := by
  unfold f_X11_clock f_X12_clock
  rw [bnd_s (isFin6 x), bnd_s (isFin12 x), sgB_if, sgB_if]
  by_cases hx : fin64 x = true
  · rw [if_pos hx, if_pos hx]
    obtain ⟨s, u, dx⟩ := fin64_dv hx
    obtain ⟨v, hv, dd⟩ := dv_day
    have dd' : Dv (4680673776000565248 : UInt64).toInt64.toUInt64 false v := dd
    obtain ⟨r1, a1, a2⟩ := f_rem_cls hn hT2 dx dd hv
    obtain ⟨r2, g1, b1, b2, b3⟩ := f_rem_ref (g := g) hn dx dd' hv
    have er : r1 = r2.toUInt64 := a2.inj b3
    rw [bnd_s (f_realOf hT2 dx), bnd_s a1, bnd_s (bitsOfD dd.ne_nan), bnd_s b1]
    dsimp only
    rw [grd_t (nsnB_of b3.ne_nan), er]
    have fin : ∀ (v5 : UInt64) (t : Bool) (w : Nat), Dv v5 t w → ∃ r g' gp', b_X11_clock_48 n gT g2 gp x.toUInt64 v5 = some (r, gp') ∧ b_X12_clock_44 n g1 x (4680673776000565248 : UInt64) v5 = some (r, g') ∧ Dk g' gp' ∧ Df g g' ∧ Pf gp gp' := by
      intro v5 t w h5
      unfold b_X11_clock_48 b_X12_clock_44
      by_cases c : Op.cmpValue (FP.dcmp v5 (4680673776000565248 : UInt64)) .l = 0
      · rw [if_pos c, if_pos c]
        obtain ⟨r, g', gp', k1, k2, k3, k4, k5⟩ := clock_out (g := g1) (gp := gp) hn hT2 dx dv_zero d2i_zero.symm gT
        exact ⟨r, g', gp', k1, k2, k3, b2.df.trans k4, k5⟩
      · rw [if_neg c, if_neg c]
        obtain ⟨r, g', gp', k1, k2, k3, k4, k5⟩ := clock_out (g := g1) (gp := gp) hn hT2 dx h5 rfl gT
        exact ⟨r, g', gp', k1, k2, k3, b2.df.trans k4, k5⟩
    by_cases c : 0 ≤ Op.cmpValue (FP.dcmp r2.toUInt64 FP.dconst0) .g
    · rw [if_pos c, if_pos c]
      exact fin _ _ _ b3
    · rw [if_neg c, if_neg c]
      have hlt : u % v < v := Nat.mod_lt _ (by omega)
      have hb : r2.toUInt64.toNat % 2 ^ 63 < 1040 * 2 ^ 52 := by
        have e1 := b3.mag
        have e2 := dd.mag
        rw [e1] at hlt
        rw [e2] at hlt
        have := Jvm.FP.Core.unitsOf_lt_iff.mp hlt
        have e3 : (4680673776000565248 : UInt64).toNat % 2 ^ 63 < 1040 * 2 ^ 52 := by decide
        omega
      have hm : (FP.dadd r2.toUInt64 (4680673776000565248 : UInt64)).toNat % 2 ^ 63 < (1040 + 2) * 2 ^ 52 := Jvm.FP.Core.dadd_mag hb (by decide) (by decide)
      have ds := Dv.of (a := FP.dadd r2.toUInt64 (4680673776000565248 : UInt64)) (by omega)
      rw [grd_t ds.n64, grd_t ds.n64]
      exact fin _ _ _ ds
  · rw [if_neg hx, if_neg hx]
    exact ⟨_, g, gp, rfl, rfl, hD, Fr.refl _ _, Fr.refl _ _⟩
/-! together -/
theorem isAbove12 (x : Int64) : f_X12_isAbove x = some (sgB (decide (¬ x ≤ 0) && fin64 x)) := by
  unfold f_X12_isAbove
  by_cases h : x ≤ 0
  · rw [if_pos h, decide_eq_false (fun z => z h)]; rfl
  · rw [if_neg h, decide_eq_true h, bnd_s (isFin12 x), Bool.true_and]
    cases fin64 x <;> rfl
theorem isAbove11 (x : Int64) : f_X11_isAboveZero x = some (sgB (decide (¬ x ≤ 0) && fin64 x)) := by
  unfold f_X11_isAboveZero
  by_cases h : x ≤ 0
  · rw [if_pos h, decide_eq_false (fun z => z h)]; rfl
  · rw [if_neg h, decide_eq_true h, bnd_s (isFin6 x), Bool.true_and]
    cases fin64 x <;> rfl
theorem above_dv {x : Int64} (h : (decide (¬ x ≤ 0) && fin64 x) = true) : ∃ u, u ≠ 0 ∧ Dv x.toUInt64 false u := by
  rw [Bool.and_eq_true] at h
  obtain ⟨h1, h2⟩ := h
  have h1' : ¬ x ≤ 0 := of_decide_eq_true h1
  have h2' : uL x % 2 ^ 63 < 9218868437227405312 := of_decide_eq_true h2
  have t := uL_toInt x
  have h3 : 0 < x.toInt := by
    rw [Int64.le_iff_toInt_le, show (0 : Int64).toInt = 0 by decide] at h1'
    omega
  have hl := uL_lt x
  have h4 : uL x < 2 ^ 63 ∧ 0 < uL x := by
    rw [t] at h3
    split at h3 <;> omega
  have hd := Dv.of (a := x.toUInt64) h2'
  rw [show decide (2 ^ 63 ≤ x.toUInt64.toNat) = false from decide_eq_false (show ¬ 2 ^ 63 ≤ uL x by omega)] at hd
  refine ⟨_, ?_, hd⟩
  intro z
  have : uL x % 2 ^ 63 = 0 := Jvm.FP.Core.unitsOf_eq_zero.mp z
  omega
theorem dk_lt {a b : UInt64} {c : CmpOp} (ha : Jvm.FP.Core.val64 a ≠ .nan) (hb : Jvm.FP.Core.val64 b ≠ .nan) : (0 < Op.cmpValue (FP.dcmp a b) c ↔ Jvm.FP.Core.dkey b < Jvm.FP.Core.dkey a) ∧ (0 ≤ Op.cmpValue (FP.dcmp a b) c ↔ Jvm.FP.Core.dkey b ≤ Jvm.FP.Core.dkey a) := by
  have h : FP.dcmp a b = some (compare (Jvm.FP.Core.dkey a) (Jvm.FP.Core.dkey b)) := Jvm.FP.Core.dcmp_key ha hb
  rw [h, Jvm.FP.Core.compare_ite]
  generalize Jvm.FP.Core.dkey a = i
  generalize Jvm.FP.Core.dkey b = j
  by_cases h1 : i < j
  · rw [if_pos h1]
    exact ⟨⟨fun z => absurd z (by cases c <;> decide), fun z => by omega⟩, ⟨fun z => absurd z (by cases c <;> decide), fun z => by omega⟩⟩
  · rw [if_neg h1]
    by_cases h2 : i = j
    · rw [if_pos h2]
      exact ⟨⟨fun z => absurd z (by cases c <;> decide), fun z => by omega⟩, ⟨fun _ => by omega, fun _ => by cases c <;> decide⟩⟩
    · rw [if_neg h2]
      exact ⟨⟨fun _ => by omega, fun _ => by cases c <;> decide⟩, ⟨fun _ => by omega, fun _ => by cases c <;> decide⟩⟩
theorem isBeyond6 {z : UInt64} (h : Jvm.FP.Core.val64 z ≠ .nan) : f_X6_isBeyond z = some (sgB (!fin64 z.toInt64)) := by
  have m1 : Jvm.FP.Core.val64 (9218868437227405311 : UInt64) ≠ .nan := (Jvm.FP.Core.ne_nan _).mpr (by decide)
  have m2 : Jvm.FP.Core.val64 (18442240474082181119 : UInt64) ≠ .nan := (Jvm.FP.Core.ne_nan _).mpr (by decide)
  have k1 : Jvm.FP.Core.dkey (9218868437227405311 : UInt64) = 9218868437227405311 := by decide
  have k2 : Jvm.FP.Core.dkey (18442240474082181119 : UInt64) = -9218868437227405311 := by decide
  have c1 := (dk_lt (c := .l) h m1).1
  have c2 := (dk_lt (c := .g) h m2).2
  rw [k1] at c1
  rw [k2] at c2
  have e : uL z.toInt64 = z.toNat := rfl
  have hz := z.toNat_lt
  unfold f_X6_isBeyond fin64
  rw [e]
  unfold Jvm.FP.Core.dkey at c1 c2
  by_cases hf : z.toNat % 2 ^ 63 < 9218868437227405312
  · rw [decide_eq_true hf, if_neg, if_pos]
    · rfl
    · rw [c2]; split <;> omega
    · rw [c1]; split <;> omega
  · rw [decide_eq_false hf]
    by_cases hs : 2 ^ 63 ≤ z.toNat
    · rw [if_neg, if_neg]
      · rfl
      · rw [c2, if_pos hs]; omega
      · rw [c1, if_pos hs]; omega
    · rw [if_pos]
      · rfl
      · rw [c1, if_neg hs]; omega
theorem inf_of {z : UInt64} (h : Jvm.FP.Core.val64 z ≠ .nan) (hf : fin64 z.toInt64 = false) : ∃ t, Jvm.FP.Core.val64 z = .inf t := by
  cases e : Jvm.FP.Core.val64 z with
  | nan => exact absurd e h
  | inf t => exact ⟨t, rfl⟩
  | fin s c q =>
    have : z.toNat % 2 ^ 63 < 9218868437227405312 := (Jvm.FP.Core.fin_bits z).mp ⟨s, c, q, e⟩
    have h2 : fin64 z.toInt64 = true := decide_eq_true this
    rw [h2] at hf; cases hf
theorem not_fin_inf {z : UInt64} {t : Bool} (h : Jvm.FP.Core.val64 z = .inf t) : fin64 z.toInt64 = false := by
  cases e : fin64 z.toInt64 with
  | false => rfl
  | true =>
    obtain ⟨s, u, d⟩ := fin64_dv e
    obtain ⟨c, q, h1, -⟩ := d
    have h1' : Jvm.FP.Core.val64 z = .fin s c q := h1
    rw [h] at h1'
    cases h1'
theorem together_eq {n : Nat} {g gT g2 : Gs} {x y : Int64} (hn : 3000 ≤ n) (hT : Tb g2) : ∃ r g', f_X11_together n gT g2 x y = some r ∧ f_X12_together n g x y = some (r, g') ∧ Sc g g' := by
  unfold f_X11_together f_X12_together
  rw [bnd_s (isAbove11 x), bnd_s (isAbove12 x), sgB_if, sgB_if]
  by_cases hx : (decide (¬ x ≤ 0) && fin64 x) = true
  · rw [if_pos hx, if_pos hx, bnd_s (isAbove11 y), bnd_s (isAbove12 y), sgB_if, sgB_if]
    by_cases hy : (decide (¬ y ≤ 0) && fin64 y) = true
    · rw [if_pos hy, if_pos hy]
      obtain ⟨u, hu, dx⟩ := above_dv hx
      obtain ⟨v, hv, dy⟩ := above_dv hy
      obtain ⟨r, r1, r2⟩ := f_gcd_cls hn hT dx dy
      obtain ⟨q, g', q1, q2, q3⟩ := f_common_ref (g := g) hn dx dy
      have e : r = q.toUInt64 := r2.inj q3
      have hg : Nat.gcd u v ≠ 0 := fun z => hu (Nat.eq_zero_of_gcd_eq_zero_left z)
      have n1 : Jvm.FP.Core.val64 (FP.ddiv y.toUInt64 q.toUInt64) ≠ .nan := nn_of (Jvm.FP.Core.ddiv_out dy.fin.notNaN q3.fin (fun z => hg (q3.zero_iff.mp z)))
      have n2 : Jvm.FP.Core.val64 (FP.dmul x.toUInt64 (FP.ddiv y.toUInt64 q.toUInt64)) ≠ .nan := by
        have : FP.dmul x.toUInt64 (FP.ddiv y.toUInt64 q.toUInt64) = FP.dmul (FP.ddiv y.toUInt64 q.toUInt64) x.toUInt64 := Jvm.FP.Core.dmul_comm _ _
        rw [this]
        exact nn_of (Jvm.FP.Core.dmul_out' ((Jvm.FP.Core.notNaN_iff _).mpr n1) dx.fin (fun z => hu (dx.zero_iff.mp z)))
      have k1 := reckoned7 (n := n) (g := g') (o := 47) (a := y) (b := q) dy.ne_nan q3.ne_nan n1
      have d1 : dop 47 y.toUInt64 q.toUInt64 = FP.ddiv y.toUInt64 q.toUInt64 := rfl
      rw [d1] at k1
      rw [bnd_s (f_realOf hT dx), bnd_s (f_realOf hT dy), bnd_s r1, bnd_s q1, e, grd_t (n64_of n1), grd_t (n64_of n2), bnd_s (isBeyond6 n2), bnd_s k1]
      dsimp only
      generalize hZ : FP.ddiv y.toUInt64 q.toUInt64 = Z at n1 n2 ⊢
      by_cases hf : fin64 Z.toInt64 = true
      · have ne : ¬ orOver Z = 9223372036854775807 := fun z => by
          have := (orOver_over Z).mp z
          rw [hf] at this; cases this
        have eo : orOver Z = Z.toInt64 := if_pos hf
        rw [if_neg ne, eo]
        have n1' : Jvm.FP.Core.val64 Z.toInt64.toUInt64 ≠ .nan := n1
        have k2 := reckoned7 (n := n) (g := g') (o := 42) (a := x) (b := Z.toInt64) dx.ne_nan n1' n2
        have d2 : dop 42 x.toUInt64 Z.toInt64.toUInt64 = FP.dmul x.toUInt64 Z := rfl
        rw [d2] at k2
        rw [bnd_s k2]
        dsimp only
        generalize hW : FP.dmul x.toUInt64 Z = W at n2 ⊢
        by_cases hw : fin64 W.toInt64 = true
        · have ne2 : ¬ orOver W = 9223372036854775807 := fun z => by
            have := (orOver_over W).mp z
            rw [hw] at this; cases this
          have eo2 : orOver W = W.toInt64 := if_pos hw
          obtain ⟨s3, u3, dw⟩ := fin64_dv hw
          have dw' : Dv W s3 u3 := dw
          rw [if_neg ne2, eo2, hw, if_pos (show sgB (!true) = 0 by decide), bnd_s (f_bits (by omega) hT dw')]
          exact ⟨_, g', rfl, rfl, q2⟩
        · have hw' : fin64 W.toInt64 = false := by simpa using hw
          rw [if_pos ((orOver_over W).mpr hw'), hw', if_neg (show ¬ sgB (!false) = 0 by decide)]
          exact ⟨_, g', rfl, rfl, q2⟩
      · have hf' : fin64 Z.toInt64 = false := by simpa using hf
        obtain ⟨t, ht⟩ := inf_of n1 hf'
        have hw' : fin64 (FP.dmul x.toUInt64 Z).toInt64 = false := by
          have em := Jvm.FP.Core.val64_dmul x.toUInt64 Z
          have dx2 := dx
          obtain ⟨c, p, h1, h2⟩ := dx2
          have hc : c ≠ 0 := fun z => hu (by rw [← h2, z]; unfold Jvm.FP.Core.inUnits; rw [Nat.zero_mul])
          rw [h1, ht] at em
          have : Jvm.FP.Core.val64 (FP.dmul x.toUInt64 Z) = .inf (false != t) := by
            refine em.trans ?_
            unfold Jvm.FP.Core.exactProduct
            dsimp only
            rw [if_neg hc]; rfl
          exact not_fin_inf this
        rw [if_pos ((orOver_over Z).mpr hf'), hw', if_neg (show ¬ sgB (!false) = 0 by decide)]
        exact ⟨_, g', rfl, rfl, q2⟩
    · rw [if_neg hy, if_neg hy]
      exact ⟨_, g, rfl, rfl, Sc.refl g⟩
  · rw [if_neg hx, if_neg hx]
    exact ⟨_, g, rfl, rfl, Sc.refl g⟩
