/-! putReal, dial, clock, octet, together -/
theorem dv_const10 : Dv (4621819117588971520 : UInt64) false (10 * Jvm.FP.Core.one64) := ⟨5629499534213120, -49, by decide +kernel, by
  unfold Jvm.FP.Core.inUnits Jvm.FP.Core.one64
  rw [show ((-49 : Int) - -1074).toNat = 1025 by decide]
  decide +kernel⟩
theorem one_bits : Jvm.FP.Core.unitsOf Jvm.FP.Core.b64 (1023 * 2 ^ 52) = Jvm.FP.Core.one64 := by
  have h := dv_one.mag
  rw [show FP.dconst1.toNat % 2 ^ 63 = 1023 * 2 ^ 52 by decide] at h
  exact h.symm
theorem thirty_bits : Jvm.FP.Core.unitsOf Jvm.FP.Core.b64 (1028 * 2 ^ 52) = 32 * Jvm.FP.Core.one64 := by
  have h := Jvm.FP.Core.unitsOf_start (f := Jvm.FP.Core.b64) (K := 1028) (by decide)
  rw [show Jvm.FP.Core.b64.tails = 2 ^ 52 by decide] at h
  rw [h, show (1028 - 1 : Nat) = 1027 from rfl]
  unfold Jvm.FP.Core.one64
  rw [show (32 : Nat) = 2 ^ 5 by decide, ← Nat.pow_add, ← Nat.pow_add]
/-- a digit more: r times 10 -/
theorem dv_ten {r : UInt64} {w : Nat} (h : Dv r false w) (hw : w < Jvm.FP.Core.one64) : ∃ u, Dv (FP.dmul r (4621819117588971520 : UInt64)) false u ∧ u < 32 * Jvm.FP.Core.one64 := by
  have hb : r.toNat % 2 ^ 63 < 1023 * 2 ^ 52 := by
    have h1 := h.mag
    rw [h1, ← one_bits] at hw
    exact Jvm.FP.Core.unitsOf_lt_iff.mp hw
  have hm : (FP.dmul r (4621819117588971520 : UInt64)).toNat % 2 ^ 63 < (1023 + 1027 - 1025 + 3) * 2 ^ 52 := Jvm.FP.Core.dmul_mag hb (Kb := 1027) (by decide) (by decide) (by decide)
  have hd := Dv.of (a := FP.dmul r (4621819117588971520 : UInt64)) (by omega)
  have hs : decide (2 ^ 63 ≤ (FP.dmul r (4621819117588971520 : UInt64)).toNat) = false := by
    have e := Jvm.FP.Core.val64_dmul r (4621819117588971520 : UInt64)
    have t := hd.sgn'
    obtain ⟨c1, q1, a1, -⟩ := h
    obtain ⟨c2, q2, b1, -⟩ := dv_const10
    rw [a1, b1] at e
    have e' : Jvm.FP.Core.val64 (FP.dmul r (4621819117588971520 : UInt64)) = Jvm.FP.Core.roundRatio Jvm.FP.Core.b64 false (c1 * c2) 1 (q1 + q2) := e
    rw [e', Jvm.FP.Core.sgn_roundRatio] at t
    exact t.symm
  rw [hs] at hd
  refine ⟨_, hd, ?_⟩
  rw [← thirty_bits]
  exact Jvm.FP.Core.unitsOf_lt hm
theorem dv_d2i {x : UInt64} {u m : Nat} (h : Dv x false u) (hm : u / Jvm.FP.Core.one64 = m) (h2 : m < 2 ^ 31) : FP.d2i x = nI m := by
  apply Int32.toInt_inj.mp
  have := Jvm.FP.Core.d2i_val h.ne_nan
  rw [h.sgn', h.zmag, hm, sg_f] at this
  have e : (FP.d2i x).toInt = _ := this
  rw [e, nI_toInt h2]
  omega
theorem i2d_nI {m : Nat} (h : m < 2 ^ 31) : FP.i2d (nI m) = FP.l2d (lN m) := by
  have : FP.i2d (nI m) = FP.l2d (nI m).toInt64 := Jvm.FP.Core.i2d_l2d (nI m)
  rw [this, nI_l h]
/-- less its whole part -/
theorem dv_less {a : UInt64} {u m : Nat} (h : Dv a false u) (hm : u / Jvm.FP.Core.one64 = m) (h2 : m < 2 ^ 31) : Dv (FP.dsub a (FP.l2d (lN m))) false (u % Jvm.FP.Core.one64) := by
  obtain ⟨c, k, h1, h2', h3, h4, -⟩ := h.shape
  have hdm := Nat.div_add_mod u Jvm.FP.Core.one64
  rw [Nat.mul_comm, hm] at hdm
  have d1 := dv_l2d (m := m) (by omega)
  by_cases hk : k ≤ 1074
  · have hmod : u % Jvm.FP.Core.one64 = c % 2 ^ (1074 - k) * 2 ^ k := by rw [h1, mod_one64 hk]
    rw [hmod] at hdm ⊢
    exact dv_sub h d1 (Nat.lt_of_le_of_lt (Nat.mod_le _ _) h2') h3 hdm.symm
  · have hmod : u % Jvm.FP.Core.one64 = 0 * 2 ^ 0 := by
      rw [h1, pow_one64 (by omega), ← Nat.mul_assoc, Nat.mul_mod_left]
    rw [hmod] at hdm ⊢
    exact dv_sub h d1 (by decide) (by decide) hdm.symm
/-- the places behind the point -/
theorem tail_both {n : Nat} {g2 : Gs} (hn : 65 ≤ n) {B : Nat} (hB : B ≤ 18) : ∀ (d f f' : Nat) (g gp : Gs) (L : List Int32) (r : UInt64) (w j : Nat), j + d = B → d < f → d < f' → Tx g gp L → L.length + d ≤ 48 → Dv r false w → w < Jvm.FP.Core.one64 → ∃ g' gp' L', L_X12_putReal n f g (nI B) r (nI j) = some g' ∧ L_X3_putReal n f' gp g2 (nI B) r (nI j) = some gp' ∧ Tx g' gp' (L ++ L') ∧ L'.length = d ∧ Df g g' ∧ Pf gp gp'
  | _, 0, _, _, _, _, _, _, _, _, h, _, _, _, _, _ => absurd h (Nat.not_lt_zero _)
  | _, _, 0, _, _, _, _, _, _, _, _, h, _, _, _, _ => absurd h (Nat.not_lt_zero _)
  | 0, f + 1, f' + 1, g, gp, L, r, w, j, hj, _, _, hT, _, _, _ => by
    show ∃ g' gp' L', h_X12_putReal_67 n (L_X12_putReal n f) g (nI B) r (nI j) = some g' ∧ h_X3_putReal_50 n (L_X3_putReal n f') gp g2 (nI B) r (nI j) = some gp' ∧ _
    unfold h_X12_putReal_67 h_X3_putReal_50
    have c : nI B ≤ nI j := nI_le (by omega) (by omega)
    refine ⟨g, gp, [], if_pos c, if_pos c, ?_, rfl, Fr.refl _ _, Fr.refl _ _⟩
    rw [List.append_nil]; exact hT
  | d + 1, f + 1, f' + 1, g, gp, L, r, w, j, hj, hf, hf', hT, hl, hr, hw => by
    show ∃ g' gp' L', h_X12_putReal_67 n (L_X12_putReal n f) g (nI B) r (nI j) = some g' ∧ h_X3_putReal_50 n (L_X3_putReal n f') gp g2 (nI B) r (nI j) = some gp' ∧ _
    unfold h_X12_putReal_67 h_X3_putReal_50
    obtain ⟨u, a1, a2⟩ := dv_ten hr hw
    obtain ⟨m, hm⟩ : ∃ m, u / Jvm.FP.Core.one64 = m := ⟨_, rfl⟩
    have hm32 : m < 32 := by rw [← hm]; exact (Nat.div_lt_iff_lt_mul Jvm.FP.Core.one64_pos).mpr a2
    have e1 := dv_d2i a1 hm (by omega)
    have e2 : FP.i2d (nI m) = FP.l2d (lN m) := i2d_nI (by omega)
    have d1 := dv_less a1 hm (by omega)
    have a1' : Dv (FP.dmul r (4621819117588971520 : UInt64)).toInt64.toUInt64 false u := a1
    obtain ⟨g1, t1, t2⟩ := f_towards_i (n := n) (g := g) hn a1'
    have e3 : FP.d2i (FP.dmul r (4621819117588971520 : UInt64)).toInt64.toUInt64 = nI m := e1
    rw [e3, nI_l (by omega)] at t1
    obtain ⟨g3, gp3, p1, p2, p3, p4, p5⟩ := put_both ((48 : Int32) + nI m) (hT.sc t2) (by omega)
    have c : ¬ nI B ≤ nI j := nI_ge (by omega) (by omega)
    obtain ⟨g4, gp4, L', q1, q2, q3, q4, q5, q6⟩ := tail_both (g2 := g2) hn hB d f f' g3 gp3 _ _ _ (j + 1) (by omega) (by omega) (by omega) p3 (by rw [List.length_append]; show L.length + 1 + d ≤ 48; omega) d1 (Nat.mod_lt _ Jvm.FP.Core.one64_pos)
    refine ⟨g4, gp4, nb ((48 : Int32) + nI m) :: L', ?_, ?_, ?_, by rw [List.length_cons, q4], (t2.df.trans p4).trans q5, p5.trans q6⟩
    · rw [if_neg c, grd_t a1.n64, bnd_s (bitsOfD a1.ne_nan), bnd_s t1]
      dsimp only
      rw [lN_i, bnd_s p1, e2, grd_t d1.n64, nI_1]
      exact q1
    · rw [if_neg c, grd_t a1.n64, e1, bnd_s p2, e2, grd_t d1.n64, nI_1]
      exact q2
    · rw [List.append_assoc] at q3
      exact q3
theorem TOP_iff {x : Int64} {s : Bool} {u : Nat} (h : Dv x.toUInt64 s u) : ((0 : Int64) ≤ x ↔ s = false) ∧ (x = (-9223372036854775808 : Int64) ↔ s = true ∧ u = 0) := by
  have hs := h.sgn
  have hx : x.toUInt64.toNat = uL x := rfl
  rw [hx] at hs
  constructor
  · rw [uL_le0_iff, hs]
    by_cases c : 2 ^ 63 ≤ uL x
    · rw [decide_eq_true c]; exact ⟨fun z => by omega, fun z => absurd z (by decide)⟩
    · rw [decide_eq_false c]; exact ⟨fun _ => rfl, fun _ => by omega⟩
  · constructor
    · intro e
      subst e
      have d : Dv (-9223372036854775808 : Int64).toUInt64 true 0 := ⟨0, -1074, by decide +kernel, by unfold Jvm.FP.Core.inUnits; rw [Nat.zero_mul]⟩
      exact h.same d
    · rintro ⟨e1, e2⟩
      subst e1 e2
      have d : Dv (-9223372036854775808 : Int64).toUInt64 true 0 := ⟨0, -1074, by decide +kernel, by unfold Jvm.FP.Core.inUnits; rw [Nat.zero_mul]⟩
      have := h.inj d
      exact Int64.toBitVec_inj.mp (congrArg UInt64.toBitVec this)
theorem d2l_pos {x : UInt64} {u : Nat} (h : Dv x false u) : ∃ m, m < 2 ^ 63 ∧ FP.d2l x = lN m := by
  have := Jvm.FP.Core.d2l_val h.ne_nan
  rw [h.sgn', h.zmag, sg_f] at this
  have e : (FP.d2l x).toInt = _ := this
  refine ⟨min (2 ^ 63 - 1) (u / Jvm.FP.Core.one64), by omega, ?_⟩
  apply Int64.toInt_inj.mp
  rw [e, pk_lT (by omega)]
  generalize u / Jvm.FP.Core.one64 = q
  omega
theorem real_20 {n : Nat} {g gp g2 : Gs} {L : List Int32} {x : Int64} {s : Bool} {u B : Nat} (hn : 3000 ≤ n) (hT2 : Tb g2) (hB : B ≤ 18) (h : Dv x.toUInt64 s u) (hT : Tx g gp L) (hl : L.length ≤ 1) : ∃ g' gp' L', b_X12_putReal_20 n (L_X12_putReal n n) g x (nI B) = some g' ∧ b_X3_putReal_12 n (L_X3_putReal n n) gp g2 x.toUInt64 (nI B) = some gp' ∧ Tx g' gp' L' ∧ L'.length ≤ 21 + B ∧ Df g g' ∧ Pf gp gp' := by
  obtain ⟨y, y1, y2⟩ := f_sizeOf h
  have hm := dv_mask h
  have ey : y = (x &&& (9223372036854775807 : Int64)).toUInt64 := y2.inj hm
  obtain ⟨g1, t1, t2⟩ := f_towards_l (n := n) (g := g) (by omega) hm
  rw [← ey] at t1
  obtain ⟨m, m1, m2⟩ := d2l_pos y2
  rw [m2] at t1
  obtain ⟨g3, gp3, k, p1, p2, pk, p3, p4, p5⟩ := putWhole_both (n := n) (by omega) m1 (hT.sc t2) (by omega)
  have hw : f_X12_withoutSign x = some (x &&& (9223372036854775807 : Int64)) := rfl
  have hlen : (L ++ dgl m k).length ≤ 20 := by rw [List.length_append, dgl_length]; omega
  obtain ⟨r, r1, r2⟩ := f_rem_cls hn hT2 y2 dv_one (Nat.ne_of_gt Jvm.FP.Core.one64_pos)
  unfold b_X12_putReal_20 b_X3_putReal_12 b_X3_putReal_35
  rw [bnd_s hw, bnd_s t1, bnd_s y1, m2, bnd_s p2]
  dsimp only
  rw [bnd_s p1]
  by_cases hB0 : B = 0
  · subst hB0
    rw [if_pos (show nI 0 = 0 from rfl), if_pos (show nI 0 ≤ 0 by decide), bnd_s r1]
    obtain ⟨f, rfl⟩ : ∃ f, n = f + 1 := ⟨n - 1, by omega⟩
    refine ⟨g3, gp3, L ++ dgl m k, rfl, ?_, p3, by omega, t2.df.trans p4, p5⟩
    show h_X3_putReal_50 (f + 1) (L_X3_putReal (f + 1) f) gp3 g2 (nI 0) r (0 : Int32) = _
    unfold h_X3_putReal_50
    exact if_pos (by decide)
  · obtain ⟨g4, gp4, q1, q2, q3, q4, q5⟩ := put_both (46 : Int32) p3 (by omega)
    obtain ⟨r', g5, s1, s2, s3⟩ := f_rem_ref (g := g4) (y := (4607182418800017408 : Int64)) hn hm dv_one (Nat.ne_of_gt Jvm.FP.Core.one64_pos)
    have er : r = r'.toUInt64 := r2.inj s3
    rw [if_neg (nI_ne0 (by omega) (by omega)), if_neg (nI_nle (by omega) (by omega)), bnd_s q1, bnd_s s1, bnd_s q2, bnd_s r1]
    dsimp only
    rw [grd_t (nsnB_of s3.ne_nan), er]
    obtain ⟨g6, gp6, L', w1, w2, w3, w4, w5, w6⟩ := tail_both (n := n) (g2 := g2) (by omega) hB B n n g5 gp4 _ r'.toUInt64 (u % Jvm.FP.Core.one64) 0 (by omega) (by omega) (by omega) (q3.sc s2) (by rw [List.length_append]; show (L ++ dgl m k).length + 1 + B ≤ 48; omega) s3 (Nat.mod_lt _ Jvm.FP.Core.one64_pos)
    refine ⟨g6, gp6, _, w1, w2, w3, ?_, (((t2.df.trans p4).trans q4).trans s2.df).trans w5, (p5.trans q5).trans w6⟩
    rw [List.length_append, List.length_append, w4]
    show (L ++ dgl m k).length + 1 + B ≤ 21 + B
    omega
theorem putReal_both {n : Nat} {g gp g2 : Gs} {x : Int64} {s : Bool} {u B : Nat} (hn : 3000 ≤ n) (hT2 : Tb g2) (hB : B ≤ 18) (h : Dv x.toUInt64 s u) (hT : Tx g gp []) : ∃ g' gp' L', f_X12_putReal n g x (nI B) = some g' ∧ f_X3_putReal n gp g2 x.toUInt64 (nI B) = some gp' ∧ Tx g' gp' L' ∧ L'.length ≤ 21 + B ∧ Df g g' ∧ Pf gp gp' := by
  unfold f_X12_putReal f_X3_putReal
  obtain ⟨t1, t2⟩ := TOP_iff h
  by_cases c : s = true ∧ u ≠ 0
  · obtain ⟨c1, c2⟩ := c
    have e1 : ¬ (0 : Int64) ≤ x := fun z => by have := t1.mp z; rw [c1] at this; cases this
    have e2 : ¬ x = (-9223372036854775808 : Int64) := fun z => c2 (t2.mp z).2
    have e3 : ¬ 0 ≤ Op.cmpValue (FP.dcmp x.toUInt64 FP.dconst0) .g := by
      rw [cv_ge h.dz dv_zero.dz, c1, sg_t, sg_f]; omega
    obtain ⟨g1, gp1, p1, p2, p3, p4, p5⟩ := put_both (45 : Int32) hT (by decide)
    obtain ⟨g3, gp3, L', q1, q2, q3, q4, q5, q6⟩ := real_20 hn hT2 hB h p3 (by decide)
    rw [if_neg e1, if_neg e2, if_neg e3, bnd_s p1, bnd_s p2]
    exact ⟨g3, gp3, L', q1, q2, q3, q4, p4.trans q5, p5.trans q6⟩
  · have e3 : 0 ≤ Op.cmpValue (FP.dcmp x.toUInt64 FP.dconst0) .g := by
      rw [cv_ge h.dz dv_zero.dz, sg_f]
      cases s with
      | false => rw [sg_f]; omega
      | true =>
        have : u = 0 := Classical.not_not.mp (fun z => c ⟨rfl, z⟩)
        rw [this]; decide
    obtain ⟨g3, gp3, L', q1, q2, q3, q4, q5, q6⟩ := real_20 hn hT2 hB h hT (by decide)
    rw [if_pos e3]
    refine ⟨g3, gp3, L', ?_, q2, q3, q4, q5, q6⟩
    by_cases e1 : (0 : Int64) ≤ x
    · rw [if_pos e1]; exact q1
    · have e2 : x = (-9223372036854775808 : Int64) := t2.mpr (by
        cases s with
        | false => exact absurd (t1.mpr rfl) e1
        | true => exact ⟨rfl, Classical.not_not.mp (fun z => c ⟨rfl, z⟩)⟩)
      rw [if_neg e1, if_pos e2]; exact q1
/-- both desks' texts are the same -/
def Dk (g gp : Gs) : Prop := ∃ L, Tx g gp L
theorem tx_nil {g gp : Gs} (h1 : gI g 99 = 0) (h2 : gI gp 2 = 0) : Tx g gp [] := ⟨h1, h2, by decide, fun j hj => absurd hj (Nat.not_lt_zero _)⟩
theorem dial_eq {n : Nat} {g gT gp g2 : Gs} {x : Int64} {y : Int32} (hn : 3000 ≤ n) (hT2 : Tb g2) (hD : Dk g gp) : ∃ r g' gp', f_X11_dial n gT g2 gp x y = some (r, gp') ∧ f_X12_dial n g x y = some (r, g') ∧ Dk g' gp' ∧ Df g g' ∧ Pf gp gp' := by
  unfold f_X11_dial f_X12_dial
  rw [bnd_s (isFin6 x), bnd_s (isFin12 x), sgB_if, sgB_if]
  have none : ∃ r g' gp', some ((-1 : Int32), gp) = some (r, gp') ∧ some ((-1 : Int32), g) = some (r, g') ∧ Dk g' gp' ∧ Df g g' ∧ Pf gp gp' := ⟨-1, g, gp, rfl, rfl, hD, Fr.refl _ _, Fr.refl _ _⟩
  by_cases hx : fin64 x = true
  · rw [if_pos hx, if_pos hx]
    by_cases h1 : y < 0
    · rw [if_pos h1, if_pos h1]; exact none
    · rw [if_neg h1, if_neg h1]
      by_cases h2 : y ≤ (18 : Int32)
      · rw [if_pos h2, if_pos h2]
        obtain ⟨B, hB, rfl⟩ := nI_of2 (M := 18) (n := 18) (by decide) h1 h2
        obtain ⟨s, u, dx⟩ := fin64_dv hx
        have f1 : Df g (sI g 99 0) := Fr.sI (by decide) _ _
        have f2 : Pf gp (sI gp 2 0) := Fr.sI (by decide) _ _
        obtain ⟨g', gp', L', q1, q2, q3, q4, q5, q6⟩ := putReal_both (g := sI g 99 0) (gp := sI gp 2 0) hn hT2 hB dx (tx_nil rfl rfl)
        rw [bnd_s (f_realOf hT2 dx), bnd_s q2, bnd_s q1]
        refine ⟨gI g' 99, g', gp', ?_, rfl, ⟨L', q3⟩, f1.trans q5, f2.trans q6⟩
        rw [q3.1, q3.2.1]
      · rw [if_neg h2, if_neg h2]; exact none
  · rw [if_neg hx, if_neg hx]; exact none
theorem octet_eq {g gT gp : Gs} {k : Int32} (hD : Dk g gp) : ∃ r, f_X11_octet gT gp k = some r ∧ f_X12_octet g k = some r := by
  obtain ⟨L, h1, h2, h3, h4⟩ := hD
  unfold f_X11_octet f_X12_octet
  by_cases c1 : k < 0
  · rw [if_pos c1, if_pos c1]; exact ⟨_, rfl, rfl⟩
  · obtain ⟨j, hj, rfl⟩ := nI_of c1
    rw [if_neg c1, if_neg c1, h1, h2]
    by_cases c2 : j < L.length
    · rw [if_neg (nI_ge c2 (by omega)), if_pos (nI_lt c2 (by omega)), grd_t (inB_nI (N := 48) (by omega) (by decide)), grd_t (inB_nI (N := 100) (by omega) (by decide)), nI_clamp hj, (h4 j c2).1, (h4 j c2).2]
      exact ⟨_, rfl, rfl⟩
    · rw [if_pos (nI_le (by omega) hj), if_neg (nI_nlt (by omega) hj)]
      exact ⟨_, rfl, rfl⟩
