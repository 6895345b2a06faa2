/-! date: both sides answer alike -/
theorem i32_addL {x k : Int32} {z c : Int} (hx : x.toInt = z) (hk : k.toInt = c) (h1 : -2147483648 ≤ z + c) (h2 : z + c < 2147483648) : (x + k).toInt = z + c := by
  rw [i32_add (by rw [hx, hk]; exact h1) (by rw [hx, hk]; exact h2), hx, hk]
theorem i32_subL {x k : Int32} {z c : Int} (hx : x.toInt = z) (hk : k.toInt = c) (h1 : -2147483648 ≤ z - c) (h2 : z - c < 2147483648) : (x - k).toInt = z - c := by
  rw [i32_sub (by rw [hx, hk]; exact h1) (by rw [hx, hk]; exact h2), hx, hk]
theorem i32_mulL {x k : Int32} {z c : Int} (hx : x.toInt = z) (hk : k.toInt = c) (h1 : -2147483648 ≤ z * c) (h2 : z * c < 2147483648) : (x * k).toInt = z * c := by
  rw [Int32.toInt_mul, hx, hk]
  exact Int.bmod_eq_of_le (by omega) (by omega)
/-- the March count of a day -/
theorem march_no {x0 : Int32} {z : Int} (hx : x0.toInt = z) (h1 : -100000000 ≤ z) (h2 : z ≤ 100000000) : ∃ (E : Int32) (K2 : Int) (e : Nat), f_J9_floorDiv_7cf53 (x0 + (719468 : Int32)) (146097 : Int32) = some E ∧ E.toInt = K2 ∧ z + 719468 = 146097 * K2 + (e : Int) ∧ e < 146097 ∧ (x0 + (719468 : Int32)) - (E * (146097 : Int32)) = nI e ∧ -1000 ≤ K2 ∧ K2 ≤ 1000 := by
  have e1 : (x0 + (719468 : Int32)).toInt = z + 719468 := i32_addL hx (by decide) (by omega) (by omega)
  obtain ⟨A, hA⟩ : ∃ A, z + 719468 = A := ⟨_, rfl⟩
  rw [hA] at e1
  have hA1 : -100000000 ≤ A := by omega
  have hA2 : A ≤ 110000000 := by omega
  rw [hA]
  clear hA h1 h2 hx
  obtain ⟨E, E1, E2⟩ := floorDiv32 (d := (146097 : Int32)) (D := 146097) e1 (by decide) (by decide) (by omega) (by omega)
  obtain ⟨K2, hK2⟩ : ∃ K2, A / 146097 = K2 := ⟨_, rfl⟩
  rw [hK2] at E2
  have hb1 : -1000 ≤ K2 := by omega
  have hb2 : K2 ≤ 1000 := by omega
  obtain ⟨e, he⟩ : ∃ e : Nat, A = 146097 * K2 + (e : Int) := ⟨(A - 146097 * K2).toNat, by omega⟩
  have heb : e < 146097 := by omega
  clear hK2
  have e3 : (E * (146097 : Int32)).toInt = K2 * 146097 := i32_mulL E2 (by decide) (by omega) (by omega)
  refine ⟨E, K2, e, E1, E2, he, heb, ?_, hb1, hb2⟩
  refine i32_nI ?_ (by omega)
  rw [i32_subL e1 e3 (by omega) (by omega)]
  omega
theorem mchk_use {lp : Bool} {d : Nat} (h : d < 365 + lp.toNat) : (mo lp 12 1 d).2 < ml lp (mo lp 12 1 d).1 ∧ (153 * ((5 * mV lp d + 2) / 153) + 2) / 5 ≤ mV lp d ∧ (mo lp 12 1 d).2 = mV lp d - (153 * ((5 * mV lp d + 2) / 153) + 2) / 5 ∧ ((mo lp 12 1 d).1 = if 10 ≤ (5 * mV lp d + 2) / 153 then (5 * mV lp d + 2) / 153 - 9 else (5 * mV lp d + 2) / 153 + 3) ∧ (10 ≤ (5 * mV lp d + 2) / 153 ↔ d < 59 + lp.toNat) ∧ (5 * mV lp d + 2) / 153 ≤ 11 ∧ mV lp d ≤ 365 ∧ (d = daysN.getD ((mo lp 12 1 d).1 - 1) 0 + (mo lp 12 1 d).2 + (if 2 < (mo lp 12 1 d).1 then lp.toNat else 0)) ∧ ((2 < (mo lp 12 1 d).1) ↔ 59 + lp.toNat ≤ d) ∧ 1 ≤ (mo lp 12 1 d).1 ∧ (mo lp 12 1 d).1 ≤ 12 := by
  have h1 := mchk_all lp d h
  unfold mchk at h1
  simp only [Bool.and_eq_true, decide_eq_true_eq] at h1
  obtain ⟨⟨⟨⟨⟨⟨⟨⟨⟨a1, a2⟩, a3⟩, a4⟩, a5⟩, a6⟩, a7⟩, a8⟩, a9⟩, a10, a11⟩ := h1
  exact ⟨a1, a2, a3, a4, a5, a6, a7, a8, a9, a10, a11⟩
/-- what is told of a day: year, month, day of the month, day of the year -/
def dres (w : Nat) (yr : Int32) (m r d : Nat) : Int32 := if w = 0 then yr else if w = 1 then nI m else if w = 2 then nI (r + 1) else nI (d + 1)
theorem date_143 {w : Nat} {E yr : Int32} {K K2 : Int} {j y m r d : Nat} {lp : Bool} (hw : w < 5) (hE : E.toInt = K2) (hK2 : -1000 ≤ K2 ∧ K2 ≤ 1000) (hy : y < 400) (hyr : yr.toInt = 400 * K + 1 + (j : Int)) (hlp : leapZ (400 * K + 1 + (j : Int)) = lp) (hm : 1 ≤ m ∧ m ≤ 12) (hr : r < 400) (hye : (y : Int) + 400 * K2 = 400 * K + (j : Int) + (if 2 < m then 1 else 0)) (hd : d = daysN.getD (m - 1) 0 + r + (if 2 < m then lp.toNat else 0)) : b_X11_dateOf_122 (nI w) E (nI y) (nI (r + 1)) (nI m) = some (dres w yr m r d) := by
  have t400 : (400 : Int32).toInt = 400 := by decide
  have t0 : (0 : Int32).toInt = 0 := by decide
  have t1 : (1 : Int32).toInt = 1 := by decide
  have ty : (nI y).toInt = (y : Int) := nI_toInt (by omega)
  have e1 : (E * (400 : Int32)).toInt = K2 * 400 := by
    rw [Int32.toInt_mul, hE, t400]
    exact Int.bmod_eq_of_le (by omega) (by omega)
  have e2 : (nI y + E * (400 : Int32)).toInt = (y : Int) + 400 * K2 := by
    rw [i32_add (by rw [ty, e1]; omega) (by rw [ty, e1]; omega), ty, e1]; omega
  have hdays := days_nI (m - 1) (by omega)
  have hw0 : nI w = (0 : Int32) ↔ w = 0 := nI_eq (b := 0) (by omega) (by decide)
  have hw1 : nI w = (1 : Int32) ↔ w = 1 := nI_eq (b := 1) (by omega) (by decide)
  have hw2 : nI w = (2 : Int32) ↔ w = 2 := nI_eq (b := 2) (by omega) (by decide)
  have em1 : nI m - (1 : Int32) = nI (m - 1) := pk_sub (b := 1) (by omega)
  have c12 : inB (nI (m - 1)) 12 = true := inB_nI (by omega) (by decide)
  have body : ∀ (s0 : Int32) (b : Nat), (b = if 2 < m then lp.toNat else 0) → (nI y + E * (400 : Int32)) + s0 = yr → b_X11_dateOf_143 (nI w) (nI (r + 1)) (nI m) s0 (nI y + E * (400 : Int32)) = some (dres w yr m r d) := by
    intro s0 b hb hs
    unfold b_X11_dateOf_143 dres
    simp only [hw0, hw1, hw2, hs]
    by_cases c0 : w = 0
    · rw [if_pos c0, if_pos c0]
    · rw [if_neg c0, if_neg c0]
      by_cases c1 : w = 1
      · rw [if_pos c1, if_pos c1]
      · rw [if_neg c1, if_neg c1]
        by_cases c2 : w = 2
        · rw [if_pos c2, if_pos c2]
        · rw [if_neg c2, if_neg c2, em1, grd_t c12, nI_clamp (by omega), hdays.1, nI_add]
          by_cases c3 : 2 < m
          · rw [if_neg (show ¬ nI m ≤ (2 : Int32) from nI_ge (a := 2) c3 (by omega)), bnd_s (isLeap12 hyr (by omega) (by omega)).2, hlp]
            rw [if_pos c3] at hd
            cases lp with
            | false =>
              rw [if_pos (show sgB false = 0 by decide)]
              show some (nI _ + nI 0) = _
              rw [nI_add, hd]
              congr 2
            | true =>
              rw [if_neg (show ¬ sgB true = 0 by decide)]
              show some (nI _ + nI 1) = _
              rw [nI_add, hd]
              congr 2
          · rw [if_pos (show nI m ≤ (2 : Int32) from nI_le (b := 2) (by omega) (by decide))]
            rw [if_neg c3] at hd
            show some (nI _ + nI 0) = _
            rw [nI_add, hd]
            congr 2
  unfold b_X11_dateOf_122
  by_cases c : 2 < m
  · rw [if_pos (show (2 : Int32) < nI m from nI_lt (a := 2) c (by omega))]
    refine body 0 _ rfl (Int32.toInt_inj.mp ?_)
    rw [if_pos c] at hye
    rw [i32_add (by rw [e2, t0]; omega) (by rw [e2, t0]; omega), e2, t0, hyr]; omega
  · rw [if_neg (show ¬ (2 : Int32) < nI m from nI_nlt (b := m) (a := 2) (by omega) (by decide))]
    refine body 1 _ rfl (Int32.toInt_inj.mp ?_)
    rw [if_neg c] at hye
    rw [i32_add (by rw [e2, t1]; omega) (by rw [e2, t1]; omega), e2, t1, hyr]; omega
theorem dateOf_spec {w R j : Nat} {x0 yr : Int32} {z K : Int} (hw : w < 5) (hx : x0.toInt = z) (h1 : -100000000 ≤ z) (h2 : z ≤ 100000000) (hz : z + 719162 = 146097 * K + (R : Int)) (hR : R < 146097) (hj : j < 400) (hc1 : cum j ≤ R) (hc2 : R < cum (j + 1)) (hyr : yr.toInt = 400 * K + 1 + (j : Int)) : f_X11_dateOf x0 (nI w) = some (dres w yr (mo (lpN j) 12 1 (R - cum j)).1 (mo (lpN j) 12 1 (R - cum j)).2 (R - cum j)) := by
  obtain ⟨E, K2, e, E1, E2, he, heb, hT, hk1, hk2⟩ := march_no hx h1 h2
  obtain ⟨y, y1, y2, y3, y4, y5⟩ := march hj hc1 hc2 hz he hR heb
  have hyl := cum_succ j
  have hdl : R - cum j < 365 + (lpN j).toNat := by
    have : ylen j = 365 + (lpN j).toNat := by
      unfold ylen
      cases lpN j <;> rfl
    omega
  obtain ⟨m1, m2, m3, m4, m5, m6, m7, m8, m9, m10, m11⟩ := mchk_use hdl
  obtain ⟨v, hv⟩ : ∃ v, e - st y = v := ⟨_, rfl⟩
  rw [hv] at y3
  rw [← y3] at m2 m3 m4 m5 m6 m7
  obtain ⟨mp, hmp⟩ : ∃ mp, (5 * v + 2) / 153 = mp := ⟨_, rfl⟩
  rw [hmp] at m2 m3 m4 m5 m6
  have r1 : nI e / (1460 : Int32) = nI (e / 1460) := pk_div (d := 1460) (by omega) (by decide) (by decide)
  have r2 : nI e - nI (e / 1460) = nI (e - e / 1460) := pk_sub (Nat.div_le_self _ _)
  have r3 : nI e / (36524 : Int32) = nI (e / 36524) := pk_div (d := 36524) (by omega) (by decide) (by decide)
  have r5 : nI e / (146096 : Int32) = nI (e / 146096) := pk_div (d := 146096) (by omega) (by decide) (by decide)
  have r6 : nI (e - e / 1460 + e / 36524) - nI (e / 146096) = nI (gY e) := pk_sub (by omega)
  have hgb : gY e < 200000 := by unfold gY; omega
  have r7 : nI (gY e) / (365 : Int32) = nI y := by
    have := pk_div (a := gY e) (d := 365) (by omega) (by decide) (by decide)
    rw [y1] at this
    exact this
  have r8 : (365 : Int32) * nI y = nI (365 * y) := pk_mul 365 y
  have r9 : nI y / (4 : Int32) = nI (y / 4) := pk_div (d := 4) (by omega) (by decide) (by decide)
  have r11 : nI y / (100 : Int32) = nI (y / 100) := pk_div (d := 100) (by omega) (by decide) (by decide)
  have r12 : nI (365 * y + y / 4) - nI (y / 100) = nI (st y) := pk_sub (by omega)
  have r13 : nI e - nI (st y) = nI v := by rw [pk_sub y2, hv]
  have r14 : (5 : Int32) * nI v = nI (5 * v) := pk_mul 5 v
  have r15 : nI (5 * v) + (2 : Int32) = nI (5 * v + 2) := nI_add _ 2
  have r16 : nI (5 * v + 2) / (153 : Int32) = nI mp := by
    have := pk_div (a := 5 * v + 2) (d := 153) (by omega) (by decide) (by decide)
    rw [hmp] at this
    exact this
  have r17 : (153 : Int32) * nI mp = nI (153 * mp) := pk_mul 153 mp
  have r18 : nI (153 * mp) + (2 : Int32) = nI (153 * mp + 2) := nI_add _ 2
  have r19 : nI (153 * mp + 2) / (5 : Int32) = nI ((153 * mp + 2) / 5) := pk_div (d := 5) (by omega) (by decide) (by decide)
  have r20 : nI v - nI ((153 * mp + 2) / 5) = nI (mo (lpN j) 12 1 (R - cum j)).2 := by rw [pk_sub m2, m3]
  unfold f_X11_dateOf
  rw [bnd_s E1, hT, r1, r2, r3, nI_add, r5, r6, r7, r8, r9, nI_add, r11, r12, r13, r14, r15, r16, r17, r18, r19, r20, nI_1]
  have hb := ml_bound (lpN j) (mo (lpN j) 12 1 (R - cum j)).1
  have fin := date_143 (w := w) (E := E) (yr := yr) (K := K) (K2 := K2) (j := j) (y := y) (m := (mo (lpN j) 12 1 (R - cum j)).1) (r := (mo (lpN j) 12 1 (R - cum j)).2) (d := R - cum j) (lp := lpN j) hw E2 ⟨hk1, hk2⟩ y4 hyr leap_cyc ⟨m10, m11⟩ (by omega) (by
    rw [y5]
    by_cases c : 59 + (lpN j).toNat ≤ R - cum j
    · rw [if_pos c, if_pos (m9.mpr c)]
    · rw [if_neg c, if_neg (fun q => c (m9.mp q))]) m8
  by_cases c : 10 ≤ mp
  · rw [if_pos (show (10 : Int32) ≤ nI mp from nI_le (a := 10) c (by omega)), show nI mp - (9 : Int32) = nI (mp - 9) from pk_sub (b := 9) (by omega)]
    rw [if_pos c] at m4
    rw [m4] at fin ⊢
    exact fin
  · rw [if_neg (show ¬ (10 : Int32) ≤ nI mp from nI_ge (b := 10) (by omega) (by decide)), show nI mp + (3 : Int32) = nI (mp + 3) from nI_add mp 3]
    rw [if_neg c] at m4
    rw [m4] at fin ⊢
    exact fin
theorem l2i {D : Int64} {z : Int} (h : D.toInt = z) (h1 : -100000000 ≤ z) (h2 : z ≤ 100000000) : D.toInt32.toInt = z := by
  rw [Jvm.FP.Core.int64_toInt32 (by omega) (by omega), h]
theorem floorMod64 {x : Int64} {A : Int} (hx : x.toInt = A) (h1 : -1000000000 ≤ A) (h2 : A ≤ 1000000000) : ∃ e, f_J9_floorMod_f86c9 x 7 = some e ∧ e.toInt = A % 7 := by
  have t7 : (7 : Int64).toInt = 7 := by decide
  have tm := Int.tmod_add_mul_tdiv A 7
  have hb : -1000000000 ≤ A.tdiv 7 ∧ A.tdiv 7 ≤ 1000000000 ∧ -6 ≤ A.tmod 7 ∧ A.tmod 7 ≤ 6 ∧ ((A.tmod 7 = A % 7) ∨ (A < 0 ∧ A.tmod 7 ≠ 0 ∧ A.tmod 7 + 7 = A % 7)) ∧ (A < 0 → A.tmod 7 ≤ 0) := by
    rcases Int.le_total 0 A with h | h
    · rw [Int.tdiv_eq_ediv_of_nonneg h, Int.tmod_eq_emod_of_nonneg h]; omega
    · have hn : 0 ≤ -A := by omega
      have e : A.tdiv 7 = -((-A).tdiv 7) := by rw [Int.neg_tdiv, Int.neg_neg]
      have e2 : A.tmod 7 = -((-A).tmod 7) := by rw [Int.neg_tmod, Int.neg_neg]
      rw [Int.tdiv_eq_ediv_of_nonneg hn] at e
      rw [Int.tmod_eq_emod_of_nonneg hn] at e2
      omega
  have e1 : (x / (7 : Int64)).toInt = A.tdiv 7 := by
    rw [Int64.toInt_div, hx, t7]
    exact Int.bmod_eq_of_le (by omega) (by omega)
  have e2 : (x / (7 : Int64) * (7 : Int64)).toInt = 7 * A.tdiv 7 := by
    rw [Int64.toInt_mul, e1, t7, Int.mul_comm]
    exact Int.bmod_eq_of_le (by omega) (by omega)
  have e3 : (x - x / (7 : Int64) * (7 : Int64)).toInt = A.tmod 7 := by
    rw [Jvm.FP.Core.int64_sub (by rw [hx, e2]; omega) (by rw [hx, e2]; omega), hx, e2]; omega
  have z0 : ∀ q : Int64, q = 0 ↔ q.toInt = 0 := fun q => by rw [← Int64.toInt_inj]; rfl
  unfold f_J9_floorMod_f86c9
  rw [grd_t (show nzL (7 : Int64) = true by decide)]
  by_cases c : 0 ≤ A
  · rw [if_pos ((xor_signL (by decide)).mpr (by omega))]
    exact ⟨_, rfl, by rw [e3]; omega⟩
  · rw [if_neg (fun q => by have := (xor_signL (y := 7) (by decide)).mp q; omega)]
    by_cases c2 : A.tmod 7 = 0
    · rw [if_pos ((z0 _).mpr (by rw [e3, c2]))]
      exact ⟨_, rfl, by rw [e3]; omega⟩
    · rw [if_neg (fun q => c2 (by have := (z0 _).mp q; rw [e3] at this; exact this))]
      exact ⟨_, rfl, by rw [Jvm.FP.Core.int64_add (by rw [e3, t7]; omega) (by rw [e3, t7]; omega), e3, t7]; omega⟩
theorem date_eq {n : Nat} {g gT g2 : Gs} {x : Int64} {wi : Int32} (hn : 3000 ≤ n) (hT : Tb g2) : ∃ r g', f_X11_date gT g2 x wi = some r ∧ f_X12_date n g x wi = some (r, g') ∧ Sc g g' := by
  unfold f_X11_date f_X12_date
  by_cases c1 : wi < 0
  · rw [if_pos c1, if_pos c1]; exact ⟨_, g, rfl, rfl, Sc.refl g⟩
  · rw [if_neg c1, if_neg c1]
    by_cases c2 : (4 : Int32) < wi
    · rw [if_pos c2, if_pos c2]; exact ⟨_, g, rfl, rfl, Sc.refl g⟩
    · rw [if_neg c2, if_neg c2, bnd_s (isFin6 x), bnd_s (isFin12 x), sgB_if, sgB_if]
      by_cases hx : fin64 x = true
      · rw [if_pos hx, if_pos hx]
        obtain ⟨w, hw, rfl⟩ := nI_of c1
        have hw5 : w < 5 := by
          rcases Nat.lt_or_ge 4 w with h | h
          · exact absurd (nI_lt (a := 4) h hw) c2
          · omega
        obtain ⟨s, u, dx⟩ := fin64_dv hx
        obtain ⟨r1, a1, a2⟩ := f_floorOf dx
        obtain ⟨r2, g1, b1, b2, b3⟩ := f_evened (n := n) (g := g) (w := 0) (by omega) (by decide) dx
        have er : r1 = r2.toUInt64 := a2.inj b3
        obtain ⟨g3, t1, t2⟩ := f_towards_l (n := n) (g := g1) (by omega) b3
        rw [nI_0] at b1
        rw [bnd_s (f_realOf hT dx), bnd_s a1, bnd_s b1]
        dsimp only
        rw [bnd_s t1, er]
        dsimp only
        have hS : Sc g g3 := b2.trans t2
        generalize FP.d2l r2.toUInt64 = D at *
        by_cases c3 : D < (-100000000 : Int64)
        · rw [if_pos c3, if_pos c3]; exact ⟨_, g3, rfl, rfl, hS⟩
        · rw [if_neg c3, if_neg c3]
          by_cases c4 : D ≤ (100000000 : Int64)
          · rw [if_pos c4, if_pos c4]
            obtain ⟨z, hz⟩ : ∃ z, D.toInt = z := ⟨_, rfl⟩
            rw [Int64.lt_iff_toInt_lt, hz, show (-100000000 : Int64).toInt = -100000000 by decide] at c3
            rw [Int64.le_iff_toInt_le, hz, show (100000000 : Int64).toInt = 100000000 by decide] at c4
            have hz1 : -100000000 ≤ z := by omega
            have d32 := l2i hz hz1 c4
            by_cases c5 : nI w = (3 : Int32)
            · rw [if_pos c5, if_pos c5]
              have h3 : (D + (3 : Int64)).toInt = z + 3 := by
                rw [Jvm.FP.Core.int64_add (by rw [hz, show (3 : Int64).toInt = 3 by decide]; omega) (by rw [hz, show (3 : Int64).toInt = 3 by decide]; omega), hz, show (3 : Int64).toInt = 3 by decide]
              obtain ⟨e, e1, e2⟩ := floorMod64 h3 (by omega) (by omega)
              rw [bnd_s e1]
              refine ⟨_, g3, rfl, ?_, hS⟩
              congr 2
              apply Int32.toInt_inj.mp
              have j1 := (jrem d32 (show (7 : Int32).toInt = 7 by decide) (by decide) (by omega) (by omega)).1
              have hb : -6 ≤ z.tmod 7 ∧ z.tmod 7 ≤ 6 ∧ (z.tmod 7 = z % 7 ∨ z.tmod 7 + 7 = z % 7) := by
                rcases Int.le_total 0 z with h | h
                · rw [Int.tmod_eq_emod_of_nonneg h]; omega
                · have hn' : 0 ≤ -z := by omega
                  have e2 : z.tmod 7 = -((-z).tmod 7) := by rw [Int.neg_tmod, Int.neg_neg]
                  rw [Int.tmod_eq_emod_of_nonneg hn'] at e2
                  omega
              have t10 : (10 : Int32).toInt = 10 := by decide
              have j2 : ((D.toInt32 - D.toInt32 / (7 : Int32) * (7 : Int32)) + (10 : Int32)).toInt = z.tmod 7 + 10 := by
                rw [i32_add (by rw [j1, t10]; omega) (by rw [j1, t10]; omega), j1, t10]
              have j3 := (jrem j2 (show (7 : Int32).toInt = 7 by decide) (by decide) (by omega) (by omega)).1
              rw [j3, Int.tmod_eq_emod_of_nonneg (by omega), l2i e2 (by omega) (by omega)]
              omega
            · rw [if_neg c5, if_neg c5]
              have hw3 : w ≠ 3 := fun q => c5 (by rw [q]; rfl)
              obtain ⟨N, hN⟩ : ∃ N : Nat, (N : Int) = z + 102987062 := ⟨(z + 102987062).toNat, by omega⟩
              have k1 : (719162 : Int32).toInt = 719162 := by decide
              have k2 : (102267900 : Int32).toInt = 102267900 := by decide
              have n1 : (D.toInt32 + (719162 : Int32)).toInt = z + 719162 := by
                rw [i32_add (by rw [d32, k1]; omega) (by rw [d32, k1]; omega), d32, k1]
              have n2 : (D.toInt32 + (719162 : Int32)) + (102267900 : Int32) = nI N := by
                refine i32_nI ?_ (by omega)
                rw [i32_add (by rw [n1, k2]; omega) (by rw [n1, k2]; omega), n1, k2]; omega
              have n3 : nI N - nI N / (146097 : Int32) * (146097 : Int32) = nI (N % 146097) := pk_rem (d := 146097) (by omega) (by decide) (by decide)
              have n4 : nI N / (146097 : Int32) = nI (N / 146097) := pk_div (d := 146097) (by omega) (by decide) (by decide)
              have n5 : (400 : Int32) * nI (N / 146097) = nI (400 * (N / 146097)) := pk_mul 400 _
              have hR : N % 146097 < 146097 := Nat.mod_lt _ (by decide)
              have n6 : ((nI (400 * (N / 146097)) - (280000 : Int32)) + (1 : Int32)).toInt = 400 * (((N / 146097 : Nat) : Int) - 700) + 1 + ((0 : Nat) : Int) := by
                have q1 : (280000 : Int32).toInt = 280000 := by decide
                have q2 : (1 : Int32).toInt = 1 := by decide
                have q3 : (nI (400 * (N / 146097))).toInt = ((400 * (N / 146097) : Nat) : Int) := nI_toInt (by omega)
                have q4 : (nI (400 * (N / 146097)) - (280000 : Int32)).toInt = ((400 * (N / 146097) : Nat) : Int) - 280000 := by
                  rw [i32_sub (by rw [q3, q1]; omega) (by rw [q3, q1]; omega), q3, q1]
                rw [i32_add (by rw [q4, q2]; omega) (by rw [q4, q2]; omega), q4, q2]; omega
              obtain ⟨j, f', yr, j1, j2, j3, j4, j5, j6⟩ := year_loop (n := n) (g := g3) (w := nI w) (k := ((N / 146097 : Nat) : Int) - 700) (R := N % 146097) (by omega) (by omega) hR 400 n 0 _ (by decide) (by omega) n6 (Nat.zero_le _)
              have cs := cum_succ j
              have hdl : N % 146097 - cum j < 365 + (lpN j).toNat := by
                have : ylen j = 365 + (lpN j).toNat := by
                  unfold ylen
                  cases lpN j <;> rfl
                omega
              have hlt : (lpN j).toNat ≤ 1 := by cases lpN j <;> decide
              have mu := mchk_use hdl
              have cls := dateOf_spec (w := w) (R := N % 146097) (j := j) (x0 := D.toInt32) (yr := yr) (z := z) (K := ((N / 146097 : Nat) : Int) - 700) hw5 d32 hz1 c4 (by omega) hR j1 j2 j3 j4
              rw [bnd_s cls, n2, n3, n4, n5]
              refine ⟨_, g3, rfl, ?_, hS⟩
              have c0 : cum 0 = 0 := by decide
              rw [c0, Nat.sub_zero] at j6
              rw [j6]
              unfold dfin dres
              have hw0 : nI w = (0 : Int32) ↔ w = 0 := nI_eq (b := 0) (by omega) (by decide)
              have hw4 : nI w = (4 : Int32) ↔ w = 4 := nI_eq (b := 4) (by omega) (by decide)
              by_cases d0 : w = 0
              · rw [if_pos (hw0.mpr d0), if_pos d0]
              · rw [if_neg (fun q => d0 (hw0.mp q)), if_neg d0]
                by_cases d4 : w = 4
                · rw [if_pos (hw4.mpr d4), if_neg (by omega), if_neg (by omega), nI_1]
                · rw [if_neg (fun q => d4 (hw4.mp q))]
                  have lz : leapZ (400 * (((N / 146097 : Nat) : Int) - 700) + 1 + (j : Int)) = lpN j := leap_cyc
                  have ml1 := month_loop (n := n) (g := g3) (w := w) (yr := yr) (Y := 400 * (((N / 146097 : Nat) : Int) - 700) + 1 + (j : Int)) (by omega) j4 (by omega) (by omega) 12 f' 1 (N % 146097 - cum j) (by omega) (by decide) (by omega) (by rw [lz]; exact mu.1)
                  rw [lz, show nI (ml (lpN j) 1) = (31 : Int32) by unfold ml; rfl, show nI 1 = (1 : Int32) from rfl] at ml1
                  rw [ml1]
                  by_cases d1 : w = 1
                  · rw [if_pos d1, if_pos d1]
                  · rw [if_neg d1, if_neg d1, if_pos (by omega)]
          · rw [if_neg c4, if_neg c4]; exact ⟨_, g3, rfl, rfl, hS⟩
      · rw [if_neg hx, if_neg hx]; exact ⟨_, g, rfl, rfl, Sc.refl g⟩
