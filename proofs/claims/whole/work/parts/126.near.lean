/-! nearest: the walk along the aim meets a nearest one -/
def F22 (a G x y : Nat) : Nat := Dd (Pv a (Qv x y)) G
def IsMin (a G lo hi w : Nat) : Prop := (∃ x y, lo ≤ x ∧ x ≤ hi ∧ lo ≤ y ∧ y ≤ hi ∧ F22 a G x y = w) ∧ ∀ x y, lo ≤ x → x ≤ hi → lo ≤ y → y ≤ hi → w ≤ F22 a G x y
theorem IsMin.unique {a G lo hi w w' : Nat} (h : IsMin a G lo hi w) (h' : IsMin a G lo hi w') : w = w' := by
  obtain ⟨⟨x, y, h1, h2, h3, h4, h5⟩, h6⟩ := h
  obtain ⟨⟨x', y', k1, k2, k3, k4, k5⟩, k6⟩ := h'
  have := h6 x' y' k1 k2 k3 k4
  have := k6 x y h1 h2 h3 h4
  omega
/-- what the walk has seen -/
def NS (a G lo hi n m : Nat) (x : UInt64) : Prop := (x = 13830554455654793216 ∧ n = lo ∧ m = lo) ∨ ∃ w, Dv x false w ∧ (∃ p q, lo ≤ p ∧ p ≤ hi ∧ lo ≤ q ∧ q ≤ hi ∧ F22 a G p q = w) ∧ ∀ p q, lo ≤ p → p ≤ hi → lo ≤ q → q ≤ hi → (p < n ∨ q < m) → w ≤ F22 a G p q
theorem near_walk {N lo hi a G : Nat} {v0 v2 : UInt64} (hlo : 4 ≤ lo) (hhi : hi ≤ 200) (hw : lo ≤ hi) (d0 : Dv v0 false a) (ha : a ≤ 50 * Jvm.FP.Core.one64) (d2 : Dv v2 false G) : ∀ (d f n m : Nat) (x : UInt64), (hi + 1 - n) + (hi + 1 - m) ≤ d → d < f → lo ≤ n → lo ≤ m → n ≤ hi + 1 → m ≤ hi + 1 → NS a G lo hi n m x → ∃ x' w, (L_X10_nearest N f) v0 v2 (nI hi) (nI n) (nI m) x = some x' ∧ Dv x' false w ∧ IsMin a G lo hi w
  | _, 0, _, _, _, _, h, _, _, _, _, _ => absurd h (Nat.not_lt_zero _)
  | d, f + 1, n, m, x, hd, hf, hn, hm, hn2, hm2, hS => by
    show ∃ x' w, h_X10_nearest_13 N (L_X10_nearest N f) v0 v2 (nI hi) (nI n) (nI m) x = some x' ∧ _
    unfold h_X10_nearest_13
    have ended : (n = hi + 1 ∨ m = hi + 1) → ∃ w, Dv x false w ∧ IsMin a G lo hi w := by
      intro he
      rcases hS with ⟨-, h1, h2⟩ | ⟨w, h1, h2, h3⟩
      · omega
      · exact ⟨w, h1, h2, fun p q p1 p2 q1 q2 => h3 p q p1 p2 q1 q2 (by omega)⟩
    by_cases c1 : hi < n
    · rw [if_pos (nI_lt c1 (by omega))]
      obtain ⟨w, w1, w2⟩ := ended (by omega)
      exact ⟨x, w, rfl, w1, w2⟩
    · rw [if_neg (nI_nlt (by omega) (by omega))]
      by_cases c2 : hi < m
      · rw [if_pos (nI_lt c2 (by omega))]
        obtain ⟨w, w1, w2⟩ := ended (by omega)
        exact ⟨x, w, rfl, w1, w2⟩
      · rw [if_neg (nI_nlt (by omega) (by omega))]
        obtain ⟨q, q1, q2⟩ := f_quotient (n := n) (m := m) (by omega) (by omega) (by omega)
        have dp := dv_prod d0 q2 ha (qv_le (by omega) (by omega))
        obtain ⟨far, r1, r2⟩ := f_distance dp d2
        have r2' : Dv far false (F22 a G n m) := r2
        rw [bnd_s q1, grd_t dp.n64, bnd_s r1]
        -- the best behind this one
        have best : ∃ y w, (if (Op.cmpValue (FP.dcmp x FP.dconst0) .g) < 0 then (b_X10_nearest_61 N (L_X10_nearest N f) v0 v2 (nI hi) (nI n) (nI m) (FP.dmul v0 q) far) else (if 0 ≤ (Op.cmpValue (FP.dcmp far x) .g) then (b_X10_nearest_65 N (L_X10_nearest N f) v0 v2 (nI hi) (nI n) (nI m) x (FP.dmul v0 q)) else (b_X10_nearest_61 N (L_X10_nearest N f) v0 v2 (nI hi) (nI n) (nI m) (FP.dmul v0 q) far))) = b_X10_nearest_65 N (L_X10_nearest N f) v0 v2 (nI hi) (nI n) (nI m) y (FP.dmul v0 q) ∧ Dv y false w ∧ (∃ p q, lo ≤ p ∧ p ≤ hi ∧ lo ≤ q ∧ q ≤ hi ∧ F22 a G p q = w) ∧ w ≤ F22 a G n m ∧ ∀ p q, lo ≤ p → p ≤ hi → lo ≤ q → q ≤ hi → (p < n ∨ q < m) → w ≤ F22 a G p q := by
          unfold b_X10_nearest_61
          rcases hS with ⟨h1, h2, h3⟩ | ⟨w, h1, h2, h3⟩
          · refine ⟨far, F22 a G n m, ?_, r2', ⟨n, m, hn, by omega, hm, by omega, rfl⟩, Nat.le_refl _, fun p q p1 p2 q1 q2 hh => by omega⟩
            subst h1
            rw [if_pos]
            rw [cv_lt dv_m1.dz dv_zero.dz, sg_t, sg_f]
            have := Jvm.FP.Core.one64_pos
            omega
          · rw [if_neg (by rw [cv_lt h1.dz dv_zero.dz, sg_f, sg_f]; omega)]
            by_cases c3 : F22 a G n m < w
            · refine ⟨far, F22 a G n m, ?_, r2', ⟨n, m, hn, by omega, hm, by omega, rfl⟩, Nat.le_refl _, fun p q p1 p2 q1 q2 hh => ?_⟩
              · rw [if_neg (by rw [cv_ge r2'.dz h1.dz, sg_f, sg_f]; omega)]
              · have := h3 p q p1 p2 q1 q2 hh
                omega
            · refine ⟨x, w, ?_, h1, h2, by omega, h3⟩
              rw [if_pos (by rw [cv_ge r2'.dz h1.dz, sg_f, sg_f]; omega)]
        obtain ⟨y, w, b1, b2, b3, b4, b5⟩ := best
        rw [b1]
        unfold b_X10_nearest_65 b_X10_nearest_81
        by_cases c4 : Pv a (Qv n m) ≤ G
        · rw [if_pos (by rw [cv_le dp.dz d2.dz, sg_f, sg_f]; omega), nI_1]
          refine near_walk (N := N) hlo hhi hw d0 ha d2 (d - 1) f (n + 1) m y (by omega) (by omega) (by omega) hm (by omega) hm2 (.inr ⟨w, b2, b3, fun p q p1 p2 q1 q2 hh => ?_⟩)
          by_cases c5 : p < n ∨ q < m
          · exact b5 p q p1 p2 q1 q2 c5
          · have ep : p = n := by omega
            subst ep
            refine Nat.le_trans b4 ?_
            unfold F22
            exact dd_down c4 (pv_b (qv_m (by omega) (by omega)))
        · rw [if_neg (by rw [cv_le dp.dz d2.dz, sg_f, sg_f]; omega), nI_1]
          refine near_walk (N := N) hlo hhi hw d0 ha d2 (d - 1) f n (m + 1) y (by omega) (by omega) hn (by omega) hn2 (by omega) (.inr ⟨w, b2, b3, fun p q p1 p2 q1 q2 hh => ?_⟩)
          by_cases c5 : p < n ∨ q < m
          · exact b5 p q p1 p2 q1 q2 c5
          · have eq : q = m := by omega
            subst eq
            refine Nat.le_trans b4 ?_
            unfold F22
            exact dd_up (by omega) (pv_b (qv_n (by omega) (by omega)))
theorem f_nearest {N lo hi a G : Nat} {v0 v2 : UInt64} (hN : 2000 ≤ N) (hlo : 4 ≤ lo) (hhi : hi ≤ 200) (hw : lo ≤ hi) (d0 : Dv v0 false a) (ha : a ≤ 50 * Jvm.FP.Core.one64) (d2 : Dv v2 false G) : ∃ x' w, f_X10_nearest N v0 v2 (nI lo) (nI hi) = some x' ∧ Dv x' false w ∧ IsMin a G lo hi w :=
  near_walk (N := N) hlo hhi hw d0 ha d2 ((hi + 1 - lo) + (hi + 1 - lo)) N lo lo _ (Nat.le_refl _) (by omega) (Nat.le_refl _) (Nat.le_refl _) (by omega) (by omega) (.inl ⟨rfl, rfl, rfl⟩)
/-! findTwo -/
noncomputable def mnv (a G lo hi : Nat) : Nat := by
  classical
  exact if h : ∃ w, IsMin a G lo hi w then h.choose else 0
theorem mnv_eq {a G lo hi w : Nat} (h : IsMin a G lo hi w) : mnv a G lo hi = w := by
  unfold mnv
  have he : ∃ w, IsMin a G lo hi w := ⟨w, h⟩
  rw [dif_pos he]
  exact he.choose_spec.unique h
noncomputable def FM (G lo hi c : Nat) : Nat := mnv (Qv (c / 1000) (c % 1000)) G lo hi
theorem two_in {N lo hi G : Nat} {v1 : UInt64} (hN : 2000 ≤ N) (hlo : 4 ≤ lo) (hhi : hi ≤ 200) (hw : lo ≤ hi) (d1 : Dv v1 false G) {n : Nat} (hn1 : lo ≤ n) (hn2 : n ≤ hi) : ∀ (d f m : Nat) (g : Gs) (x : UInt64), m + d = hi + 1 → d < f → lo ≤ m → BS (S2 lo hi) (FM G lo hi) (1000 * n + m) x (PW g 0) → ∃ (g' : Gs) (x' : UInt64) (f' : Nat), f ≤ f' + d + 1 ∧ (L_X10_findTwo N f).2 g v1 (nI lo) (nI hi) x (nI n) (nI m) = (L_X10_findTwo N f').1 g' v1 (nI lo) (nI hi) x' (nI (n + 1)) ∧ BS (S2 lo hi) (FM G lo hi) (1000 * n + hi + 1) x' (PW g' 0) ∧ Wf 0 g g'
  | _, 0, _, _, _, _, h, _, _ => absurd h (Nat.not_lt_zero _)
  | 0, f + 1, m, g, x, hm, _, _, hB => by
    refine ⟨g, x, f, by omega, ?_, ?_, Wf.refl _ _⟩
    · show h_X10_findTwo_18 N (L_X10_findTwo N f) g v1 (nI lo) (nI hi) x (nI n) (nI m) = _
      unfold h_X10_findTwo_18
      rw [if_pos (nI_lt (by omega) (by omega)), nI_1]
    · rw [show 1000 * n + hi + 1 = 1000 * n + m by omega]; exact hB
  | d + 1, f + 1, m, g, x, hm, hf, hml, hB => by
    obtain ⟨q, q1, q2⟩ := f_quotient (n := n) (m := m) (by omega) (by omega) (by omega)
    obtain ⟨far, w, r1, r2, r3⟩ := f_nearest (N := N) hN hlo hhi hw q2 (qv_le (by omega) (by omega)) d1
    have ec : (1000 * n + m) / 1000 = n := by omega
    have em : (1000 * n + m) % 1000 = m := by omega
    have hF : FM G lo hi (1000 * n + m) = w := by unfold FM; rw [ec, em]; exact mnv_eq r3
    rw [← hF] at r2
    have hS : S2 lo hi (1000 * n + m) := by
      unfold S2
      rw [ec, em]; omega
    have body : (L_X10_findTwo N (f + 1)).2 g v1 (nI lo) (nI hi) x (nI n) (nI m) = (if (Op.cmpValue (FP.dcmp x FP.dconst0) .g) < 0 then (b_X10_findTwo_56 N (L_X10_findTwo N f) g v1 (nI lo) (nI hi) (nI n) (nI m) far) else (if 0 ≤ (Op.cmpValue (FP.dcmp far x) .g) then (b_X10_findTwo_76 N (L_X10_findTwo N f) g v1 (nI lo) (nI hi) x (nI n) (nI m)) else (b_X10_findTwo_56 N (L_X10_findTwo N f) g v1 (nI lo) (nI hi) (nI n) (nI m) far))) := by
      show h_X10_findTwo_18 N (L_X10_findTwo N f) g v1 (nI lo) (nI hi) x (nI n) (nI m) = _
      unfold h_X10_findTwo_18
      rw [if_neg (nI_nlt (by omega) (by omega)), bnd_s q1, bnd_s r1]
    have take : ∃ g1 : Gs, b_X10_findTwo_56 N (L_X10_findTwo N f) g v1 (nI lo) (nI hi) (nI n) (nI m) far = (L_X10_findTwo N f).2 g1 v1 (nI lo) (nI hi) far (nI n) (nI (m + 1)) ∧ PW g1 0 (1000 * n + m) ∧ Wf 0 g g1 := by
      unfold b_X10_findTwo_56 b_X10_findTwo_76
      have k0 : (0 : Int32).toNatClampNeg = 0 := by decide
      have k1 : (1 : Int32).toNatClampNeg = 1 := by decide
      rw [grd_t (show inB (0 : Int32) 4 = true by decide), grd_t (show inB (1 : Int32) 4 = true by decide), nI_1, k0, k1]
      refine ⟨_, rfl, ⟨?_, ?_⟩, ?_, ?_⟩
      · show upd (upd (gIA g 0) 0 (nI n)) 1 (nI m) 0 = _
        rw [pk_un (by omega), pk_us, ec]
      · show upd (upd (gIA g 0) 0 (nI n)) 1 (nI m) 1 = _
        rw [pk_us, em]
      · exact (Fr.sIA (by decide) _ _).trans (Fr.sIA (by decide) _ _)
      · intro i h1 h2
        show upd (upd (gIA g 0) 0 (nI n)) 1 (nI m) i = _
        rw [pk_un h2, pk_un h1]
    rw [body]
    rcases hB.more hS r2 with ⟨hd, hP⟩ | ⟨⟨k1, k2, k3⟩, hP⟩
    · obtain ⟨g1, t1, t2, t3⟩ := take
      have hsel : (if (Op.cmpValue (FP.dcmp x FP.dconst0) .g) < 0 then (b_X10_findTwo_56 N (L_X10_findTwo N f) g v1 (nI lo) (nI hi) (nI n) (nI m) far) else (if 0 ≤ (Op.cmpValue (FP.dcmp far x) .g) then (b_X10_findTwo_76 N (L_X10_findTwo N f) g v1 (nI lo) (nI hi) x (nI n) (nI m)) else (b_X10_findTwo_56 N (L_X10_findTwo N f) g v1 (nI lo) (nI hi) (nI n) (nI m) far))) = b_X10_findTwo_56 N (L_X10_findTwo N f) g v1 (nI lo) (nI hi) (nI n) (nI m) far := by
        rcases hd with hd | ⟨e1, e2, -⟩
        · rw [if_pos (hd _)]
        · rw [if_neg (e1 _), if_neg (e2 _)]
      rw [hsel, t1]
      obtain ⟨g2, x2, f2, u1, u2, u3, u4⟩ := two_in (N := N) hN hlo hhi hw d1 hn1 hn2 d f (m + 1) g1 far (by omega) (by omega) (by omega) (hP _ t2)
      exact ⟨g2, x2, f2, by omega, u2, u3, t3.trans u4⟩
    · rw [if_neg (k1 _), if_pos (k2 _)]
      unfold b_X10_findTwo_76
      rw [nI_1]
      obtain ⟨g2, x2, f2, u1, u2, u3, u4⟩ := two_in (N := N) hN hlo hhi hw d1 hn1 hn2 d f (m + 1) g x (by omega) (by omega) (by omega) hP
      exact ⟨g2, x2, f2, by omega, u2, u3, u4⟩
/-- what findTwo leaves: the first pair whose nearest is the least, and behind it the first of its nearest -/
def TwoW (G lo hi w b c : Nat) (g : Gs) : Prop := FA (S2 lo hi) (FM G lo hi) (1000 * (hi + 1) + lo) (FM G lo hi b) b ∧ FA (S2 lo hi) (F2 (Qv (b / 1000) (b % 1000)) G) (1000 * (hi + 1) + lo) w c ∧ PW g 0 b ∧ PW g 2 c ∧ gI g 1 = 4
theorem two_out {N lo hi G : Nat} {v1 : UInt64} (hN : 2000 ≤ N) (hlo : 4 ≤ lo) (hhi : hi ≤ 200) (hw : lo ≤ hi) (d1 : Dv v1 false G) (hgap : hi - lo ≤ 30) : ∀ (d f n : Nat) (g : Gs) (x : UInt64), n + d = hi + 1 → d * 40 < f → lo ≤ n → BS (S2 lo hi) (FM G lo hi) (1000 * n + lo) x (PW g 0) → ∃ (g' : Gs) (x' : UInt64) (w b c : Nat), (L_X10_findTwo N f).1 g v1 (nI lo) (nI hi) x (nI n) = some (x', g') ∧ Dv x' false w ∧ TwoW G lo hi w b c g' ∧ Fr [0, 1] g g'
  | _, 0, _, _, _, _, h, _, _ => absurd h (Nat.not_lt_zero _)
  | 0, f + 1, n, g, x, hn, _, _, hB => by
    have en : n = hi + 1 := by omega
    rcases hB with ⟨-, q⟩ | ⟨w, b, h1, h2, h3⟩
    · exfalso
      refine q (1000 * lo + lo) ?_ (by omega)
      unfold S2
      omega
    · obtain ⟨s1, s2, s3, s4⟩ := h2.1
      obtain ⟨q, q1, q2⟩ := f_quotient (n := b / 1000) (m := b % 1000) (by omega) (by omega) (by omega)
      obtain ⟨g', x', w', c, p1, p2, p3, p4, p5⟩ := f_findPair (N := N) (g := sI g 1 4) (row := 2) hN hlo hhi hw (by decide) q2 (qv_le (by omega) (by omega)) d1 hgap
      refine ⟨g', x', w', b, c, ?_, p2, ⟨?_, p3, ?_, p4, ?_⟩, ?_⟩
      · show h_X10_findTwo_8 N (L_X10_findTwo N f) g v1 (nI lo) (nI hi) x (nI n) = _
        unfold h_X10_findTwo_8
        have k0 : (0 : Int32).toNatClampNeg = 0 := by decide
        have k1 : (1 : Int32).toNatClampNeg = 1 := by decide
        rw [if_pos (nI_lt (by omega) (by omega)), grd_t (show inB (0 : Int32) 4 = true by decide), grd_t (show inB (1 : Int32) 4 = true by decide), k0, k1, h3.1]
        have h32 : gIA g 0 1 = nI (b % 1000) := h3.2
        rw [h32, bnd_s q1]
        have p1' : f_X10_findPair N (sI g 1 4) q v1 (nI lo) (nI hi) (2 : Int32) = some (x', g') := p1
        rw [bnd_s p1']
      · rw [en] at h2
        have := h2.2.2.1
        rw [this]; exact h2
      · unfold PW at h3 ⊢
        rw [p5.2 0 (by decide) (by decide), p5.2 1 (by decide) (by decide)]
        exact h3
      · have := (p5.1 1 (by decide)).1
        rw [this]; rfl
      · exact (Fr.sI (A := [0, 1]) (by decide) g 4).trans (p5.1.mono (by decide))
  | d + 1, f + 1, n, g, x, hn, hf, hnl, hB => by
    have e1 : (L_X10_findTwo N (f + 1)).1 g v1 (nI lo) (nI hi) x (nI n) = (L_X10_findTwo N f).2 g v1 (nI lo) (nI hi) x (nI n) (nI lo) := by
      show h_X10_findTwo_8 N (L_X10_findTwo N f) g v1 (nI lo) (nI hi) x (nI n) = _
      unfold h_X10_findTwo_8
      rw [if_neg (nI_nlt (by omega) (by omega))]
    obtain ⟨g1, x1, f1, u1, u2, u3, u4⟩ := two_in (N := N) hN hlo hhi hw d1 hnl (by omega) (hi + 1 - lo) f lo g x (by omega) (by omega) (Nat.le_refl _) hB
    obtain ⟨g2, x2, w, b, c, w1, w2, w3, w4⟩ := two_out (N := N) hN hlo hhi hw d1 hgap d f1 (n + 1) g1 x1 (by omega) (by omega) (by omega) (u3.skip (by omega) (s2_gap hhi hw))
    exact ⟨g2, x2, w, b, c, by rw [e1, u2, w1], w2, w3, (u4.1.mono (by decide)).trans w4⟩
theorem f_findTwo {N lo hi G : Nat} {v1 : UInt64} {g : Gs} (hN : 2000 ≤ N) (hlo : 4 ≤ lo) (hhi : hi ≤ 200) (hw : lo ≤ hi) (d1 : Dv v1 false G) (hgap : hi - lo ≤ 30) : ∃ (g' : Gs) (x' : UInt64) (w b c : Nat), f_X10_findTwo N g v1 (nI lo) (nI hi) = some (x', g') ∧ Dv x' false w ∧ TwoW G lo hi w b c g' ∧ Fr [0, 1] g g' := by
  refine two_out (N := N) hN hlo hhi hw d1 hgap (hi + 1 - lo) N lo g _ (by omega) (by omega) (Nat.le_refl _) (.inl ⟨rfl, fun c' h h1 => ?_⟩)
  unfold S2 at h
  omega
