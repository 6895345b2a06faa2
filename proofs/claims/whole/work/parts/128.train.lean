/-! train and wheel agree -/
def Wr (g gw : Gs) : Prop := ∃ k : Nat, k ≤ 4 ∧ gI g 101 = nI k ∧ gI gw 1 = nI k ∧ ∀ i, i < k → gIA g 102 i = gIA gw 0 i
theorem wheel_eq {g gT gw : Gs} {x : Int32} (h : Wr g gw) : ∃ r, f_X11_wheel gT gw x = some r ∧ f_X12_wheel g x = some r := by
  obtain ⟨k, h1, h2, h3, h4⟩ := h
  unfold f_X11_wheel f_X12_wheel
  by_cases c1 : x < 0
  · rw [if_pos c1, if_pos c1]; exact ⟨_, rfl, rfl⟩
  · obtain ⟨j, hj, rfl⟩ := nI_of c1
    rw [if_neg c1, if_neg c1, h2, h3]
    by_cases c2 : j < k
    · rw [if_neg (nI_ge c2 (by omega)), if_pos (nI_lt c2 (by omega)), grd_t (inB_nI (N := 4) (by omega) (by decide)), grd_t (inB_nI (N := 4) (by omega) (by decide)), nI_clamp hj, h4 j c2]
      exact ⟨_, rfl, rfl⟩
    · rw [if_pos (nI_le (by omega) hj), if_neg (nI_nlt (by omega) hj)]
      exact ⟨_, rfl, rfl⟩
/-- the wheels are set to 0 first -/
theorem tr_zero {N : Nat} {v3 v4 v5 v10 : Int32} {v6 v8 : UInt64} : ∀ (d f k : Nat) (g : Gs), k + d = 4 → d < f → ∃ (g' : Gs) (f' : Nat), f ≤ f' + d + 1 ∧ (L_X12_train N f).1 g v3 v4 v5 v6 v8 v10 (nI k) = (L_X12_train N f').2.1 g' v3 v4 v5 v6 v8 v10 v4 ∧ Fr [102] g g'
  | _, 0, _, _, _, h => absurd h (Nat.not_lt_zero _)
  | 0, f + 1, k, g, hk, _ => by
    refine ⟨g, f, by omega, ?_, Fr.refl _ _⟩
    show h_X12_train_87 N (L_X12_train N f) g v3 v4 v5 v6 v8 v10 (nI k) = _
    unfold h_X12_train_87
    rw [show k = 4 by omega, if_pos (by decide)]
  | d + 1, f + 1, k, g, hk, hf => by
    obtain ⟨g', f', h1, h2, h3⟩ := tr_zero (N := N) (v3 := v3) (v4 := v4) (v5 := v5) (v6 := v6) (v8 := v8) (v10 := v10) d f (k + 1) (sIA g 102 (upd (gIA g 102) k 0)) (by omega) (by omega)
    refine ⟨g', f', by omega, ?_, (Fr.sIA (by decide) _ _).trans h3⟩
    show h_X12_train_87 N (L_X12_train N f) g v3 v4 v5 v6 v8 v10 (nI k) = _
    unfold h_X12_train_87
    rw [if_neg (show ¬ (4 : Int32) ≤ nI k from nI_ge (b := 4) (by omega) (by decide)), grd_t (inB_nI (N := 4) (by omega) (by decide)), nI_clamp (by omega), nI_1]
    exact h2
theorem ref_train {N s lo hi la G : Nat} {v6 : UInt64} {g : Gs} (hN : 2000000 ≤ N) (hs : s = 1 ∨ s = 2) (hlo : 4 ≤ lo) (hhi : hi ≤ 200) (hla : la ≤ 200) (hll : lo ≤ la) (hgap : la - lo ≤ 30) (hlh : lo ≤ hi) (hgap2 : hi - lo ≤ 30) (d6 : Dv v6 false G) : ∃ (g' : Gs) (v8' : UInt64) (w b : Nat), b_X12_train_75 N (L_X12_train N N) g (nI s) (nI lo) (nI hi) v6 (13830554455654793216 : UInt64) (nI la) = some (v8'.toInt64, g') ∧ Dv v8' false w ∧ FA (S4 lo hi la) (F4 s G) (cd4 (hi + 1) lo lo lo) w b ∧ PW4 s g' b ∧ gI g' 101 = nI (2 * s) ∧ Fr [101, 102] g g' := by
  unfold b_X12_train_75
  have e0 : (2 : Int32) * nI s = nI (2 * s) := pk_mul 2 s
  rw [e0]
  obtain ⟨g1, f1, a1, a2, a3⟩ := tr_zero (N := N) (v3 := nI s) (v4 := nI lo) (v5 := nI hi) (v6 := v6) (v8 := (13830554455654793216 : UInt64)) (v10 := nI la) 4 N 0 (sI g 101 (nI (2 * s))) (by decide) (by omega)
  have cl := cn_le (d := hi + 1 - lo) (by omega)
  obtain ⟨g2, v8, w, b, b1, b2, b3, b4, b5⟩ := tr_n (N := N) (s := s) (la := la) hs hlo hhi hla hll hgap hlh hgap2 d6 (hi + 1 - lo) f1 lo g1 (13830554455654793216 : UInt64) (by omega) (by omega) (Nat.le_refl _) (by
    refine .inl ⟨rfl, fun c' h h1 => ?_⟩
    unfold S4 at h
    unfold cd4 at h1
    omega)
  rw [show (0 : Int32) = nI 0 from rfl, a2]
  refine ⟨g2, v8, w, b, b1, b2, b3, b4, ?_, ?_⟩
  · rw [(b5 101 (by decide)).1, (a3 101 (by decide)).1]; rfl
  · exact ((Fr.sI (A := [101, 102]) (by decide) g _).trans (a3.mono (by decide))).trans (b5.mono (by decide))
/-- one stage: pairs as quadruples -/
theorem one_stage {lo hi G w b w' b' : Nat} {a : Nat} (hlo : 4 ≤ lo) (hhi : hi ≤ 200) (hlh : lo ≤ hi) (ha : ∀ x, Pv a x = x ∨ True) (hF : ∀ n m, lo ≤ n → n ≤ hi → lo ≤ m → m ≤ hi → Pv a (Qv n m) = Qv n m) (h : FA (S2 lo hi) (F2 a G) (1000 * (hi + 1) + lo) w b) (h' : FA (S4 lo hi lo) (F4 1 G) (cd4 (hi + 1) lo lo lo) w' b') : w = w' ∧ b / 1000 = b' / 1000 / 1000 / 1000 ∧ b % 1000 = b' / 1000 / 1000 % 1000 := by
  obtain ⟨h1, h2, h3, h4⟩ := h
  unfold S2 at h1
  have key : FA (S4 lo hi lo) (F4 1 G) (cd4 (hi + 1) lo lo lo) w (cd4 (b / 1000) (b % 1000) lo lo) := by
    have Fe : ∀ n m x y, lo ≤ n → n ≤ hi → lo ≤ m → m ≤ hi → F4v 1 G n m x y = F2 a G (1000 * n + m) := by
      intro n m x y n1 n2 m1 m2
      unfold F4v F2
      rw [if_neg (show ¬ (1 : Nat) = 2 by decide), show (1000 * n + m) / 1000 = n by omega, show (1000 * n + m) % 1000 = m by omega, hF n m n1 n2 m1 m2]
    refine ⟨?_, ?_, ?_, ?_⟩
    · unfold S4
      rw [cd4_y (by omega), cd4_x (by omega) (by omega), cd4_m (by omega) (by omega) (by omega), cd4_n (by omega) (by omega) (by omega)]
      omega
    · unfold cd4; omega
    · unfold F4
      rw [cd4_y (by omega), cd4_x (by omega) (by omega), cd4_m (by omega) (by omega) (by omega), cd4_n (by omega) (by omega) (by omega), Fe _ _ _ _ h1.1 h1.2.1 h1.2.2.1 h1.2.2.2, show 1000 * (b / 1000) + b % 1000 = b by omega]
      exact h3
    · intro c' hs hl
      unfold S4 at hs
      have e1 := h4 (1000 * (c' / 1000 / 1000 / 1000) + c' / 1000 / 1000 % 1000) (by unfold S2; omega) (by omega)
      unfold F4
      rw [Fe _ _ _ _ hs.1.1 hs.1.2 hs.2.1.1 hs.2.1.2]
      refine ⟨e1.1, fun hlt => e1.2 ?_⟩
      unfold cd4 at hlt
      omega
  obtain ⟨u1, u2⟩ := key.unique h'
  refine ⟨u1, ?_, ?_⟩
  · rw [← u2, cd4_n (by omega) (by omega) (by omega)]
  · rw [← u2, cd4_m (by omega) (by omega) (by omega)]
/-- two stages -/
theorem two_stage {lo hi G w b c w' b' : Nat} {g : Gs} (hlo : 4 ≤ lo) (hhi : hi ≤ 200) (hlh : lo ≤ hi) (hmin : ∀ n m, lo ≤ n → n ≤ hi → lo ≤ m → m ≤ hi → ∃ w, IsMin (Qv n m) G lo hi w) (h : TwoW G lo hi w b c g) (h' : FA (S4 lo hi hi) (F4 2 G) (cd4 (hi + 1) lo lo lo) w' b') : w = w' ∧ b / 1000 = b' / 1000 / 1000 / 1000 ∧ b % 1000 = b' / 1000 / 1000 % 1000 ∧ c / 1000 = b' / 1000 % 1000 ∧ c % 1000 = b' % 1000 := by
  obtain ⟨⟨p1, p2, p3, p4⟩, ⟨q1, q2, q3, q4⟩, -, -, -⟩ := h
  unfold S2 at p1 q1
  -- the least behind the first pair is w
  have mb : IsMin (Qv (b / 1000) (b % 1000)) G lo hi w := by
    refine ⟨⟨c / 1000, c % 1000, q1.1, q1.2.1, q1.2.2.1, q1.2.2.2, q3⟩, fun x y x1 x2 y1 y2 => ?_⟩
    have e := (q4 (1000 * x + y) (by unfold S2; omega) (by omega)).1
    unfold F2 at e
    rw [show (1000 * x + y) / 1000 = x by omega, show (1000 * x + y) % 1000 = y by omega] at e
    exact e
  have eb : FM G lo hi b = w := mnv_eq mb
  rw [eb] at p4
  have key : FA (S4 lo hi hi) (F4 2 G) (cd4 (hi + 1) lo lo lo) w (cd4 (b / 1000) (b % 1000) (c / 1000) (c % 1000)) := by
    have Fe : ∀ n m x y, F4v 2 G n m x y = F22 (Qv n m) G x y := by
      intro n m x y
      unfold F4v F22
      rw [if_pos rfl]
    refine ⟨?_, ?_, ?_, ?_⟩
    · unfold S4
      rw [cd4_y (by omega), cd4_x (by omega) (by omega), cd4_m (by omega) (by omega) (by omega), cd4_n (by omega) (by omega) (by omega)]
      omega
    · unfold cd4; omega
    · unfold F4
      rw [cd4_y (by omega), cd4_x (by omega) (by omega), cd4_m (by omega) (by omega) (by omega), cd4_n (by omega) (by omega) (by omega), Fe]
      exact q3
    · intro c' hs hl
      unfold S4 at hs
      unfold F4
      rw [Fe]
      generalize hn : c' / 1000 / 1000 / 1000 = n at hs ⊢
      generalize hm : c' / 1000 / 1000 % 1000 = m at hs ⊢
      generalize hx : c' / 1000 % 1000 = x at hs ⊢
      generalize hy : c' % 1000 = y at hs ⊢
      obtain ⟨w2, hw2⟩ := hmin n m hs.1.1 hs.1.2 hs.2.1.1 hs.2.1.2
      have e1 := p4 (1000 * n + m) (by unfold S2; omega) (by omega)
      have em : FM G lo hi (1000 * n + m) = w2 := by
        unfold FM
        rw [show (1000 * n + m) / 1000 = n by omega, show (1000 * n + m) % 1000 = m by omega]
        exact mnv_eq hw2
      rw [em] at e1
      have e2 := hw2.2 x y hs.2.2.1.1 hs.2.2.1.2 hs.2.2.2.1 hs.2.2.2.2
      refine ⟨by omega, fun hlt => ?_⟩
      unfold cd4 at hlt
      by_cases c1 : 1000 * n + m < b
      · have := e1.2 c1
        omega
      · have eq1 : n = b / 1000 ∧ m = b % 1000 := by omega
        obtain ⟨rfl, rfl⟩ := eq1
        have e3 := (q4 (1000 * x + y) (by unfold S2; omega) (by omega)).2 (by omega)
        unfold F2 at e3
        rw [show (1000 * x + y) / 1000 = x by omega, show (1000 * x + y) % 1000 = y by omega] at e3
        exact e3
  obtain ⟨u1, u2⟩ := key.unique h'
  refine ⟨u1, ?_, ?_, ?_, ?_⟩
  · rw [← u2, cd4_n (by omega) (by omega) (by omega)]
  · rw [← u2, cd4_m (by omega) (by omega) (by omega)]
  · rw [← u2, cd4_x (by omega) (by omega)]
  · rw [← u2, cd4_y (by omega)]
theorem pv_one {a : UInt64} {u : Nat} (h : Dv a false u) : Pv Jvm.FP.Core.one64 u = u := by
  have e : FP.dmul FP.dconst1 a = a := Jvm.FP.Core.one_dmul h.fin.notNaN
  have v := val_prod dv_one h
  rw [e] at v
  have z := h.zmag
  rw [v] at z
  exact z
theorem train_eq {n : Nat} {g gT gw g2 : Gs} {x : Int64} {s lo hi : Int32} (hn : 2000000 ≤ n) (hT : Tb g2) (hW : Wr g gw) : ∃ r g' gw', f_X11_train n gT g2 gw x s lo hi = some (r, gw') ∧ f_X12_train n g x s lo hi = some (r, g') ∧ Wr g' gw' ∧ Fr [101, 102] g g' ∧ Fr [0, 1] gw gw' := by
  unfold f_X11_train f_X12_train
  rw [bnd_s (isAbove11 x), bnd_s (isAbove12 x), sgB_if, sgB_if]
  have none : ∃ r g' gw', some ((-1 : Int64), gw) = some (r, gw') ∧ some ((-1 : Int64), g) = some (r, g') ∧ Wr g' gw' ∧ Fr [101, 102] g g' ∧ Fr [0, 1] gw gw' := ⟨-1, g, gw, rfl, rfl, hW, Fr.refl _ _, Fr.refl _ _⟩
  by_cases hx : (decide (¬ x ≤ 0) && fin64 x) = true
  · rw [if_pos hx, if_pos hx]
    by_cases c1 : s < (1 : Int32)
    · rw [if_pos c1, if_pos c1]; exact none
    · rw [if_neg c1, if_neg c1]
      have c0 : ¬ s < 0 := fun z => c1 (Int32.lt_trans z (by decide))
      by_cases c2 : s ≤ (2 : Int32)
      · obtain ⟨sN, hs2, rfl⟩ := nI_of2 (M := 2) (n := 2) (by decide) c0 c2
        have hs : sN = 1 ∨ sN = 2 := by
          have : ¬ sN = 0 := fun z => c1 (by rw [z]; decide)
          omega
        rw [if_pos c2, if_neg (show ¬ (2 : Int32) < nI sN from nI_nlt (a := 2) (by omega) (by decide))]
        by_cases c3 : lo < (4 : Int32)
        · rw [if_pos c3, if_pos c3]; exact none
        · rw [if_neg c3, if_neg c3]
          have l0 : ¬ lo < 0 := fun z => c3 (Int32.lt_trans z (by decide))
          obtain ⟨L, hL, rfl⟩ := nI_of l0
          have hL4 : 4 ≤ L := Nat.le_of_not_lt (fun z => c3 (nI_lt (b := 4) z (by decide)))
          by_cases c4 : hi < nI L
          · rw [if_pos c4, if_pos c4]
            by_cases c5 : (200 : Int32) < hi
            · rw [if_pos c5]; exact none
            · rw [if_neg c5]; exact none
          · rw [if_neg c4, if_neg c4]
            by_cases c5 : (200 : Int32) < hi
            · rw [if_pos c5, if_pos c5]; exact none
            · rw [if_neg c5, if_neg c5]
              have h0 : ¬ hi < 0 := fun z => c4 (Int32.lt_of_lt_of_le z (nI_pos' hL))
              obtain ⟨H, hH, rfl⟩ := nI_of h0
              have hH2 : H ≤ 200 := Nat.le_of_not_lt (fun z => c5 (nI_lt (a := 200) z hH))
              have hLH : L ≤ H := Nat.le_of_not_lt (fun z => c4 (nI_lt z hL))
              rw [pk_sub hLH]
              by_cases c6 : nI (H - L) ≤ (30 : Int32)
              · rw [if_pos c6, if_pos c6]
                have hgap : H - L ≤ 30 := (nI_leI (b := 30) (by omega) (by decide)).mp c6
                obtain ⟨u, hu, dx⟩ := above_dv hx
                rw [bnd_s (f_realOf hT dx), grd_t (nsnB_of dx.ne_nan)]
                rcases hs with rfl | rfl
                · rw [if_pos (show nI 1 = (1 : Int32) from rfl), if_neg (show ¬ nI 1 = (2 : Int32) by decide)]
                  obtain ⟨g', v8, w', b', r1, r2, r3, r4, r5, r6⟩ := ref_train (N := n) (s := 1) (la := L) (g := g) hn (.inl rfl) hL4 hH2 (by omega) (Nat.le_refl _) (by omega) hLH hgap dx
                  obtain ⟨gw', x', w, b, p1, p2, p3, p4, p5⟩ := f_findPair (N := n) (g := sI gw 1 2) (row := 0) (by omega) hL4 hH2 hLH (by decide) dv_one (Nat.le_mul_of_pos_left _ (by decide)) dx hgap
                  obtain ⟨e1, e2, e3⟩ := one_stage hL4 hH2 hLH (fun _ => .inr trivial) (fun n' m' n1 n2 m1 m2 => pv_one (dv_quot (n := n') (m := m') (by omega) (by omega) (by omega))) p3 r3
                  subst e1
                  have ex : x' = v8 := p2.inj r2
                  have p1' : f_X10_findOne n gw x.toUInt64 (nI L) (nI H) = some (x', gw') := by
                    unfold f_X10_findOne
                    have p1'' : f_X10_findPair n (sI gw 1 (2 : Int32)) FP.dconst1 x.toUInt64 (nI L) (nI H) (0 : Int32) = some (x', gw') := p1
                    rw [bnd_s p1'']
                  rw [bnd_s p1']
                  unfold b_X11_train_106
                  dsimp only
                  rw [bnd_s (f_bits (by omega) hT p2), r1]
                  refine ⟨_, g', gw', rfl, by rw [ex], ⟨2, by decide, r5, ?_, ?_⟩, r6, ?_⟩
                  · rw [(p5.1 1 (by decide)).1]; rfl
                  · intro i hi2
                    obtain ⟨t0, t1, -, -⟩ := r4
                    obtain ⟨s0, s1⟩ := p4
                    have hi' : i = 0 ∨ i = 1 := by omega
                    rcases hi' with rfl | rfl
                    · rw [t0, s0, e2]
                    · have s1' : gIA gw' 0 1 = nI (b % 1000) := s1
                      rw [t1, s1', e3]
                  · exact (Fr.sI (A := [0, 1]) (by decide) gw 2).trans (p5.1.mono (by decide))
                · rw [if_neg (show ¬ nI 2 = (1 : Int32) by decide), if_pos (show nI 2 = (2 : Int32) from rfl)]
                  obtain ⟨g', v8, w', b', r1, r2, r3, r4, r5, r6⟩ := ref_train (N := n) (s := 2) (la := H) (g := g) hn (.inr rfl) hL4 hH2 hH2 hLH hgap hLH hgap dx
                  obtain ⟨gw', x', w, b, c, p1, p2, p3, p4⟩ := f_findTwo (N := n) (g := gw) (by omega) hL4 hH2 hLH dx hgap
                  obtain ⟨e1, e2, e3, e4, e5⟩ := two_stage hL4 hH2 hLH (fun n' m' n1 n2 m1 m2 => by
                    obtain ⟨-, w0, -, -, q⟩ := f_nearest (N := n) (by omega) hL4 hH2 hLH (dv_quot (n := n') (m := m') (by omega) (by omega) (by omega)) (qv_le (by omega) (by omega)) dx
                    exact ⟨w0, q⟩) p3 r3
                  subst e1
                  have ex : x' = v8 := p2.inj r2
                  rw [bnd_s p1]
                  unfold b_X11_train_106
                  dsimp only
                  rw [bnd_s (f_bits (by omega) hT p2), r1]
                  obtain ⟨-, -, w1, w2, w3⟩ := p3
                  refine ⟨_, g', gw', rfl, by rw [ex], ⟨4, by decide, r5, w3, ?_⟩, r6, p4⟩
                  intro i hi4
                  obtain ⟨t0, t1, t2, t3⟩ := r4
                  obtain ⟨s0, s1⟩ := w1
                  obtain ⟨s2, s3⟩ := w2
                  rw [if_pos rfl] at t2 t3
                  have hi' : i = 0 ∨ i = 1 ∨ i = 2 ∨ i = 3 := by omega
                  rcases hi' with rfl | rfl | rfl | rfl
                  · rw [t0, s0, e2]
                  · have s1' : gIA gw' 0 1 = nI (b % 1000) := s1
                    rw [t1, s1', e3]
                  · rw [t2, s2, e4]
                  · have s3' : gIA gw' 0 3 = nI (c % 1000) := s3
                    rw [t3, s3', e5]
              · rw [if_neg c6, if_neg c6]; exact none
      · rw [if_neg c2]
        by_cases c2' : (2 : Int32) < s
        · rw [if_pos c2']; exact none
        · exact absurd (Int32.not_lt.mp c2') c2
  · rw [if_neg hx, if_neg hx]; exact none
