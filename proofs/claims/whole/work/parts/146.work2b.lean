/-! comparisons, least, most and gcd: joins and workTwo -/
theorem cp_rng {s o' : Int32} (h : CP s o') : ¬ o' < (55 : Int32) ∧ ¬ (60 : Int32) < o' ∧ s ≠ 215 ∧ s ≠ 213 ∧ s ≠ 214 ∧ s ≠ 43 ∧ s ≠ 45 ∧ s ≠ 42 ∧ s ≠ 47 ∧ s ≠ 37 := by
  rcases h with ⟨rfl, rfl⟩ | ⟨rfl, rfl⟩ | ⟨rfl, rfl⟩ | ⟨rfl, rfl⟩ | ⟨rfl, rfl⟩ | ⟨rfl, rfl⟩ <;> decide
theorem joins_271 {n : Nat} {g g' : Gs} {T : Nat} {r : Int64} (hT2 : T + 2 ≤ 400) (hg : Sc (sI g 93 (nI (T + 1))) g') : b_X12_joins_271 n g' r = some (1, sLA g' 92 (vp_updL (gLA g' 92) T r)) := by
  unfold b_X12_joins_271
  have e : gI g' 93 - (1 : Int32) = nI T := by
    rw [hg.1 93 (by decide) (by decide)]
    show nI (T + 1) - (1 : Int32) = nI T
    exact nI_pred T
  rw [e, grd_t (inB_nI (by omega) (by decide)), nI_clamp (by omega)]
theorem work_cmp {n : Nat} {g gm g2 : Gs} {T K l r : Nat} {s o' : Int32} (hn : 3000 ≤ n) (hK : K < 8000) (hT : gI g 93 = nI (T + 2)) (hTm : gI gm 4 = nI (T + 2)) (hT2 : T + 2 ≤ 400) (h16 : gIA g 16 K = nI (8 * l + r)) (h15 : gIA g 15 K = s) (hl1 : 1 ≤ l) (hl : l ≤ 7) (hr1 : 1 ≤ r) (hr : r ≤ 7) (hp : CP s o') (ha : VR l (gLA g 92 T) (gLA gm 2 T) (gDA gm 3 T)) (hb : VR r (gLA g 92 (T + 1)) (gLA gm 2 (T + 1)) (gDA gm 3 (T + 1))) (ia : VI l (gLA g 92 T)) (ib : VI r (gLA g 92 (T + 1))) : Out2 g gm T K 0 (f_X12_joins n g (nI K)) (f_X1_workTwo n gm g2 o' (nI l) (nI r) (nI (jn l r))) := by
  obtain ⟨p1, p2, p3, p4, p5, p6, p7, p8, p9, p10⟩ := cp_rng hp
  have ej := joins_ref (n := n) hK hT hT2 h16 h15 hl1 hl hr1 hr
  rw [if_neg p3] at ej
  have jb : 4 ≤ jn l r ∧ l ≤ jn l r ∧ r ≤ jn l r ∧ jn l r ≤ 7 := by unfold jn; omega
  generalize jn l r = t at *
  obtain ⟨A, B, g2', g3, gm1, gm2, e1, e2, e3, e4, e5, e6, e7, i1, i2, e8, e9, e10⟩ := two_ready (n := n) (g := g) (gm := gm) (T := T) (t := t) (by omega) hT2 hl1 jb.2.1 hr1 jb.2.2.1 (by omega) jb.2.2.2 ha hb ia ib (sI g 93 (nI (T + 1)))
  have h4 : gI gm2 4 = nI (T + 2) := by rw [(e10 4 (by decide)).1]; exact hTm
  have ec := cls_two (n := n) (g2 := g2) (o' := o') hTm hT2 e4 e5 h4 jb.2.2.2
  have frm : Fr [2, 3, 4, 5] gm (sI gm2 4 (nI (T + 1))) := (e10.mono (by decide)).trans (Fr.sI (by decide) _ _)
  have jrow : ∀ j, j < T → gLA (sI gm2 4 (nI (T + 1))) 2 j = gLA gm 2 j ∧ gDA (sI gm2 4 (nI (T + 1))) 3 j = gDA gm 3 j := e9
  obtain ⟨c, g4, q1, q2, q3, q4⟩ := holds_eq (n := n) (g := g3) (by omega) hp jb.2.2.2 e6 e7
  have cv : ∀ x : Int64, x = (if c = 0 then 0 else 1) → Out2 g gm T K 0 (f_X12_joins n g (nI K)) (f_X1_workTwo n gm g2 o' (nI l) (nI r) (nI t)) := by
    intro x hx
    left
    obtain ⟨x1, x2, x3, x4, x5⟩ := put_w (x := x) jrow frm
    refine ⟨x, g4, _, ?_, e3.trans q2, ?_, (VR.whole (by decide)).mpr x1.symm, (fun h => absurd h (by decide)), x2.trans rfl, x3.trans e8, x4, x5⟩
    · rw [ej]
      unfold b_X12_joins_129 b_X12_joins_269
      rw [bnd_s e1]
      dsimp only
      rw [bnd_s e2]
      dsimp only
      rw [if_neg p3, if_neg p4, if_neg p5, if_neg p6, if_neg p7, if_neg p8, if_neg p9, if_neg p10, bnd_s q1]
      dsimp only
      rw [joins_271 hT2 (e3.trans q2), joins_271 hT2 (e3.trans q2), hx]
      by_cases c0 : c = 0
      · rw [if_pos c0, if_pos c0]
      · rw [if_neg c0, if_neg c0]
    · rw [ec]
      unfold b_X1_workTwo_62
      rw [if_neg p1, if_neg p2]
      have e118 : ∀ z, f_X1_holds o' z = some c → b_X1_workTwo_118 n (sI gm2 4 (nI (T + 1))) g2 o' (nI T) z = some (sLA (sI gm2 4 (nI (T + 1))) 2 (vp_updL (gLA (sI gm2 4 (nI (T + 1))) 2) T x)) := by
        intro z hz
        unfold b_X1_workTwo_118 b_X1_workTwo_140
        rw [bnd_s hz, hx]
        by_cases c0 : c = 0
        · rw [if_pos c0, if_pos c0, grd_t (inB_nI (by omega) (by decide)), nI_clamp (by omega)]
        · rw [if_neg c0, if_neg c0, grd_t (inB_nI (by omega) (by decide)), nI_clamp (by omega)]
      by_cases h5 : t ≤ 5
      · rw [if_pos h5] at q4
        rw [if_pos h5, if_pos rfl, grd_t (inB_nI (by omega) (by decide)), grd_t (inB_nI (by omega) (by decide)), nI_clamp (by omega), nI_clamp (by omega)]
        obtain ⟨z, z1, z2⟩ := bnd_some q4
        have z1' : f_J13_compare_74951 (gLA (sI gm2 4 (nI (T + 1))) 2 T) (gLA (sI gm2 4 (nI (T + 1))) 2 (T + 1)) = some z := z1
        rw [bnd_s z1']
        exact e118 z z2
      · rw [if_neg h5] at q4
        rw [if_neg h5, if_neg (by decide), grd_t (inB_nI (by omega) (by decide)), grd_t (inB_nI (by omega) (by decide)), nI_clamp (by omega), nI_clamp (by omega)]
        obtain ⟨z, z1, z2⟩ := bnd_some q4
        have z1' : f_X1_orderOf (gDA (sI gm2 4 (nI (T + 1))) 3 T) (gDA (sI gm2 4 (nI (T + 1))) 3 (T + 1)) = some z := z1
        rw [bnd_s z1']
        exact e118 z z2
  exact cv _ rfl
/-- least (m = false) and most -/
theorem work_lm {n : Nat} {g gm g2 : Gs} {T K l r : Nat} (m : Bool) (hn : 3000 ≤ n) (hK : K < 8000) (hT : gI g 93 = nI (T + 2)) (hTm : gI gm 4 = nI (T + 2)) (hT2 : T + 2 ≤ 400) (h16 : gIA g 16 K = nI (8 * l + r)) (h15 : gIA g 15 K = if m = true then 214 else 213) (hl1 : 1 ≤ l) (hl : l ≤ 7) (hr1 : 1 ≤ r) (hr : r ≤ 7) (ha : VR l (gLA g 92 T) (gLA gm 2 T) (gDA gm 3 T)) (hb : VR r (gLA g 92 (T + 1)) (gLA gm 2 (T + 1)) (gDA gm 3 (T + 1))) (ia : VI l (gLA g 92 T)) (ib : VI r (gLA g 92 (T + 1))) : Out2 g gm T K (jn l r) (f_X12_joins n g (nI K)) (f_X1_workTwo n gm g2 (if m = true then 24 else 23) (nI l) (nI r) (nI (jn l r))) := by
  have p1 : (if m = true then (24 : Int32) else 23) < (55 : Int32) := by cases m <;> decide
  have p2 : (if m = true then (214 : Int32) else 213) ≠ 215 := by cases m <;> decide
  have ej := joins_ref (n := n) hK hT hT2 h16 h15 hl1 hl hr1 hr
  rw [if_neg p2] at ej
  have jb : 4 ≤ jn l r ∧ l ≤ jn l r ∧ r ≤ jn l r ∧ jn l r ≤ 7 := by unfold jn; omega
  generalize jn l r = t at *
  obtain ⟨A, B, g2', g3, gm1, gm2, e1, e2, e3, e4, e5, e6, e7, i1, i2, e8, e9, e10⟩ := two_ready (n := n) (g := g) (gm := gm) (T := T) (t := t) (by omega) hT2 hl1 jb.2.1 hr1 jb.2.2.1 (by omega) jb.2.2.2 ha hb ia ib (sI g 93 (nI (T + 1)))
  have h4 : gI gm2 4 = nI (T + 2) := by rw [(e10 4 (by decide)).1]; exact hTm
  have ec := cls_two (n := n) (g2 := g2) (o' := if m = true then (24 : Int32) else 23) hTm hT2 e4 e5 h4 jb.2.2.2
  have frm : Fr [2, 3, 4, 5] gm (sI gm2 4 (nI (T + 1))) := (e10.mono (by decide)).trans (Fr.sI (by decide) _ _)
  have jrow : ∀ j, j < T → gLA (sI gm2 4 (nI (T + 1))) 2 j = gLA gm 2 j ∧ gDA (sI gm2 4 (nI (T + 1))) 3 j = gDA gm 3 j := e9
  have er : f_X12_joins n g (nI K) = bnd (f_X12_ofTwo n g3 (if m = true then 214 else 213) A B (nI t)) (fun q_12 => b_X12_joins_271 n q_12.2 q_12.1) := by
    rw [ej]
    unfold b_X12_joins_129 b_X12_joins_191
    rw [bnd_s e1]
    dsimp only
    rw [bnd_s e2]
    dsimp only
    rw [if_neg p2]
    cases m
    · rw [if_neg (show ¬ false = true by decide), if_pos rfl]
    · rw [if_pos rfl, if_neg (show ¬ (214 : Int32) = 213 by decide), if_pos rfl]
  rw [er, ec]
  unfold b_X1_workTwo_62
  rw [if_pos p1]
  by_cases h5 : t ≤ 5
  · have ht : t = 4 ∨ t = 5 := by omega
    rw [if_pos h5]
    have ea := (VR.whole h5).mp e6
    have eb := (VR.whole h5).mp e7
    left
    have c2 : f_X1_workWholes (sI gm2 4 (nI (T + 1))) (if m = true then 24 else 23) (gLA (sI gm2 4 (nI (T + 1))) 2 T) (gLA (sI gm2 4 (nI (T + 1))) 2 (T + 1)) = some ((if (if A < B then true else false) = m then B else A), sI gm2 4 (nI (T + 1))) := by
      have := minmax_w (gm := sI gm2 4 (nI (T + 1))) m A B
      rw [ea, eb] at this ⊢
      exact this
    have cc := b144_w (n := n) (g2 := g2) (t := t) hT2 ht c2
    have whx : wh t (if (if A < B then true else false) = m then B else A) = (if (if A < B then true else false) = m then B else A) := by
      rcases ht with rfl | rfl
      · by_cases hc : (if A < B then true else false) = m
        · rw [if_pos hc]; exact i2 rfl
        · rw [if_neg hc]; exact i1 rfl
      · exact wh5 _
    rw [whx] at cc
    obtain ⟨x1, x2, x3, x4, x5⟩ := put_w (x := (if (if A < B then true else false) = m then B else A)) jrow frm
    refine ⟨_, g3, _, ?_, e3, cc, (VR.whole h5).mpr x1.symm, ?_, x2.trans rfl, x3.trans e8, x4, x5⟩
    · rw [bnd_s (ofTwo_whole m h5)]
      exact joins_271 hT2 e3
    · intro h
      subst h
      exact whx
  · have ht : t = 6 ∨ t = 7 := by omega
    rw [if_neg h5]
    left
    obtain ⟨x, g', q, c1, c2, c3, c4⟩ := ofTwo_real (n := n) (g := g3) m (by omega) ht e6 e7
    have wr : f_X1_workReals n (sI gm2 4 (nI (T + 1))) g2 (if m = true then 24 else 23) (nI t) (gDA (sI gm2 4 (nI (T + 1))) 3 T) (gDA (sI gm2 4 (nI (T + 1))) 3 (T + 1)) = some (q, sI gm2 4 (nI (T + 1))) := by
      unfold f_X1_workReals b_X1_workReals_26
      cases m
      · rw [if_neg (show ¬ false = true by decide)] at c3 ⊢
        rw [if_neg (by decide), if_neg (by decide), if_pos rfl]
        have c3' : f_X6_leastOf (gDA (sI gm2 4 (nI (T + 1))) 3 T) (gDA (sI gm2 4 (nI (T + 1))) 3 (T + 1)) = some q := c3
        rw [bnd_s c3']
      · rw [if_pos rfl] at c3 ⊢
        rw [if_neg (by decide), if_neg (by decide), if_neg (by decide), if_pos rfl]
        have c3' : f_X6_mostOf (gDA (sI gm2 4 (nI (T + 1))) 3 T) (gDA (sI gm2 4 (nI (T + 1))) 3 (T + 1)) = some q := c3
        rw [bnd_s c3']
    have cc := b144_d (n := n) (g2 := g2) (t := t) hT2 wr
    obtain ⟨x1, x2, x3, x4, x5⟩ := put_d (x := q) jrow frm
    refine ⟨x, g', _, ?_, e3.trans c2, cc, ?_, (fun h => absurd h (by omega)), x2.trans rfl, x3.trans e8, x4, x5⟩
    · rw [bnd_s c1]
      exact joins_271 hT2 (e3.trans c2)
    · rw [x1]; exact c4 _
/-- gcd -/
theorem work_gcd {n : Nat} {g gm g2 : Gs} {T K l r : Nat} (hn : 3000 ≤ n) (hTb : Tb g2) (hK : K < 8000) (hT : gI g 93 = nI (T + 2)) (hTm : gI gm 4 = nI (T + 2)) (hT2 : T + 2 ≤ 400) (h16 : gIA g 16 K = nI (8 * l + r)) (h15 : gIA g 15 K = 215) (hl1 : 1 ≤ l) (hl : l ≤ 7) (hr1 : 1 ≤ r) (hr : r ≤ 7) (ha : VR l (gLA g 92 T) (gLA gm 2 T) (gDA gm 3 T)) (hb : VR r (gLA g 92 (T + 1)) (gLA gm 2 (T + 1)) (gDA gm 3 (T + 1))) (ia : VI l (gLA g 92 T)) (ib : VI r (gLA g 92 (T + 1))) : Out2 g gm T K 7 (f_X12_joins n g (nI K)) (f_X1_workTwo n gm g2 25 (nI l) (nI r) (nI 7)) := by
  have ej := joins_ref (n := n) hK hT hT2 h16 h15 hl1 hl hr1 hr
  rw [if_pos rfl] at ej
  obtain ⟨A, B, g2', g3, gm1, gm2, e1, e2, e3, e4, e5, e6, e7, i1, i2, e8, e9, e10⟩ := two_ready (n := n) (g := g) (gm := gm) (T := T) (t := 7) (by omega) hT2 hl1 hl hr1 hr (by decide) (by decide) ha hb ia ib (sI g 93 (nI (T + 1)))
  have h4 : gI gm2 4 = nI (T + 2) := by rw [(e10 4 (by decide)).1]; exact hTm
  have ec := cls_two (n := n) (g2 := g2) (o' := 25) hTm hT2 e4 e5 h4 (by decide)
  have frm : Fr [2, 3, 4, 5] gm (sI gm2 4 (nI (T + 1))) := (e10.mono (by decide)).trans (Fr.sI (by decide) _ _)
  have jrow : ∀ j, j < T → gLA (sI gm2 4 (nI (T + 1))) 2 j = gLA gm 2 j ∧ gDA (sI gm2 4 (nI (T + 1))) 3 j = gDA gm 3 j := e9
  obtain ⟨xa, s1, u1, dA⟩ := VR.seven.mp e6
  obtain ⟨xb, s2, u2, dB⟩ := VR.seven.mp e7
  obtain ⟨R, g4, r1, r2, r3⟩ := f_common_ref (g := g3) hn (by rw [xa]; exact dA) (by rw [xb]; exact dB)
  obtain ⟨q, q1, q2⟩ := f_gcd_cls hn hTb dA dB
  left
  have wr : f_X1_workReals n (sI gm2 4 (nI (T + 1))) g2 25 (nI 7) (gDA (sI gm2 4 (nI (T + 1))) 3 T) (gDA (sI gm2 4 (nI (T + 1))) 3 (T + 1)) = some (q, sI gm2 4 (nI (T + 1))) := by
    unfold f_X1_workReals b_X1_workReals_26
    rw [if_neg (by decide), if_neg (by decide), if_neg (by decide), if_neg (by decide), if_pos rfl]
    have q1' : f_X6_gcdOf n g2 (gDA (sI gm2 4 (nI (T + 1))) 3 T) (gDA (sI gm2 4 (nI (T + 1))) 3 (T + 1)) = some q := q1
    rw [bnd_s q1']
  have cc := b144_d (n := n) (g2 := g2) (t := 7) hT2 wr
  obtain ⟨x1, x2, x3, x4, x5⟩ := put_d (x := q) jrow frm
  refine ⟨R, g4, _, ?_, e3.trans r2, ?_, ?_, (fun h => absurd h (by decide)), x2.trans rfl, x3.trans e8, x4, x5⟩
  · rw [ej]
    unfold b_X12_joins_129
    rw [bnd_s e1]
    dsimp only
    rw [bnd_s e2]
    dsimp only
    rw [if_pos rfl, bnd_s r1]
    exact joins_271 hT2 (e3.trans r2)
  · rw [ec]
    unfold b_X1_workTwo_62
    rw [if_pos (by decide), if_neg (by decide)]
    exact cc
  · rw [x1]
    exact VR.seven.mpr ⟨r3.inj q2, _, _, q2⟩
