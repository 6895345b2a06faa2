/-! INTs stay in their range -/
theorem wh4_idem (q : Int64) : wh 4 (wh 4 q) = wh 4 q := by
  rw [wh4, wh4, Int32.toInt32_toInt64]
theorem bec_two {n : Nat} {g gm : Gs} {row s t : Nat} {v w : Int64} {d : UInt64} (hn : 65 ≤ n) (hr : row < 512) (hs1 : 1 ≤ s) (hs7 : s ≤ 7) (ht1 : 1 ≤ t) (ht7 : t ≤ 7) (h76 : ¬ (s = 7 ∧ t = 6)) (hw : gLA gm 2 row = w) (hd : gDA gm 3 row = d) (h : VR s v w d) (hi : VI s v) : ∃ r g' gm' w' d', f_X12_become n g v (nI s) (nI t) = some (r, g') ∧ Sc g g' ∧ f_X1_become gm (nI row) (nI s) (nI t) = some gm' ∧ Mr row w' d' gm gm' ∧ gI gm' 5 = gI gm 5 ∧ VR t r w' d' ∧ VI t r := by
  by_cases hst : s = t
  · subst hst
    refine ⟨v, g, gm, w, d, ?_, Sc.refl g, ?_, ⟨hw, hd, fun _ _ => ⟨rfl, rfl⟩, Fr.refl _ _⟩, rfl, h, hi⟩
    · unfold f_X12_become; exact if_pos rfl
    · unfold f_X1_become
      rw [if_neg (nI_pos (by omega)), if_pos rfl]
  · obtain ⟨r, g', b1, b2, b3⟩ := become_val (n := n) (g := g) hn hs1 hs7 ht1 ht7 hst h
    obtain ⟨gm', c1, c2, c3⟩ := cls_become (g := gm) hr hs1 hs7 ht1 ht7 hst hw hd h
    rw [if_neg h76] at c3
    have b3' : VR t r (cb s t w d).1 (cb s t w d).2 := by
      rcases b3 with b3 | ⟨q1, q2, -⟩
      · exact b3
      · exact absurd ⟨q1, q2⟩ h76
    refine ⟨r, g', gm', _, _, b1, b2, c1, c2, c3, b3', ?_⟩
    intro h4
    subst h4
    have e := (VR.whole (by decide)).mp b3'
    rw [e]
    unfold cb
    rw [if_neg (by decide), if_neg (by decide)]
    by_cases c : s ≤ 5
    · rw [if_pos c]; exact wh4_idem _
    · rw [if_neg c, if_neg (by decide)]; exact wh4_idem _
/-- both parts made alike -/
theorem two_ready {n : Nat} {g gm : Gs} {T l r t : Nat} (hn : 65 ≤ n) (hT2 : T + 2 ≤ 400) (hl1 : 1 ≤ l) (hl : l ≤ t) (hr1 : 1 ≤ r) (hr : r ≤ t) (ht1 : 1 ≤ t) (ht7 : t ≤ 7) (ha : VR l (gLA g 92 T) (gLA gm 2 T) (gDA gm 3 T)) (hb : VR r (gLA g 92 (T + 1)) (gLA gm 2 (T + 1)) (gDA gm 3 (T + 1))) (ia : VI l (gLA g 92 T)) (ib : VI r (gLA g 92 (T + 1))) (g1 : Gs) : ∃ A B g2 g3 gm1 gm2, f_X12_become n g1 (gLA g 92 T) (nI l) (nI t) = some (A, g2) ∧ f_X12_become n g2 (gLA g 92 (T + 1)) (nI r) (nI t) = some (B, g3) ∧ Sc g1 g3 ∧ f_X1_become gm (nI T) (nI l) (nI t) = some gm1 ∧ f_X1_become gm1 (nI (T + 1)) (nI r) (nI t) = some gm2 ∧ VR t A (gLA gm2 2 T) (gDA gm2 3 T) ∧ VR t B (gLA gm2 2 (T + 1)) (gDA gm2 3 (T + 1)) ∧ VI t A ∧ VI t B ∧ gI gm2 5 = gI gm 5 ∧ (∀ j, j < T → gLA gm2 2 j = gLA gm 2 j ∧ gDA gm2 3 j = gDA gm 3 j) ∧ Fr [2, 3, 5] gm gm2 := by
  obtain ⟨A, g2, gm1, w1, d1, a1, a2, a3, a4, a5, a6, a7⟩ := bec_two (n := n) (g := g1) (gm := gm) (row := T) (t := t) hn (by omega) hl1 (by omega) ht1 ht7 (by omega) rfl rfl ha ia
  have o1 := a4.2.2.1 (T + 1) (by omega)
  rw [← o1.1, ← o1.2] at hb
  obtain ⟨B, g3, gm2, w2, d2, b1, b2, b3, b4, b5, b6, b7⟩ := bec_two (n := n) (g := g2) (gm := gm1) (row := T + 1) (t := t) hn (by omega) hr1 (by omega) ht1 ht7 (by omega) rfl rfl hb ib
  have o2 := b4.2.2.1 T (by omega)
  refine ⟨A, B, g2, g3, gm1, gm2, a1, b1, a2.trans b2, a3, b3, ?_, ?_, a7, b7, b5.trans a5, ?_, a4.2.2.2.trans b4.2.2.2⟩
  · rw [o2.1, o2.2, a4.1, a4.2.1]; exact a6
  · rw [b4.1, b4.2.1]; exact b6
  · intro j hj
    have x := a4.2.2.1 j (by omega)
    have y := b4.2.2.1 j (by omega)
    exact ⟨y.1.trans x.1, y.2.trans x.2⟩
theorem op_lt {o o' : Int32} (h : OP o o') : o' < (55 : Int32) ∧ o ≠ 215 ∧ o ≠ 213 ∧ o ≠ 214 ∧ (o = 43 ∨ o = 45 ∨ o = 42 ∨ o = 47 ∨ o = 37) := by
  rcases h with ⟨rfl, rfl⟩ | ⟨rfl, rfl⟩ | ⟨rfl, rfl⟩ | ⟨rfl, rfl⟩ | ⟨rfl, rfl⟩ <;> decide
/-- the class's two stacks with one value written -/
theorem put_w {gm gm2 : Gs} {T : Nat} {x : Int64} (hj : ∀ j, j < T → gLA gm2 2 j = gLA gm 2 j ∧ gDA gm2 3 j = gDA gm 3 j) (hf : Fr [2, 3, 4, 5] gm gm2) : gLA (sLA gm2 2 (vp_updL (gLA gm2 2) T x)) 2 T = x ∧ gI (sLA gm2 2 (vp_updL (gLA gm2 2) T x)) 4 = gI gm2 4 ∧ gI (sLA gm2 2 (vp_updL (gLA gm2 2) T x)) 5 = gI gm2 5 ∧ (∀ j, j < T → gLA (sLA gm2 2 (vp_updL (gLA gm2 2) T x)) 2 j = gLA gm 2 j ∧ gDA (sLA gm2 2 (vp_updL (gLA gm2 2) T x)) 3 j = gDA gm 3 j) ∧ Fr [2, 3, 4, 5] gm (sLA gm2 2 (vp_updL (gLA gm2 2) T x)) := by
  refine ⟨pk_uLs, rfl, rfl, fun j h => ⟨?_, (hj j h).2⟩, hf.trans (Fr.sLA (by decide) _ _)⟩
  show vp_updL (gLA gm2 2) T x j = _
  rw [pk_uLn (by omega)]
  exact (hj j h).1
theorem put_d {gm gm2 : Gs} {T : Nat} {x : UInt64} (hj : ∀ j, j < T → gLA gm2 2 j = gLA gm 2 j ∧ gDA gm2 3 j = gDA gm 3 j) (hf : Fr [2, 3, 4, 5] gm gm2) : gDA (sDA gm2 3 (vf_upd (gDA gm2 3) T x)) 3 T = x ∧ gI (sDA gm2 3 (vf_upd (gDA gm2 3) T x)) 4 = gI gm2 4 ∧ gI (sDA gm2 3 (vf_upd (gDA gm2 3) T x)) 5 = gI gm2 5 ∧ (∀ j, j < T → gLA (sDA gm2 3 (vf_upd (gDA gm2 3) T x)) 2 j = gLA gm 2 j ∧ gDA (sDA gm2 3 (vf_upd (gDA gm2 3) T x)) 3 j = gDA gm 3 j) ∧ Fr [2, 3, 4, 5] gm (sDA gm2 3 (vf_upd (gDA gm2 3) T x)) := by
  refine ⟨?_, rfl, rfl, fun j h => ⟨(hj j h).1, ?_⟩, hf.trans (Fr.sDA (by decide) _ _)⟩
  · show vf_upd (gDA gm2 3) T x T = x
    unfold vf_upd; rw [if_pos rfl]
  · show vf_upd (gDA gm2 3) T x j = _
    unfold vf_upd
    rw [if_neg (by omega)]
    exact (hj j h).2
/-- the end of the class's way for what is no comparison -/
theorem b144_w {n : Nat} {gm g2 : Gs} {T t : Nat} {o' : Int32} {q : Int64} {gmq : Gs} (hT : T + 2 ≤ 400) (ht : t = 4 ∨ t = 5) (h : f_X1_workWholes gm o' (gLA gm 2 T) (gLA gm 2 (T + 1)) = some (q, gmq)) : b_X1_workTwo_144 n gm g2 o' (nI t) (nI T) (nI (T + 1)) 0 = some (sLA gmq 2 (vp_updL (gLA gmq 2) T (wh t q))) := by
  unfold b_X1_workTwo_144 b_X1_workTwo_222
  rw [if_pos rfl, grd_t (inB_nI (by omega) (by decide)), grd_t (inB_nI (by omega) (by decide)), nI_clamp (by omega), nI_clamp (by omega), bnd_s h]
  rcases ht with rfl | rfl
  · rw [if_pos (show nI 4 = (4 : Int32) from rfl), grd_t (inB_nI (by omega) (by decide))]; rfl
  · rw [if_neg (by decide), grd_t (inB_nI (by omega) (by decide))]; rfl
theorem b144_d {n : Nat} {gm g2 : Gs} {T t : Nat} {o' : Int32} {q : UInt64} {gmq : Gs} (hT : T + 2 ≤ 400) (h : f_X1_workReals n gm g2 o' (nI t) (gDA gm 3 T) (gDA gm 3 (T + 1)) = some (q, gmq)) : b_X1_workTwo_144 n gm g2 o' (nI t) (nI T) (nI (T + 1)) 1 = some (sDA gmq 3 (vf_upd (gDA gmq 3) T q)) := by
  unfold b_X1_workTwo_144
  rw [if_neg (by decide), grd_t (inB_nI (by omega) (by decide)), grd_t (inB_nI (by omega) (by decide)), nI_clamp (by omega), nI_clamp (by omega), bnd_s h, grd_t (inB_nI (by omega) (by decide))]
/-- + - * / % -/
theorem work_op {n : Nat} {g gm g2 : Gs} {T K l r : Nat} {o o' : Int32} (hn : 3000 ≤ n) (hTb : Tb g2) (hK : K < 8000) (hT : gI g 93 = nI (T + 2)) (hTm : gI gm 4 = nI (T + 2)) (hT2 : T + 2 ≤ 400) (h16 : gIA g 16 K = nI (8 * l + r)) (h15 : gIA g 15 K = o) (hl1 : 1 ≤ l) (hl : l ≤ 7) (hr1 : 1 ≤ r) (hr : r ≤ 7) (hp : OP o o') (ha : VR l (gLA g 92 T) (gLA gm 2 T) (gDA gm 3 T)) (hb : VR r (gLA g 92 (T + 1)) (gLA gm 2 (T + 1)) (gDA gm 3 (T + 1))) (ia : VI l (gLA g 92 T)) (ib : VI r (gLA g 92 (T + 1))) : Out2 g gm T K (jn l r) (f_X12_joins n g (nI K)) (f_X1_workTwo n gm g2 o' (nI l) (nI r) (nI (jn l r))) := by
  obtain ⟨p1, p2, p3, p4, p5⟩ := op_lt hp
  have ej := joins_ref (n := n) hK hT hT2 h16 h15 hl1 hl hr1 hr
  rw [if_neg p2] at ej
  have jb : 4 ≤ jn l r ∧ l ≤ jn l r ∧ r ≤ jn l r ∧ jn l r ≤ 7 := by unfold jn; omega
  generalize jn l r = t at *
  obtain ⟨A, B, g2', g3, gm1, gm2, e1, e2, e3, e4, e5, e6, e7, i1, i2, e8, e9, e10⟩ := two_ready (n := n) (g := g) (gm := gm) (T := T) (t := t) (by omega) hT2 hl1 jb.2.1 hr1 jb.2.2.1 (by omega) jb.2.2.2 ha hb ia ib (sI g 93 (nI (T + 1)))
  have h4 : gI gm2 4 = nI (T + 2) := by rw [(e10 4 (by decide)).1]; exact hTm
  have ec := cls_two (n := n) (g2 := g2) (o' := o') hTm hT2 e4 e5 h4 jb.2.2.2
  have hT3 : gI g3 93 = nI (T + 1) := by rw [e3.1 93 (by decide) (by decide)]; rfl
  have f17 : gIA g3 17 K = gIA g 17 K := by rw [e3.2.2.2.1]; rfl
  have frm : Fr [2, 3, 4, 5] gm (sI gm2 4 (nI (T + 1))) := (e10.mono (by decide)).trans (Fr.sI (by decide) _ _)
  have jrow : ∀ j, j < T → gLA (sI gm2 4 (nI (T + 1))) 2 j = gLA gm 2 j ∧ gDA (sI gm2 4 (nI (T + 1))) 3 j = gDA gm 3 j := e9
  -- the reference's way to counts
  have er : f_X12_joins n g (nI K) = bnd (f_X12_counts n g3 (nI K) o A B (nI t)) (fun q_15 => grd (zB q_15.1) (some (q_15.1, q_15.2))) := by
    rw [ej]
    unfold b_X12_joins_129 b_X12_joins_237
    rw [bnd_s e1]
    dsimp only
    rw [bnd_s e2]
    dsimp only
    rw [if_neg p2, if_neg p3, if_neg p4]
    rcases p5 with rfl | rfl | rfl | rfl | rfl
    · rw [if_pos rfl]
    · rw [if_neg (show ¬ (45 : Int32) = 43 by decide), if_pos rfl]
    · rw [if_neg (show ¬ (42 : Int32) = 43 by decide), if_neg (show ¬ (42 : Int32) = 45 by decide), if_pos rfl]
    · rw [if_neg (show ¬ (47 : Int32) = 43 by decide), if_neg (show ¬ (47 : Int32) = 45 by decide), if_neg (show ¬ (47 : Int32) = 42 by decide), if_pos rfl]
    · rw [if_neg (show ¬ (37 : Int32) = 43 by decide), if_neg (show ¬ (37 : Int32) = 45 by decide), if_neg (show ¬ (37 : Int32) = 42 by decide), if_neg (show ¬ (37 : Int32) = 47 by decide), if_pos rfl]
  rw [er, ec]
  unfold b_X1_workTwo_62
  rw [if_pos p1]
  by_cases h5 : t ≤ 5
  · have ht : t = 4 ∨ t = 5 := by omega
    rw [if_pos h5]
    have ea := (VR.whole h5).mp e6
    have eb := (VR.whole h5).mp e7
    rcases counts_w (n := n) (g := g3) (gm := sI gm2 4 (nI (T + 1))) (K := K) (T := T) (t := t) (a := A) (b := B) hK hT3 (by omega) hp ht with ⟨q, c1, c2⟩ | ⟨c1, c2⟩
    · left
      rw [ea, eb] at c2
      have cc := b144_w (n := n) (g2 := g2) (t := t) hT2 ht c2
      obtain ⟨x1, x2, x3, x4, x5⟩ := put_w (x := wh t q) jrow frm
      refine ⟨wh t q, g3, _, ?_, e3, cc, (VR.whole h5).mpr x1.symm, (fun h => by subst h; exact wh4_idem q), x2.trans rfl, x3.trans e8, x4, x5⟩
      rw [bnd_s c1]; rfl
    · right
      rw [ea, eb] at c2
      have cc := b144_w (n := n) (g2 := g2) (t := t) hT2 ht c2
      refine ⟨1, g3, _, by decide, ?_, e3, cc, rfl, (frm.trans (Fr.sI (by decide) _ _)).trans (Fr.sLA (by decide) _ _)⟩
      rw [bnd_s c1, f17]; rfl
  · have ht : t = 6 ∨ t = 7 := by omega
    rw [if_neg h5]
    rcases counts_r (n := n) (g := g3) (gm := sI gm2 4 (nI (T + 1))) (g2 := g2) (K := K) (T := T) (t := t) hn hTb hK hT3 (by omega) hp ht e6 e7 with ⟨x, g', q, c1, c2, c3, c4⟩ | ⟨kind, g', q, c0, c1, c2, c3⟩
    · left
      have cc := b144_d (n := n) (g2 := g2) (t := t) hT2 c3
      obtain ⟨x1, x2, x3, x4, x5⟩ := put_d (x := q) jrow frm
      refine ⟨x, g', _, ?_, e3.trans c2, cc, ?_, (fun h => absurd h (by omega)), x2.trans rfl, x3.trans e8, x4, x5⟩
      · rw [bnd_s c1]; rfl
      · rw [x1]; exact c4 _
    · right
      have cc := b144_d (n := n) (g2 := g2) (t := t) hT2 c3
      refine ⟨kind, g', _, c0, ?_, e3.trans c2, cc, rfl, (frm.trans (Fr.sI (by decide) _ _)).trans (Fr.sDA (by decide) _ _)⟩
      rw [bnd_s c1, f17]; rfl
