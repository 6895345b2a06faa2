/-! works of one part: done and workOne -/
theorem out_403 {n K T t : Nat} {g gm g' gm' : Gs} {x w : Int64} {d : UInt64} (hT : gI g 93 = nI (T + 1)) (hT2 : T + 1 ≤ 400) (hTm : gI gm 4 = nI (T + 1)) (hs : Sc g g') (hm : Mr T w d gm gm') (h5 : gI gm' 5 = gI gm 5) (hv : VR t x w d) (hi : VI t x) : Out g gm T K t (b_X12_done_403 n g' x) (some gm') := by
  have e1 : gI g' 93 - (1 : Int32) = nI T := by rw [hs.1 93 (by decide) (by decide), hT]; exact nI_pred T
  have eL : gLA g' 92 = gLA g 92 := congrFun hs.2.2.2.2.1 92
  have er : b_X12_done_403 n g' x = some (1, sLA g' 92 (vp_updL (gLA g' 92) T x)) := by
    unfold b_X12_done_403
    rw [e1, grd_t (inB_nI (by omega) (by decide)), nI_clamp (by omega)]
  have e92 : gLA (sLA g' 92 (vp_updL (gLA g' 92) T x)) 92 T = x := pk_uLs
  left
  refine ⟨_, gm', er, rfl, (hs.fr.mono (by decide)).trans (Fr.sLA (by decide) _ _), hm.2.2.2.mono (by decide), ?_, ?_, ?_, fun j hj => hm.2.2.1 j (by omega), ?_, ?_, h5⟩
  · show gI g' 93 = _
    rw [hs.1 93 (by decide) (by decide)]; exact hT
  · rw [(hm.2.2.2 4 (by decide)).1]; exact hTm
  · intro j hj
    show vp_updL (gLA g' 92) T x j = _
    rw [pk_uLn (by omega), eL]
  · rw [e92, hm.1, hm.2.1]; exact hv
  · rw [e92]; exact hi
theorem Mr.refl {row : Nat} {g : Gs} : Mr row (gLA g 2 row) (gDA g 3 row) g g := ⟨rfl, rfl, fun _ _ => ⟨rfl, rfl⟩, Fr.refl _ _⟩
theorem Mr.trans {row : Nat} {w w' : Int64} {d d' : UInt64} {a b c : Gs} (h : Mr row w d a b) (h' : Mr row w' d' b c) : Mr row w' d' a c := ⟨h'.1, h'.2.1, fun j hj => ⟨(h'.2.2.1 j hj).1.trans (h.2.2.1 j hj).1, (h'.2.2.1 j hj).2.trans (h.2.2.1 j hj).2⟩, h.2.2.2.trans h'.2.2.2⟩
theorem wh4_neg (w : Int64) : wh 4 (-(wh 4 w)) = wh 4 (-w) := by
  rw [wh4, wh4, wh4, Int64.toInt32_neg, Int64.toInt32_neg, Int32.toInt32_toInt64]
/-- not -/
theorem work_not {n : Nat} {g gm : Gs} {T K l r : Nat} (hK : K < 8000) (hT : gI g 93 = nI (T + 1)) (hT2 : T + 1 ≤ 400) (hTm : gI gm 4 = nI (T + 1)) (h14 : gIA g 14 K = 8) (ha : VR 0 (gLA g 92 T) (gLA gm 2 T) (gDA gm 3 T)) : Out g gm T K 0 (f_X12_done n g (nI K)) (f_X1_workOne gm 54 (nI l) (nI r)) := by
  have e1 : gI gm 4 - (1 : Int32) = nI T := by rw [hTm]; exact nI_pred T
  rw [done_8 hK hT hT2 h14]
  have ec : f_X1_workOne gm 54 (nI l) (nI r) = some (sLA gm 2 (vp_updL (gLA gm 2) T ((1 : Int64) - gLA gm 2 T))) := by
    unfold f_X1_workOne
    rw [e1, if_pos (nI_pos' (by omega)), if_pos rfl, grd_t (inB_nI (by omega) (by decide)), grd_t (inB_nI (by omega) (by decide)), nI_clamp (by omega)]
  rw [ec]
  refine out_403 hT hT2 hTm (Sc.refl g) Mr.setL rfl ?_ (fun h => absurd h (by decide))
  rw [VR.whole (by decide)] at ha ⊢
  rw [ha]
theorem one_top {gm : Gs} {T l t : Nat} {o : Int32} {gm1 : Gs} (hT2 : T + 1 ≤ 400) (hTm : gI gm 4 = nI (T + 1)) (ho : o ≠ 54) (h1 : f_X1_become gm (nI T) (nI l) (nI t) = some gm1) : f_X1_workOne gm o (nI l) (nI t) = (if o = (19 : Int32) then (bnd (f_X6_floorOf (gDA gm1 3 T)) (fun q_4 => (some (sDA gm1 3 (vf_upd (gDA gm1 3) T q_4))))) else (if o = (20 : Int32) then (bnd (f_X6_ceilOf (gDA gm1 3 T)) (fun q_7 => (some (sDA gm1 3 (vf_upd (gDA gm1 3) T q_7))))) else (if o = (21 : Int32) then (bnd (f_X6_rintOf (gDA gm1 3 T)) (fun q_10 => (some (sDA gm1 3 (vf_upd (gDA gm1 3) T q_10))))) else (if o = (22 : Int32) then (bnd (f_X6_sizeOf (gDA gm1 3 T)) (fun q_13 => (some (sDA gm1 3 (vf_upd (gDA gm1 3) T q_13))))) else (if o = (65 : Int32) then (if nI t = (4 : Int32) then some (sLA (sDA gm1 3 (vf_upd (gDA gm1 3) T (FP.dneg (gDA gm1 3 T)))) 2 (vp_updL (gLA gm1 2) T (((-(gLA gm1 2 T)).toInt32).toInt64))) else some (sLA (sDA gm1 3 (vf_upd (gDA gm1 3) T (FP.dneg (gDA gm1 3 T)))) 2 (vp_updL (gLA gm1 2) T (-(gLA gm1 2 T))))) else (some gm1)))))) := by
  have e1 : gI gm 4 - (1 : Int32) = nI T := by rw [hTm]; exact nI_pred T
  have b : inB (nI T) 512 = true := inB_nI (by omega) (by decide)
  have c : (nI T).toNatClampNeg = T := nI_clamp (by omega)
  unfold f_X1_workOne b_X1_workOne_146
  rw [e1, if_pos (nI_pos' (by omega)), if_neg ho, bnd_s h1]
  rw [b, c]
  rfl
theorem dv_flip {x : Int64} {s : Bool} {u : Nat} (h : Dv x.toUInt64 s u) : (x ^^^ (-9223372036854775808 : Int64)).toUInt64 = FP.dneg x.toUInt64 := rfl
theorem bec_same {gm : Gs} {T t : Nat} (hT : T < 512) : f_X1_become gm (nI T) (nI t) (nI t) = some gm := by
  unfold f_X1_become
  rw [if_neg (nI_pos (by omega)), if_pos rfl]
theorem setDL {gm : Gs} {T : Nat} {w : Int64} {d : UInt64} : Mr T w d gm (sLA (sDA gm 3 (vf_upd (gDA gm 3) T d)) 2 (vp_updL (gLA gm 2) T w)) := by
  have a := Mr.setD (row := T) (g := gm) (d := d)
  have b := Mr.setL (row := T) (g := sDA gm 3 (vf_upd (gDA gm 3) T d)) (w := w)
  have c := a.trans b
  rw [a.2.1] at c
  exact c
/-- the sign turned -/
theorem work_neg {n : Nat} {g gm : Gs} {T K t : Nat} (hK : K < 8000) (hT : gI g 93 = nI (T + 1)) (hT2 : T + 1 ≤ 400) (hTm : gI gm 4 = nI (T + 1)) (h14 : gIA g 14 K = 7) (h16 : gIA g 16 K = nI t) (ht1 : 1 ≤ t) (ht : t ≤ 7) (ha : VR t (gLA g 92 T) (gLA gm 2 T) (gDA gm 3 T)) (hi : VI t (gLA g 92 T)) : Out g gm T K (max 4 t) (f_X12_done n g (nI K)) (f_X1_workOne gm 65 (nI t) (nI (max 4 t))) := by
  rw [done_7 hK hT hT2 h14, h16]
  by_cases h7 : t = 7
  · subst h7
    rw [if_pos (show nI 7 = (7 : Int32) from rfl), show max 4 7 = 7 from rfl, one_top (o := 65) hT2 hTm (by decide) (bec_same (by omega)), if_neg (by decide), if_neg (by decide), if_neg (by decide), if_neg (by decide), if_pos rfl, if_neg (by decide)]
    obtain ⟨e1, s, u, hd⟩ := VR.seven.mp ha
    refine out_403 hT hT2 hTm (Sc.refl g) setDL rfl (VR.seven.mpr ⟨?_, !s, u, dv_neg hd⟩) (fun h => absurd h (by decide))
    rw [← e1]; rfl
  rw [if_neg (show ¬ nI t = (7 : Int32) from fun z => h7 ((nI_eq (b := 7) (by omega) (by decide)).mp z))]
  by_cases h6 : t = 6
  · subst h6
    rw [if_pos (show nI 6 = (6 : Int32) from rfl), show max 4 6 = 6 from rfl, one_top (o := 65) hT2 hTm (by decide) (bec_same (by omega)), if_neg (by decide), if_neg (by decide), if_neg (by decide), if_neg (by decide), if_pos rfl, if_neg (by decide)]
    obtain ⟨s, u, hf, hd⟩ := VR.six.mp ha
    exact out_403 hT hT2 hTm (Sc.refl g) setDL rfl (VR.six.mpr ⟨!s, u, fl_neg hf, dv_neg hd⟩) (fun h => absurd h (by decide))
  rw [if_neg (show ¬ nI t = (6 : Int32) from fun z => h6 ((nI_eq (b := 6) (by omega) (by decide)).mp z))]
  have hw := (VR.whole (by omega)).mp ha
  by_cases h4 : 4 ≤ t
  · rw [if_pos (show (4 : Int32) ≤ nI t from (nI_leI (a := 4) (by decide) (by omega)).mpr h4), show max 4 t = t by omega, one_top (o := 65) hT2 hTm (by decide) (bec_same (by omega)), if_neg (by decide), if_neg (by decide), if_neg (by decide), if_neg (by decide), if_pos rfl]
    unfold b_X12_done_294
    rw [bnd_s (wh_eq (-(gLA g 92 T)) ht1 (by omega)).2, hw]
    have t45 : t = 4 ∨ t = 5 := by omega
    rcases t45 with rfl | rfl
    · rw [if_pos (show nI 4 = (4 : Int32) from rfl)]
      exact out_403 hT hT2 hTm (Sc.refl g) setDL rfl ((VR.whole (by decide)).mpr rfl) (fun _ => wh4_idem _)
    · rw [if_neg (show ¬ nI 5 = (4 : Int32) by decide)]
      exact out_403 hT hT2 hTm (Sc.refl g) setDL rfl ((VR.whole (by decide)).mpr rfl) (fun h => absurd h (by decide))
  · have h4' : max 4 t = 4 := by omega
    obtain ⟨gm1, c1, c2, c3⟩ := cls_become (g := gm) (row := T) (t := 4) (by omega) ht1 ht (by decide) (by decide) (by omega) rfl rfl ha
    rw [if_neg (show ¬ (t = 7 ∧ (4 : Nat) = 6) from fun z => h7 z.1)] at c3
    have ec : cb t 4 (gLA gm 2 T) (gDA gm 3 T) = (wh 4 (gLA gm 2 T), gDA gm 3 T) := by
      unfold cb; rw [if_neg (by decide), if_neg (by decide), if_pos (by omega)]
    rw [ec] at c2
    rw [if_neg (show ¬ (4 : Int32) ≤ nI t from fun z => h4 ((nI_leI (a := 4) (by decide) (by omega)).mp z)), h4', one_top (o := 65) hT2 hTm (by decide) c1, if_neg (by decide), if_neg (by decide), if_neg (by decide), if_neg (by decide), if_pos rfl, if_pos (show nI 4 = (4 : Int32) from rfl)]
    unfold b_X12_done_294
    have e4 := (wh_eq (t := 4) (-(gLA g 92 T)) (by decide) (by decide)).2
    rw [bnd_s (show f_X12_narrowed (-(gLA g 92 T)) 4 = some (wh 4 (-(gLA g 92 T))) from e4)]
    refine out_403 hT hT2 hTm (Sc.refl g) (c2.trans setDL) c3 ((VR.whole (by decide)).mpr ?_) (fun _ => wh4_idem _)
    rw [c2.1, hw]
    exact (wh4_neg _).symm
/-- floor, ceil, rint and abs -/
theorem work_round {n : Nat} {g gm : Gs} {T K t w : Nat} (hn : 65 ≤ n) (hK : K < 8000) (hT : gI g 93 = nI (T + 1)) (hT2 : T + 1 ≤ 400) (hTm : gI gm 4 = nI (T + 1)) (h14 : gIA g 14 K = 10) (h15 : gIA g 15 K = nI (209 + w)) (hw4 : w < 4) (h16 : gIA g 16 K = nI t) (ht1 : 1 ≤ t) (ht : t ≤ 7) (ha : VR t (gLA g 92 T) (gLA gm 2 T) (gDA gm 3 T)) (hi : VI t (gLA g 92 T)) : Out g gm T K 7 (f_X12_done n g (nI K)) (f_X1_workOne gm (nI (19 + w)) (nI t) (nI 7)) := by
  rw [done_10 hK hT hT2 h14, h16]
  obtain ⟨r, g', gm', w', d', b1, b2, b3, b4, b5, b6, b7⟩ := bec_two (n := n) (g := g) (t := 7) hn (show T < 512 by omega) ht1 ht (by decide) (by decide) (by omega) rfl rfl ha hi
  rw [bnd_s (show f_X12_become n g (gLA g 92 T) (nI t) 7 = some (r, g') from b1)]
  dsimp only
  obtain ⟨e1, s, u, hd⟩ := VR.seven.mp b6
  have hr : Dv r.toUInt64 s u := e1 ▸ hd
  have ed : gDA gm' 3 T = d' := b4.2.1
  have fin : ∀ (x : Int64) (g'' : Gs) (q : UInt64) (s' : Bool) (u' : Nat), Sc g' g'' → Dv x.toUInt64 s' u' → Dv q s' u' → Out g gm T K 7 (b_X12_done_403 n g'' x) (some (sDA gm' 3 (vf_upd (gDA gm' 3) T q))) := by
    intro x g'' q s' u' hs hx hq
    exact out_403 hT hT2 hTm (b2.trans hs) (b4.trans Mr.setD) b5 (VR.seven.mpr ⟨hx.inj hq, s', u', hq⟩) (fun h => absurd h (by decide))
  have hw : w = 0 ∨ w = 1 ∨ w = 2 ∨ w = 3 := by omega
  rw [h15]
  rcases hw with rfl | rfl | rfl | rfl
  · obtain ⟨r2, g2, c1, c2, c3⟩ := f_evened (n := n) (g := g') (w := 0) hn (by decide) hr
    obtain ⟨q, q1, q2⟩ := f_floorOf hd
    rw [if_neg (by decide), bnd_s (show f_X12_evened n g' r (nI (209 + 0) - 209) = some (r2, g2) from c1), one_top hT2 hTm (by decide) b3, if_pos (show nI (19 + 0) = (19 : Int32) from rfl), ed, bnd_s q1]
    exact fin _ _ _ _ _ c2 c3 q2
  · obtain ⟨r2, g2, c1, c2, c3⟩ := f_evened (n := n) (g := g') (w := 1) hn (by decide) hr
    obtain ⟨q, q1, q2⟩ := f_ceilOf hd
    rw [if_neg (by decide), bnd_s (show f_X12_evened n g' r (nI (209 + 1) - 209) = some (r2, g2) from c1), one_top hT2 hTm (by decide) b3, if_neg (by decide), if_pos (show nI (19 + 1) = (20 : Int32) from rfl), ed, bnd_s q1]
    exact fin _ _ _ _ _ c2 c3 q2
  · obtain ⟨r2, g2, c1, c2, c3⟩ := f_evened (n := n) (g := g') (w := 2) hn (by decide) hr
    obtain ⟨q, q1, q2⟩ := f_rintOf hd
    rw [if_neg (by decide), bnd_s (show f_X12_evened n g' r (nI (209 + 2) - 209) = some (r2, g2) from c1), one_top hT2 hTm (by decide) b3, if_neg (by decide), if_neg (by decide), if_pos (show nI (19 + 2) = (21 : Int32) from rfl), ed, bnd_s q1]
    exact fin _ _ _ _ _ c2 c3 q2
  · obtain ⟨q, q1, q2⟩ := f_sizeOf hd
    rw [if_pos (show nI (209 + 3) = (212 : Int32) from rfl), one_top hT2 hTm (by decide) b3, if_neg (by decide), if_neg (by decide), if_neg (by decide), if_pos (show nI (19 + 3) = (22 : Int32) from rfl), ed, bnd_s q1]
    exact fin _ _ _ _ _ (Sc.refl _) (dv_mask hr) q2
