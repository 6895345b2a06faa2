/-! values of both machines: of a sort t the reference holds v, the class w and d -/
def VR (t : Nat) (v w : Int64) (d : UInt64) : Prop := if t ≤ 5 then v = w else if t = 6 then ∃ s u, Fl v s u ∧ Dv d s u else v.toUInt64 = d ∧ ∃ s u, Dv d s u
theorem VR.whole {t : Nat} {v w : Int64} {d : UInt64} (ht : t ≤ 5) : VR t v w d ↔ v = w := by unfold VR; rw [if_pos ht]
theorem VR.six {v w : Int64} {d : UInt64} : VR 6 v w d ↔ ∃ s u, Fl v s u ∧ Dv d s u := by unfold VR; rw [if_neg (by decide), if_pos rfl]
theorem VR.seven {v w : Int64} {d : UInt64} : VR 7 v w d ↔ v.toUInt64 = d ∧ ∃ s u, Dv d s u := by unfold VR; rw [if_neg (by decide), if_neg (by decide)]
def wh (t : Nat) (w : Int64) : Int64 := (f_X6_wholeOf (nI t) w).getD 0
theorem wh_eq {t : Nat} (w : Int64) (h1 : 1 ≤ t) (h5 : t ≤ 5) : f_X6_wholeOf (nI t) w = some (wh t w) ∧ f_X12_narrowed w (nI t) = some (wh t w) := by
  obtain ⟨r, r1, r2⟩ := nar_eq w h1 h5
  unfold wh
  rw [r2, r1]
  exact ⟨rfl, rfl⟩
/-- what the class makes of a value of sort s when it becomes one of sort t -/
def cb (s t : Nat) (w : Int64) (d : UInt64) : Int64 × UInt64 :=
  if t = 6 then (if s = 7 then (w, FP.f2d (FP.d2f d)) else (w, FP.f2d (FP.l2f w)))
  else if t = 7 then (if s = 6 then (w, d) else (w, FP.l2d w))
  else if s ≤ 5 then (wh t w, d) else if t = 5 then (FP.d2l d, d) else (wh t (FP.d2i d).toInt64, d)
theorem isReal_nI {t : Nat} (ht : t < 10) : f_X12_isReal (nI t) = some (if t ≤ 5 then 0 else 1) := by
  unfold f_X12_isReal
  by_cases h : t ≤ 5
  · rw [if_pos h, if_pos (show nI t < (6 : Int32) from nI_lt (b := 6) (by omega) (by decide))]
  · rw [if_neg h, if_neg (show ¬ nI t < (6 : Int32) from nI_nlt (b := 6) (by omega) (by omega))]
/-- become on both sides -/
theorem become_val {n : Nat} {g : Gs} {s t : Nat} {v w : Int64} {d : UInt64} (hn : 65 ≤ n) (hs1 : 1 ≤ s) (hs7 : s ≤ 7) (ht1 : 1 ≤ t) (ht7 : t ≤ 7) (hst : s ≠ t) (h : VR s v w d) : ∃ r g', f_X12_become n g v (nI s) (nI t) = some (r, g') ∧ Sc g g' ∧ (VR t r (cb s t w d).1 (cb s t w d).2 ∨ (s = 7 ∧ t = 6 ∧ r = 9223372036854775807 ∧ ∃ b, Jvm.FP.Core.val64 (cb s t w d).2 = .inf b)) := by
  have hne : ¬ nI s = nI t := fun z => hst ((nI_eq (by omega) (by omega)).mp z)
  by_cases ht6 : t = 6
  · subst ht6
    by_cases hs7' : s = 7
    · subst hs7'
      obtain ⟨e1, sg, u, hd⟩ := VR.seven.mp h
      rw [← e1] at hd
      obtain ⟨r, g', b1, b2, b3⟩ := become76 (n := n) (g := g) hn hd
      refine ⟨r, g', b1, b2, ?_⟩
      have ec : cb 7 6 w d = (w, FP.f2d (FP.d2f d)) := rfl
      rw [ec, ← e1]
      rcases b3 with ⟨x, x1, x2⟩ | ⟨x1, x2⟩
      · exact .inl (VR.six.mpr ⟨sg, x, x1, x2⟩)
      · exact .inr ⟨rfl, rfl, x1, sg, x2⟩
    · have hs5 : s ≤ 5 := by omega
      have hv := (VR.whole hs5).mp h
      subst hv
      obtain ⟨r, sg, u, b1, b2, b3⟩ := fromWhole6 (n := n) hn v
      refine ⟨r, g, ?_, Sc.refl g, .inl ?_⟩
      · unfold f_X12_become
        rw [if_neg hne, bnd_s (isReal_nI (t := 6) (by decide)), if_neg (by decide), bnd_s (isReal_nI (by omega)), if_pos (by rw [if_pos hs5])]
        have b1' : f_X12_fromWhole n v (nI 6) = some r := b1
        rw [bnd_s b1']
      · have ec : cb s 6 v d = (v, FP.f2d (FP.l2f v)) := by unfold cb; rw [if_pos rfl, if_neg hs7']
        rw [ec]
        exact VR.six.mpr ⟨sg, u, b2, b3⟩
  · by_cases ht7' : t = 7
    · subst ht7'
      by_cases hs6 : s = 6
      · subst hs6
        obtain ⟨sg, u, hf, hd⟩ := VR.six.mp h
        obtain ⟨r, g', b1, b2, b3⟩ := become67 (n := n) (g := g) hn hf
        refine ⟨r, g', b1, b2, .inl ?_⟩
        have ec : cb 6 7 w d = (w, d) := rfl
        rw [ec]
        exact VR.seven.mpr ⟨b3.inj hd, sg, u, hd⟩
      · have hs5 : s ≤ 5 := by omega
        have hv := (VR.whole hs5).mp h
        subst hv
        obtain ⟨r, sg, u, b1, b2, b3⟩ := fromWhole7 (n := n) hn v
        refine ⟨r, g, ?_, Sc.refl g, .inl ?_⟩
        · unfold f_X12_become
          rw [if_neg hne, bnd_s (isReal_nI (t := 7) (by decide)), if_neg (by decide), bnd_s (isReal_nI (by omega)), if_pos (by rw [if_pos hs5])]
          have b1' : f_X12_fromWhole n v (nI 7) = some r := b1
          rw [bnd_s b1']
        · have ec : cb s 7 v d = (v, FP.l2d v) := by unfold cb; rw [if_neg (by decide), if_pos rfl, if_neg hs6]
          rw [ec]
          exact VR.seven.mpr ⟨b2, sg, u, b3⟩
    · have ht5 : t ≤ 5 := by omega
      by_cases hs5 : s ≤ 5
      · have hv := (VR.whole hs5).mp h
        subst hv
        obtain ⟨w1, w2⟩ := wh_eq v ht1 ht5
        refine ⟨wh t v, g, ?_, Sc.refl g, .inl ?_⟩
        · unfold f_X12_become
          rw [if_neg hne, bnd_s (isReal_nI (by omega)), if_pos (by rw [if_pos ht5]), bnd_s (isReal_nI (by omega)), if_pos (by rw [if_pos hs5]), bnd_s w2]
        · have ec : cb s t v d = (wh t v, d) := by unfold cb; rw [if_neg ht6, if_neg ht7', if_pos hs5]
          rw [ec]
          exact (VR.whole ht5).mpr rfl
      · -- a real becomes a whole
        have tw : (∃ g', f_X12_towards n g v (nI s) 5 = some (FP.d2l d, g') ∧ Sc g g') ∧ ∃ g', f_X12_towards n g v (nI s) 4 = some ((FP.d2i d).toInt64, g') ∧ Sc g g' := by
          by_cases hs6 : s = 6
          · subst hs6
            obtain ⟨sg, u, hf, hd⟩ := VR.six.mp h
            exact f_towards6 hn hf hd
          · have hs7' : s = 7 := by omega
            subst hs7'
            obtain ⟨e1, sg, u, hd⟩ := VR.seven.mp h
            rw [← e1] at hd ⊢
            exact ⟨f_towards_l hn hd, f_towards_i hn hd⟩
        have top : ∀ x, f_X12_become n g v (nI s) (nI t) = x ↔ (if nI t = (5 : Int32) then (bnd (f_X12_towards n g v (nI s) (5 : Int32)) (fun q_9 => some (q_9.1, q_9.2))) else (bnd (f_X12_towards n g v (nI s) (4 : Int32)) (fun q_5 => bnd (f_X12_narrowed q_5.1 (nI t)) (fun q_7 => some (q_7, q_5.2))))) = x := by
          intro x
          unfold f_X12_become
          rw [if_neg hne, bnd_s (isReal_nI (by omega)), if_pos (by rw [if_pos ht5]), bnd_s (isReal_nI (by omega)), if_neg (by rw [if_neg hs5]; decide)]
        by_cases ht5' : t = 5
        · subst ht5'
          obtain ⟨⟨g', t1, t2⟩, -⟩ := tw
          refine ⟨FP.d2l d, g', (top _).mpr ?_, t2, .inl ?_⟩
          · rw [if_pos (show nI 5 = (5 : Int32) from rfl), bnd_s t1]
          · have ec : cb s 5 w d = (FP.d2l d, d) := by unfold cb; rw [if_neg (by decide), if_neg (by decide), if_neg hs5, if_pos rfl]
            rw [ec]
            exact (VR.whole (by decide)).mpr rfl
        · obtain ⟨-, g', t1, t2⟩ := tw
          obtain ⟨w1, w2⟩ := wh_eq (FP.d2i d).toInt64 ht1 ht5
          refine ⟨wh t (FP.d2i d).toInt64, g', (top _).mpr ?_, t2, .inl ?_⟩
          · rw [if_neg (show ¬ nI t = (5 : Int32) from fun z => ht5' ((nI_eq (b := 5) (by omega) (by decide)).mp z)), bnd_s t1]
            dsimp only
            rw [bnd_s w2]
          · have ec : cb s t w d = (wh t (FP.d2i d).toInt64, d) := by unfold cb; rw [if_neg ht6, if_neg ht7', if_neg hs5, if_neg ht5']
            rw [ec]
            exact (VR.whole ht5).mpr rfl
/-! the class's stacks -/
/-- in row the two stacks hold w and d now, nothing else is changed but the jam -/
def Mr (row : Nat) (w : Int64) (d : UInt64) (g g' : Gs) : Prop := gLA g' 2 row = w ∧ gDA g' 3 row = d ∧ (∀ j, j ≠ row → gLA g' 2 j = gLA g 2 j ∧ gDA g' 3 j = gDA g 3 j) ∧ Fr [2, 3, 5] g g'
theorem Fr.sDA {A : List Nat} {k : Nat} (h : k ∈ A) (g : Gs) (v : Nat → UInt64) : Fr A g (sDA g k v) := fun j hj => ⟨rfl, rfl, rfl, rfl, rfl, va_up_ne _ _ (fun z => hj (z ▸ h)), rfl⟩
theorem Mr.setD {row : Nat} {g : Gs} {d : UInt64} : Mr row (gLA g 2 row) d g (sDA g 3 (vf_upd (gDA g 3) row d)) := by
  refine ⟨rfl, ?_, fun j hj => ⟨rfl, ?_⟩, Fr.sDA (by decide) _ _⟩
  · show vf_upd (gDA g 3) row d row = d
    unfold vf_upd; rw [if_pos rfl]
  · show vf_upd (gDA g 3) row d j = _
    unfold vf_upd; rw [if_neg hj]
theorem Mr.setL {row : Nat} {g : Gs} {w : Int64} : Mr row w (gDA g 3 row) g (sLA g 2 (vp_updL (gLA g 2) row w)) := by
  refine ⟨?_, rfl, fun j hj => ⟨?_, rfl⟩, Fr.sLA (by decide) _ _⟩
  · show vp_updL (gLA g 2) row w row = w
    exact pk_uLs
  · show vp_updL (gLA g 2) row w j = _
    exact pk_uLn hj
theorem Mr.jam {row : Nat} {w : Int64} {d : UInt64} {g g' : Gs} (h : Mr row w d g g') (k : Int32) : Mr row w d g (sI g' 5 k) := ⟨h.1, h.2.1, h.2.2.1, h.2.2.2.trans (Fr.sI (by decide) _ _)⟩
/-- the class's become; jam says whether it is too large -/
theorem cls_become {g : Gs} {row s t : Nat} {v w : Int64} {d : UInt64} (hr : row < 512) (hs1 : 1 ≤ s) (hs7 : s ≤ 7) (ht1 : 1 ≤ t) (ht7 : t ≤ 7) (hst : s ≠ t) (hw : gLA g 2 row = w) (hd : gDA g 3 row = d) (h : VR s v w d) : ∃ g', f_X1_become g (nI row) (nI s) (nI t) = some g' ∧ Mr row (cb s t w d).1 (cb s t w d).2 g g' ∧ (gI g' 5 = if s = 7 ∧ t = 6 then (if fin64 (cb s t w d).2.toInt64 = true then 0 else 3) else gI g 5) := by
  have hne : ¬ nI s = nI t := fun z => hst ((nI_eq (by omega) (by omega)).mp z)
  have b512 : inB (nI row) 512 = true := inB_nI hr (by decide)
  have cl : (nI row).toNatClampNeg = row := nI_clamp (by omega)
  have s6 : nI s = (6 : Int32) ↔ s = 6 := nI_eq (b := 6) (by omega) (by decide)
  have s7 : nI s = (7 : Int32) ↔ s = 7 := nI_eq (b := 7) (by omega) (by decide)
  have t6 : nI t = (6 : Int32) ↔ t = 6 := nI_eq (b := 6) (by omega) (by decide)
  have t7 : nI t = (7 : Int32) ↔ t = 7 := nI_eq (b := 7) (by omega) (by decide)
  have t5 : nI t = (5 : Int32) ↔ t = 5 := nI_eq (b := 5) (by omega) (by decide)
  have le6 : (6 : Int32) ≤ nI s ↔ 6 ≤ s := nI_leI (a := 6) (by decide) (by omega)
  unfold f_X1_become
  rw [if_neg (nI_pos (by omega)), if_neg hne]
  by_cases ht6 : t = 6
  · subst ht6
    rw [if_pos (t6.mpr rfl)]
    by_cases hs7' : s = 7
    · subst hs7'
      obtain ⟨e1, sg, u, hdv⟩ := VR.seven.mp h
      have n1 : Jvm.FP.Core.val32 (FP.d2f d) ≠ .nan := by rw [jd2f hdv.ne_nan]; exact fun z => hdv.ne_nan (Jvm.FP.Core.round_nan.mp z)
      have n2 : Jvm.FP.Core.val64 (FP.f2d (FP.d2f d)) ≠ .nan := by rw [jf2d n1]; exact fun z => n1 (Jvm.FP.Core.round_nan.mp z)
      have g32 : n32 (FP.d2f d) = true := by
        unfold n32
        refine decide_eq_true ?_
        rw [UInt32.le_iff_toNat_le, Jvm.FP.Core.mask_toNat32]
        exact (Jvm.FP.Core.ne_nan32 _).mp n1
      have uv : vf_upd (gDA g 3) row (FP.f2d (FP.d2f d)) row = FP.f2d (FP.d2f d) := by unfold vf_upd; rw [if_pos rfl]
      have ec : cb 7 6 w d = (w, FP.f2d (FP.d2f d)) := rfl
      rw [if_pos (s7.mpr rfl), grd_t b512, cl, hd, grd_t g32, grd_t (n64_of n2), grd_t b512, grd_t b512, uv, bnd_s (isBeyond6 n2), ec, if_pos (show (7 : Nat) = 7 ∧ (6 : Nat) = 6 from ⟨rfl, rfl⟩)]
      unfold b_X1_become_54
      have base : Mr row w (FP.f2d (FP.d2f d)) g (sDA g 3 (vf_upd (gDA g 3) row (FP.f2d (FP.d2f d)))) := hw ▸ Mr.setD
      cases hfin : fin64 (FP.f2d (FP.d2f d)).toInt64 with
      | true =>
        rw [if_pos (show sgB (!true) = 0 by decide)]
        exact ⟨_, rfl, base.jam 0, by rw [if_pos rfl]; rfl⟩
      | false =>
        rw [if_neg (show ¬ sgB (!false) = 0 by decide)]
        exact ⟨_, rfl, base.jam 3, by rw [if_neg (by decide)]; rfl⟩
    · have hs5 : s ≤ 5 := by omega
      rw [if_neg (fun z => hs7' (s7.mp z))]
      unfold b_X1_become_60
      obtain ⟨r, sg, u, -, -, b3⟩ := fromWhole6 (n := 65) (Nat.le_refl _) w
      have ec : cb s 6 w d = (w, FP.f2d (FP.l2f w)) := by unfold cb; rw [if_pos rfl, if_neg hs7']
      rw [if_pos (t6.mpr rfl), grd_t b512, cl, hw, grd_t b3.n64, grd_t b512, ec, if_neg (show ¬ (s = 7 ∧ (6 : Nat) = 6) from fun z => hs7' z.1)]
      exact ⟨_, rfl, hw ▸ Mr.setD, rfl⟩
  · rw [if_neg (fun z => ht6 (t6.mp z))]
    unfold b_X1_become_60 b_X1_become_116
    rw [if_neg (fun z => ht6 (t6.mp z)), if_neg (show ¬ (s = 7 ∧ t = 6) from fun z => ht6 z.2)]
    by_cases ht7' : t = 7
    · subst ht7'
      rw [if_pos (t7.mpr rfl)]
      by_cases hs6 : s = 6
      · subst hs6
        have ec : cb 6 7 w d = (w, d) := rfl
        rw [if_pos (s6.mpr rfl), grd_t b512, grd_t b512, cl, hd, ec]
        exact ⟨_, rfl, hw ▸ Mr.setD, rfl⟩
      · have ec : cb s 7 w d = (w, FP.l2d w) := by unfold cb; rw [if_neg (by decide), if_pos rfl, if_neg hs6]
        rw [if_neg (fun z => hs6 (s6.mp z)), grd_t b512, grd_t b512, cl, hw, ec]
        exact ⟨_, rfl, hw ▸ Mr.setD, rfl⟩
    · rw [if_neg (fun z => ht7' (t7.mp z))]
      have ht5 : t ≤ 5 := by omega
      by_cases hs5 : s ≤ 5
      · obtain ⟨w1, w2⟩ := wh_eq w ht1 ht5
        have ec : cb s t w d = (wh t w, d) := by unfold cb; rw [if_neg ht6, if_neg ht7', if_pos hs5]
        rw [if_neg (fun z => by have := le6.mp z; omega), grd_t b512, cl, hw, bnd_s w1, grd_t b512, ec]
        exact ⟨_, rfl, hd ▸ Mr.setL, rfl⟩
      · rw [if_pos (le6.mpr (by omega))]
        by_cases ht5' : t = 5
        · subst ht5'
          have ec : cb s 5 w d = (FP.d2l d, d) := by unfold cb; rw [if_neg (by decide), if_neg (by decide), if_neg hs5, if_pos rfl]
          rw [if_pos (t5.mpr rfl), grd_t b512, grd_t b512, cl, hd, ec]
          refine ⟨_, rfl, ?_, rfl⟩
          have := Mr.setL (row := row) (g := g) (w := FP.d2l d)
          rw [hd] at this
          exact this
        · obtain ⟨w1, w2⟩ := wh_eq (FP.d2i d).toInt64 ht1 ht5
          have ec : cb s t w d = (wh t (FP.d2i d).toInt64, d) := by unfold cb; rw [if_neg ht6, if_neg ht7', if_neg hs5, if_neg ht5']
          rw [if_neg (fun z => ht5' (t5.mp z)), grd_t b512, cl, hd, bnd_s w1, grd_t b512, ec]
          refine ⟨_, rfl, ?_, rfl⟩
          have := Mr.setL (row := row) (g := g) (w := wh t (FP.d2i d).toInt64)
          rw [hd] at this
          exact this
