/-! set, step, thing, letter, count -/
/-- names and parts of the plan that turns -/
def NmR (g gp : Gs) (many bells cams : Nat) : Prop :=
  (∀ r, (r < many ∨ (40 ≤ r ∧ r < 40 + bells) ∨ (52 ≤ r ∧ r < 52 + cams)) → ∃ m, m ≤ 10 ∧ gIA g 66 r = nI m ∧ gIA gp 2 r = nI m ∧ ∀ k, k < m → gIA g 65 (10 * r + k) = gIA gp 1 (10 * r + k)) ∧ (∀ i, i < many → (gIA g 68 i = 0 ↔ gIA gp 8 i = 0)) ∧ cams ≤ 8 ∧ gI g 62 = nI cams ∧ gI gp 6 = nI cams
theorem StR.set {g gs : Gs} {srt : Nat → Nat} {many bells S t i : Nat} {r w : Int64} {d : UInt64} (h : StR g gs srt many bells S t) (hi : i < many) (hv : VR (srt i) r w d) (hvi : VI (srt i) r) : StR (sLA (sLA g 80 (vp_updL (gLA g 80) i r)) 81 (vp_updL (gLA g 81) i r)) (sDA (sLA (sDA (sLA gs 0 (vp_updL (gLA gs 0) i w)) 1 (vf_upd (gDA gs 1) i d)) 2 (vp_updL (gLA gs 2) i w)) 3 (vf_upd (gDA gs 3) i d)) srt many bells S t := by
  obtain ⟨⟨d1, d2, d3, d4⟩, h2, h3, h4, h5, h6, h7⟩ := h
  refine ⟨⟨d1, d2, d3, fun a ha => ?_⟩, h2, h3, h4, h5, h6, h7⟩
  obtain ⟨v1, v2, v3, v4⟩ := d4 a ha
  show VR (srt a) (vp_updL (gLA g 80) i r a) (vp_updL (gLA gs 0) i w a) (vf_upd (gDA gs 1) i d a) ∧ VI (srt a) (vp_updL (gLA g 80) i r a) ∧ VR (srt a) (vp_updL (gLA g 81) i r a) (vp_updL (gLA gs 2) i w a) (vf_upd (gDA gs 3) i d a) ∧ VI (srt a) (vp_updL (gLA g 81) i r a)
  by_cases hq : a = i
  · subst hq
    rw [pk_uLs, pk_uLs, pk_uLs, pk_uLs, show vf_upd (gDA gs 1) a d a = d from if_pos rfl, show vf_upd (gDA gs 3) a d a = d from if_pos rfl]
    exact ⟨hv, hvi, hv, hvi⟩
  · rw [pk_uLn hq, pk_uLn hq, pk_uLn hq, pk_uLn hq, show vf_upd (gDA gs 1) i d a = gDA gs 1 a from if_neg hq, show vf_upd (gDA gs 3) i d a = gDA gs 3 a from if_neg hq]
    exact ⟨v1, v2, v3, v4⟩
theorem set_eq {h8 : Nat} {g gT g2 gs gp gc : Gs} {srt : Nat → Nat} {many bells cams S t : Nat} (hTb : Tb g2) (hst : StR g gs srt many bells S t) (hpl : PlR g gp gc srt many bells cams) (hnm : NmR g gp many bells cams) (hR : rEq (gR gT 8) h8 = true) (x0 : Int32) (x1 : Int64) : ∃ r g' gs', f_X12_set g x0 x1 = some (r, g') ∧ f_X11_set h8 gT g2 gs gp x0 x1 = some (r, gs') ∧ StR g' gs' srt many bells S t ∧ Fr [80, 81] g g' := by
  obtain ⟨m40, b12, h60, h4, h61, h5, h77, hord, hth, hbe, hte⟩ := id hpl
  unfold f_X12_set f_X11_set
  rw [h60, h4]
  by_cases z0 : x0 < 0
  · rw [if_pos z0, if_pos z0]; exact ⟨_, _, _, rfl, rfl, hst, Fr.refl _ _⟩
  rw [if_neg z0, if_neg z0, grd_t hR]
  rcases pk_ix x0 (n := many) (by omega) with h | h | ⟨i, hi, rfl⟩
  · exact absurd h z0
  · rw [if_pos h, if_pos h]; exact ⟨_, _, _, rfl, rfl, hst, Fr.refl _ _⟩
  obtain ⟨s1, s2, _⟩ := hth i hi
  have s7 := hpl.srt7 hi
  have i40 : inB (nI i) 40 = true := inB_nI (by omega) (by decide)
  have ci : (nI i).toNatClampNeg = i := nI_clamp (by omega)
  rw [if_neg (nI_ge hi (by omega)), if_neg (nI_ge hi (by omega))]
  simp only [grd_t hR, grd_t i40, ci, s1, s2]
  by_cases z68 : gIA g 68 i = 0
  · rw [if_pos z68, if_pos ((hnm.2.1 i hi).mp z68)]; exact ⟨_, _, _, rfl, rfl, hst, Fr.refl _ _⟩
  rw [if_neg z68, if_neg (fun z => z68 ((hnm.2.1 i hi).mpr z))]
  -- what comes of it
  have fin : ∀ (v w : Int64) (d : UInt64), VR (srt i) v w d → VI (srt i) v → f_X6_wholeOf (nI (srt i)) x1 = some w → f_X6_realOf g2 (nI (srt i)) x1 = some d → ∃ r g' gs', b_X12_set_118 g (nI i) v = some (r, g') ∧ b_X11_set_70 h8 gT g2 gs gp (nI i) x1 (nI (srt i)) = some (r, gs') ∧ StR g' gs' srt many bells S t ∧ Fr [80, 81] g g' := by
    intro v w d hv hvi hw hd
    unfold b_X12_set_118 b_X11_set_70
    rw [bnd_s hw]
    simp only [grd_t i40, ci]
    rw [bnd_s hd, pk_uLs, show vf_upd (gDA gs 1) i d i = d from if_pos rfl]
    exact ⟨_, _, _, rfl, rfl, hst.set hi hv hvi, (Fr.sLA (by decide) _ _).trans (Fr.sLA (by decide) _ _)⟩
  by_cases c7 : srt i = 7
  · rw [c7] at fin ⊢
    rw [if_neg (show ¬ nI 7 = 0 by decide), if_pos (show (5 : Int32) ≤ nI 7 by decide), if_neg (show ¬ nI 7 = 6 by decide), if_pos (show nI 7 = 7 from rfl), bnd_s (isFin6 x1)]
    unfold b_X12_set_78 b_X12_set_101 b_X11_set_54
    rw [if_neg (show ¬ nI 7 = 6 by decide), if_pos (show nI 7 = 7 from rfl), bnd_s (isFin12 x1), sgB_if, sgB_if]
    by_cases hf : fin64 x1 = true
    · rw [if_pos hf, if_pos hf, if_neg (show ¬ nI 7 = 6 by decide)]
      obtain ⟨s, u, hd⟩ := fin64_dv hf
      exact fin x1 x1 x1.toUInt64 (VR.seven.mpr ⟨rfl, s, u, hd⟩) (fun z => absurd z (by decide)) rfl (f_realOf hTb hd)
    · rw [if_neg hf, if_neg hf]; exact ⟨_, _, _, rfl, rfl, hst, Fr.refl _ _⟩
  by_cases c6 : srt i = 6
  · rw [c6] at fin ⊢
    rw [if_neg (show ¬ nI 6 = 0 by decide), if_pos (show (5 : Int32) ≤ nI 6 by decide), if_pos (show nI 6 = 6 from rfl), if_neg (show ¬ nI 6 = 7 by decide)]
    unfold b_X12_set_78 b_X12_set_101 b_X11_set_54
    rw [if_pos (show nI 6 = 6 from rfl), bnd_s (isFinF x1), sgB_if]
    have shf : ∀ v : Int64, (v >>> ((23 : Int32).toInt64 &&& 63)) &&& (255 : Int64) = lN (uL v / 2 ^ 23 % 2 ^ 8) := by
      intro v
      apply uL_inj
      rw [uL_mask _ 8 (by decide), uL_sshr v 23 8 _ (by decide) (by decide), uL_lN (by omega)]
    obtain ⟨vv, hvv, _⟩ := nar_eq x1 (t := 4) (by decide) (by decide)
    have hvv' : f_X12_narrowed x1 4 = some vv := hvv
    have low : uL vv / 2 ^ 23 % 2 ^ 8 = uL x1 / 2 ^ 23 % 2 ^ 8 := by
      have := (wh_eq x1 (t := 4) (by decide) (by decide)).2
      rw [hvv] at this
      injection this with this
      rw [this, wh4]
      have h1 : uL x1.toInt32.toInt64 % 2 ^ 32 = uL x1 % 2 ^ 32 := by
        have a1 := toI32_nat x1
        have a2 := toI32_nat x1.toInt32.toInt64
        rw [show x1.toInt32.toInt64.toInt32 = x1.toInt32 from by simp] at a2
        omega
      omega
    rw [bnd_s hvv', shf, low, if_pos (show nI 6 = 6 from rfl)]
    by_cases hf : finF x1 = true
    · have hf' : uL x1 / 2 ^ 23 % 2 ^ 8 ≠ 255 := of_decide_eq_true hf
      rw [if_pos hf, if_neg (fun z => hf' ((lN_is (k := 255) (c := 255) rfl (by omega) (by decide)).mp z)), if_neg (show ¬ nI 6 = 7 by decide)]
      obtain ⟨d, v, s, u, y1, y2, y3, y4, y5⟩ := f_realOf6 hTb hf
      have : v = vv := by rw [hvv'] at y2; injection y2 with y2; exact y2.symm
      subst this
      exact fin v x1 d (VR.six.mpr ⟨s, u, y4, y3⟩) (fun z => absurd z (by decide)) rfl y1
    · have hf' : uL x1 / 2 ^ 23 % 2 ^ 8 = 255 := Classical.not_not.mp (fun z => hf (decide_eq_true z))
      rw [if_neg hf, hf', if_pos (show lN 255 = 255 from rfl)]
      exact ⟨_, _, _, rfl, rfl, hst, Fr.refl _ _⟩
  have e7 : ¬ nI (srt i) = (7 : Int32) := fun z => c7 ((nI_eq (b := 7) (by omega) (by decide)).mp z)
  have e6 : ¬ nI (srt i) = (6 : Int32) := fun z => c6 ((nI_eq (b := 6) (by omega) (by decide)).mp z)
  have hreal : f_X6_realOf g2 (nI (srt i)) x1 = some FP.dconst0 := by
    unfold f_X6_realOf
    rw [if_neg e7, if_neg e6]
  have to118 : ∀ v, b_X12_set_78 g (nI i) (nI (srt i)) v = b_X12_set_118 g (nI i) v := by
    intro v
    unfold b_X12_set_78 b_X12_set_101
    rw [if_neg e6, if_neg e7]
  have to70 : b_X11_set_54 h8 gT g2 gs gp (nI i) x1 (nI (srt i)) = b_X11_set_70 h8 gT g2 gs gp (nI i) x1 (nI (srt i)) := by
    unfold b_X11_set_54
    rw [if_neg e6]
  simp only [to118, to70]
  rw [if_neg e7]
  by_cases c0 : srt i = 0
  · rw [c0] at fin hreal ⊢
    rw [if_pos (show nI 0 = 0 from rfl)]
    exact fin _ _ _ ((VR.whole (by decide)).mpr rfl) (fun z => absurd z (by decide)) rfl hreal
  have e0 : ¬ nI (srt i) = 0 := nI_ne0 (by omega) (by omega)
  rw [if_neg e0]
  by_cases c5 : srt i = 5
  · rw [if_pos (show (5 : Int32) ≤ nI (srt i) from nI_le (a := 5) (by omega) (by omega)), if_neg e6]
    refine fin x1 x1 _ ((VR.whole (by omega)).mpr rfl) (fun z => absurd z (by omega)) ?_ hreal
    rw [c5]; rfl
  · rw [if_neg (show ¬ (5 : Int32) ≤ nI (srt i) from nI_ge (b := 5) (by omega) (by decide))]
    obtain ⟨w1, w2⟩ := wh_eq x1 (t := srt i) (by omega) (by omega)
    rw [bnd_s w2]
    refine fin _ _ _ ((VR.whole (by omega)).mpr rfl) (fun z => ?_) w1 hreal
    rw [z]; exact wh4_idem x1
theorem step_eq {g gT g2 gs : Gs} {srt : Nat → Nat} {many bells S t : Nat} (hTb : Tb g2) (hst : StR g gs srt many bells S t) (x : Int64) : ∃ r g' gs', f_X12_step g x = some (r, g') ∧ f_X11_step gT g2 gs x = some (r, gs') ∧ StR g' gs' srt many bells S t ∧ Fr [91] g g' := by
  unfold f_X12_step f_X11_step
  rw [bnd_s (isFin12 x), bnd_s (isFin6 x), sgB_if, sgB_if]
  by_cases hf : fin64 x = true
  · obtain ⟨s, u, hd⟩ := fin64_dv hf
    rw [if_pos hf, if_pos hf, bnd_s (f_realOf hTb hd)]
    obtain ⟨⟨d1, d2, d3, d4⟩, h2⟩ := hst
    exact ⟨_, _, _, rfl, rfl, ⟨⟨d1, d2, VR.seven.mpr ⟨rfl, s, u, hd⟩, d4⟩, h2⟩, Fr.sL (by decide) _ _⟩
  · rw [if_neg hf, if_neg hf]; exact ⟨_, _, _, rfl, rfl, hst, Fr.refl _ _⟩
