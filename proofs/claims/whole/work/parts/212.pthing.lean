/-! plans' texts: things -/
theorem tell_both {n hQ hP L T : Nat} {g2 gt g g1 gr gs gp gc : Gs} {B : Nat → Nat} {j c l r0 : Nat} (hS : ScR n g2 L B g T) (ht : TokAt L B g gt j gs) (hj : j + 1 < T) (hk : tk g j = 2) (hR : gR gr 14 = some hQ ∧ gR gr 15 = some hP) (hm : Tm g1 gr) (h16 : gI gr 16 = -1 ↔ gI gc 10 = 0) (hc : gI gc 10 = 0 → c ≤ l) (hl : l ≤ 40) (hr : r0 + l ≤ 60) (hL : L ≤ 3000) (hbt : ∀ p, p < L → byt (gIA gt 0 p)) : ∃ num g' gr' gs' gp' gc', (if c = l then f_X12_much g1 (nI (ta g j)) else some g1) = some g' ∧ f_X5_tell n hQ hP gr gt gs g2 gp gc (nI r0) (nI (min c l)) (nI l) = some (num, gr', gs', gp', gc') ∧ TokAt L B g gt (j + 1) gs' ∧ Fr scA gs gs' ∧ Tm g' gr' ∧ Fr [23] g1 g' ∧ Fr [16] gr gr' ∧ Fr [10] gc gc' ∧ (gI gr' 16 = -1 ↔ gI gc' 10 = 0) ∧ ((num = nI c ∧ c < l ∧ g' = g1 ∧ gr' = gr ∧ gc' = gc ∧ gp' = nameP gp gt (r0 + c) (ta g j) (te g j - ta g j)) ∨ (num = -1 ∧ l ≤ c ∧ gp' = gp ∧ ¬ gI gc' 10 = 0)) := by
  obtain ⟨l1, l2, l3⟩ := len10 hS (by omega) hk
  have lt := hS.len hj
  obtain ⟨gs', a1, a2, a3⟩ := ht.next hS hj
  have h5 : gI gs 5 = nI (ta g j) := ht.2.2.1
  have h6 : gI gs 6 = nI (te g j - ta g j) := ht.2.2.2.2.1 hk
  have rq : rEq (gR gr 14) hQ = true := decide_eq_true hR.1
  by_cases hcl : c < l
  · refine ⟨nI c, g1, gr, gs', nameP gp gt (r0 + c) (ta g j) (te g j - ta g j), gc, by rw [if_neg (by omega)], ?_, a2, a3, hm, Fr.refl _ _, Fr.refl _ _, Fr.refl _ _, h16, .inl ⟨rfl, hcl, rfl, rfl, rfl, rfl⟩⟩
    unfold f_X5_tell b_X5_tell_10 b_X5_tell_61
    rw [Nat.min_eq_left (by omega), if_neg (show ¬ nI l ≤ nI c from nI_ge (b := l) hcl (by omega)), if_neg (nI_ne_m1 (by omega)), grd_t rq, h5, h6, nI_add, bnd_s (put_name (by omega) (by omega) l1 (fun i hi => hbt _ (by omega))), bnd_s a1]
  · obtain ⟨g', gr', gc', m1, m2, m3, m4, m5, m6, m7, m8⟩ := much_both (hP := hP) (gc := gc) (p := ta g j) hm hR.2 (by omega)
    have t1 : f_X5_tell n hQ hP gr gt gs g2 gp gc (nI r0) (nI (min c l)) (nI l) = some (-1, gr', gs', gp, gc') := by
      unfold f_X5_tell b_X5_tell_10 b_X5_tell_61
      rw [Nat.min_eq_right (by omega), if_pos (show nI l ≤ nI l from Int32.le_refl _), if_pos rfl, h5, bnd_s m2, bnd_s a1]
    by_cases hce : c = l
    · exact ⟨-1, g', gr', gs', gp, gc', by rw [if_pos hce]; exact m1, t1, a2, a3, m3, m4, m5, m6, ⟨fun z => absurd z m7, fun z => absurd z (m8 h16)⟩, .inr ⟨rfl, by omega, rfl, m8 h16⟩⟩
    · -- too much was told before
      have hcl2 : ¬ gI gc 10 = 0 := fun z => by have := hc z; omega
      have hgr : ¬ gI gr 16 = -1 := fun z => hcl2 (h16.mp z)
      have e2 : f_X5_noteTooMuch hP gr gc (nI (ta g j)) = some (gr, gc) := by unfold f_X5_noteTooMuch; rw [if_neg hgr]
      have t2 : f_X5_tell n hQ hP gr gt gs g2 gp gc (nI r0) (nI (min c l)) (nI l) = some (-1, gr, gs', gp, gc) := by
        unfold f_X5_tell b_X5_tell_10 b_X5_tell_61
        rw [Nat.min_eq_right (by omega), if_pos (show nI l ≤ nI l from Int32.le_refl _), if_pos rfl, h5, bnd_s e2, bnd_s a1]
      exact ⟨-1, g1, gr, gs', gp, gc, by rw [if_neg hce], t2, a2, a3, hm, Fr.refl _ _, Fr.refl _ _, Fr.refl _ _, h16, .inr ⟨rfl, by omega, rfl, hcl2⟩⟩
theorem ta_mono {n L T : Nat} {g2 G : Gs} {B : Nat → Nat} (hS : ScR n g2 L B G T) : ∀ {k j : Nat}, j ≤ k → k < T → ta G j ≤ ta G k := by
  intro k
  induction k with
  | zero => intro j hj _; rw [show j = 0 by omega]; exact Nat.le_refl _
  | succ k ih =>
    intro j hj hk
    by_cases h : j = k + 1
    · rw [h]; exact Nat.le_refl _
    · have := ih (j := j) (by omega) (by omega)
      have := hS.len hk
      omega
/-- both refuse -/
def RfI (L T : Nat) (gt : Gs) (B : Nat → Nat) (g gr gs gp gc : Gs) (g' : Gs) (cls : Option (Int32 × Gs × Gs × Gs × Gs)) : Prop := ∃ j' gr' gs' gp' gc', cls = some (0, gr', gs', gp', gc') ∧ gI g' 21 = 1 ∧ gI g' 22 = nI (ta g j') ∧ TokAt L B g gt j' gs' ∧ j' < T ∧ Fr parP g g' ∧ Fr rdA gr gr' ∧ Fr scA gs gs' ∧ Fr plA gp gp' ∧ Fr cfA gc gc'
def PCm (g gp : Gs) (ca ce : Nat) : Prop := ∀ c, c < ca → ∃ m a, gIA g 54 c = nI a ∧ a + m ≤ ce ∧ gIA g 55 c = nI m ∧ gIA gp 13 c = nI m ∧ m ≤ 24 ∧ ∀ k, k < m → VR 7 (gLA g 56 (a + k)) 0 (gDA gp 12 (24 * c + k))
/-- between two items of a plan -/
def MP (n hQ hP L T : Nat) (g2 gt : Gs) (B : Nat → Nat) (g gr gs gp gc : Gs) (j th be ca : Nat) : Prop := ∃ N A M f ce E, MR n hQ hP L T g2 gt B g gr gs gc j N A M f E ∧ (gI g 33 = nI th ∧ gI g 34 = nI be ∧ gI g 35 = nI ca ∧ gI g 36 = nI ce) ∧ (gI gp 4 = nI (min th 40) ∧ gI gp 5 = nI (min be 12) ∧ gI gp 6 = nI (min ca 8)) ∧ (8 * th ≤ ta g j ∧ 8 * be ≤ ta g j ∧ 8 * ca ≤ ta g j ∧ 2 * ce ≤ j) ∧ (gI gc 10 = 0 → (th ≤ 40 ∧ be ≤ 12 ∧ ca ≤ 8 ∧ f ≤ 2 * th + be) ∧ ∃ FA tn fn rkk, PN T g gt gp gc j th be ca f A M E FA ∧ PI g gp gc th be f FA M tn fn rkk ∧ PCm g gp ca ce)
def ItOut (n hQ hP L T : Nat) (g2 gt : Gs) (B : Nat → Nat) (g gr gs gp gc : Gs) (j : Nat) (b : Int32) (g' : Gs) (cls : Option (Int32 × Gs × Gs × Gs × Gs)) : Prop := (b = 1 ∧ ∃ j' gr' gs' gp' gc' th be ca, cls = some (1, gr', gs', gp', gc') ∧ MP n hQ hP L T g2 gt B g' gr' gs' gp' gc' j' th be ca ∧ j < j' ∧ Fr parP g g' ∧ Fr rdA gr gr' ∧ Fr scA gs gs' ∧ Fr plA gp gp' ∧ Fr cfA gc gc') ∨ (b = 0 ∧ RfI L T gt B g gr gs gp gc g' cls)
/-- both at a token where nothing can go on -/
theorem RfI.of {L T : Nat} {gt : Gs} {B : Nat → Nat} {g gr gs gp gc gX gr' gs' gp' gc' : Gs} {j' : Nat} (hf : Fr parP g gX) (hT : j' < T) (ht : TokAt L B gX gt j' gs') (h1 : Fr rdA gr gr') (h2 : Fr scA gs gs') (h3 : Fr plA gp gp') (h4 : Fr cfA gc gc') : RfI L T gt B g gr gs gp gc (sI (sI gX 21 1) 22 (nI (ta gX j'))) (some (0, gr', gs', gp', gc')) := by
  have e := (tok_same hf (by decide)).2.1
  refine ⟨j', gr', gs', gp', gc', rfl, rfl, by rw [← e]; rfl, ?_, hT, (hf.trans (Fr.sI (by decide) _ _)).trans (Fr.sI (by decide) _ _), h1, h2, h3, h4⟩
  obtain ⟨e1, e2, e3, e4, e5⟩ := tok_same hf (by decide)
  unfold TokAt at *
  rw [← e1, ← e2, ← e3, ← e4, ← e5]
  exact ht
