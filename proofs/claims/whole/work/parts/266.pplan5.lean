/-! plan on both sides -/
abbrev planZ : List Nat := planX ++ setX ++ valX
theorem plan_eq {n L h8 h9 h11 th be ca S t : Nat} {aT : Nat → Nat} {g gT gt g2 gs gm gp gq g9 c9 gr gsc gN gS : Gs} {srt : Nat → Nat} (hn : 20000 ≤ n) (hTb : Tb g2) (hTp : TpR g gT gt L) (h7 : ∀ k, k < 26 → gLA g 7 k = lN (Wl.getD k 0)) (h59 : gI g 59 = 0) (hst : StR g gs srt th be S t) (hR8 : gR gT 8 = some h8) (hR9 : gR gT 9 = some h9) (hR11 : gR gT 11 = some h11) :
    ∃ r g' gT' gs' gm' gp' gc' gr' gsc' gN' gS', f_X12_plan n g = some (r, g') ∧ f_X11_plan n h8 h9 aT h11 gT gt g2 gs gm gp gq g9 c9 gr gsc gN gS = some (r, gT', gs', gm', gp', gc', gr', gsc', gN', gS') ∧ TpR g' gT' gt 0 ∧ gI g' 59 = 0 ∧ gI g' 21 = gI gT' 12 ∧ Fr planZ g g' ∧ Fr [1, 8, 9, 12] gT gT' ∧
      ((gR gT' 8 = some h8 ∧ gR gT' 9 = some h9 ∧ gs' = gs ∧ Lw g g' ∧ Fr planX g g') ∨
       (gR gT' 8 = some h9 ∧ gR gT' 9 = some h8 ∧ ∃ th' be' ca' srt', PlR g' gp' gc' srt' th' be' ca' ∧ NmR g' gp' th' be' ca' ∧ StR g' gs' srt' th' be' 0 0 ∧ gI g' 64 = gI g 64 + 1 ∧ gI g' 63 = gI gc' 9 ∧ gI gs' 16 = gI gs 16 + 1)) := by
  obtain ⟨B, hB⟩ := tape_B hTp
  obtain ⟨hL, h4, h1, hp⟩ := id hTp
  have tp : ∀ gX gY : Gs, gI gX 4 = 0 → gI gY 1 = 0 → TpR gX gY gt 0 := fun gX gY y1 y2 => ⟨by omega, y1, y2, fun p hp => by omega⟩
  obtain ⟨c, g', gr', gs', gN', gS', gp', gc', x1, x2, ⟨x3, x3'⟩, x4, x5, x6, x7, x8, x9, x10, x11⟩ := plan_read (n := n) (hQ := h9) (hP := aT 0) (gr := gr) (gs := gsc) (gN := gN) (gS := gS) (gp := g9) (gc := c9) (aP := aT) hn hTb hL h4 (fun p hp' => (hp p hp').1) hB h7 (fun p hp' => (hp p hp').2) rfl (rd_ok n) h59
  have e : f_X11_plan n h8 h9 aT h11 gT gt g2 gs gm gp gq g9 c9 gr gsc gN gS = (if c = 0 then (grd (rEq (gR gT 8) h8) (bnd (f_X9_clear n gs) (fun q_8 => bnd (f_X1_start n gm g2 (sI q_8 16 ((gI q_8 16) + (1 : Int32))) gp' gc') (fun q_10 => some (gI gp' 4, (sR (sR (sI (sI (sR gT 9 (some h9)) 12 c) 1 (0 : Int32)) 9 (some h8)) 8 (some h9)), q_10.2, q_10.1, gp', gc', gr', gs', gN', gS'))))) else (some ((-1 : Int32) - (gI gr' 17), (sI (sI (sR gT 9 (some h9)) 12 c) 1 (0 : Int32)), gs, gm, gp', gc', gr', gs', gN', gS'))) := by
    unfold f_X11_plan b_X11_plan_4 b_X11_plan_26 f_X11_readerOfTape
    rw [grd_t (show rEq (gR gT 11) h11 = true from decide_eq_true hR11), bnd_s rfl, grd_t (show rEq (gR gT 9) h9 = true from decide_eq_true hR9), grd_t (show rEq (gR gT 9) h9 = true from decide_eq_true hR9), h1, bnd_s x1]
  have fT : Fr [1, 8, 9, 12] gT (sI (sI (sR gT 9 (some h9)) 12 c) 1 0) := ((Fr.sR (by decide) _ _).trans (Fr.sI (by decide) _ _)).trans (Fr.sI (by decide) _ _)
  rcases x11 with ⟨y1, y2, y3⟩ | ⟨rfl, y2, y3, y4⟩
  · have hc : ¬ c = 0 := by rcases y1 with rfl | rfl | rfl | rfl <;> decide
    exact ⟨_, g', sI (sI (sR gT 9 (some h9)) 12 c) 1 0, gs, gm, gp', gc', gr', gs', gN', gS', y2, by rw [e, if_neg hc], tp _ _ x3 rfl, x3', y3, x2.mono (by decide), fT, .inl ⟨hR8, rfl, rfl, x4, x2⟩⟩
  · obtain ⟨⟨_, _, hStep, _⟩, _, _, _, hstr, _⟩ := hst
    obtain ⟨th', be', ca', srt', gG, gs1, gs2, gm', z1, z2, z3, z4, z5, z6, z7, z8, z9, z10, z11, z12⟩ := settle_both (gs := gs) (gm := gm) hn hTb hL (fun q hq => by rw [← (hp q hq).2]; exact (hp q hq).1) y4 (by rw [(x2 91 (by decide)).2.1]; exact hStep) (fun k hk => by rw [(x2 89 (by decide)).2.2.2.2.1, (x2 90 (by decide)).2.2.2.1]; exact hstr k hk)
    have fG : Fr planZ g gG := (x2.mono (by decide)).trans (z7.mono (by decide))
    refine ⟨gI gG 60, gG, sR (sR (sI (sI (sR gT 9 (some h9)) 12 0) 1 0) 9 (some h8)) 8 (some h9), gs2, gm', gp', gc', gr', gs', gN', gS', ?_, ?_, tp _ _ ((z7 4 (by decide)).1.trans x3) rfl, (z7 59 (by decide)).1.trans x3', (z7 21 (by decide)).1.trans y3, fG, (fT.trans (Fr.sR (by decide) _ _)).trans (Fr.sR (by decide) _ _), .inr ⟨rfl, rfl, th', be', ca', srt', z4, z5, z6, ?_, z9, z11⟩⟩
    · rw [y2, bnd_s z1]
    · rw [e, if_pos rfl, grd_t (show rEq (gR gT 8) h8 = true from decide_eq_true hR8), bnd_s z2, bnd_s z3, z4.2.2.1, z4.2.2.2.1]
    · rw [z8, (x2 64 (by decide)).1]
