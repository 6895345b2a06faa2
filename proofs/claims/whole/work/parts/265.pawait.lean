/-! await on both sides -/
theorem await_eq {n L h8 h10 h11 th be ca S t : Nat} {g gT gt g2 gs gm gp gq gc gr gsc gN gS : Gs} {srt : Nat → Nat} (hn : 20000 ≤ n) (hTb : Tb g2) (hTp : TpR g gT gt L) (h7 : ∀ k, k < 26 → gLA g 7 k = lN (Wl.getD k 0)) (h59 : gI g 59 = 0) (hpl : PlR g gp gq srt th be ca) (hnm : NmR g gp th be ca) (hst : StR g gs srt th be S t) (hR8 : gR gT 8 = some h8) (hR10 : gR gT 10 = some h10) (hR11 : gR gT 11 = some h11) (h97 : gL g 97 = gL gT 13) (h21 : gI g 21 = gI gT 12) (hS : S ≤ 52 * t) (ht : t + 500 ≤ 1000000) (x : Int32) :
    ∃ r g' gT' gs' gm' gc' gr' gsc' gN' gS' S' t', f_X12_await n g x = some (r, g') ∧ f_X11_await n h8 h10 h11 gT gt g2 gs gm gp gq gc gr gsc gN gS x = some (r, gT', gs', gm', gc', gr', gsc', gN', gS') ∧ Fr (askY ++ awtX) g g' ∧ Lw g g' ∧ TpR g' gT' gt 0 ∧ gI g' 21 = gI gT' 12 ∧ gL g' 97 = gL gT' 13 ∧ Fr [1, 12, 13] gT gT' ∧ StR g' gs' srt th be S' t' ∧ S' ≤ 52 * t' ∧ t' ≤ t + 500 ∧ (x < 0 ∨ (500 : Int32) < x → gc' = gc ∧ gr' = gr ∧ gsc' = gsc ∧ gN' = gN ∧ gS' = gS) := by
  have tp : ∀ gX gY : Gs, gI gX 4 = 0 → gI gY 1 = 0 → TpR gX gY gt 0 := fun gX gY y1 y2 => ⟨by omega, y1, y2, fun p hp => by omega⟩
  have low : ∀ {X : List Nat} {a b : Gs}, Fr X a b → (14 ∉ X ∧ 15 ∉ X ∧ 16 ∉ X ∧ 17 ∉ X ∧ 18 ∉ X) → Lw a b := fun hf hX => (show Lw _ _ from fun _ _ => ⟨rfl, rfl, rfl, rfl, rfl⟩).fr hf hX
  have out : f_X12_await n g x = some (-1, sI g 4 0) → f_X11_await n h8 h10 h11 gT gt g2 gs gm gp gq gc gr gsc gN gS x = some (-1, sI gT 1 0, gs, gm, gc, gr, gsc, gN, gS) → ∃ r g' gT' gs' gm' gc' gr' gsc' gN' gS' S' t', f_X12_await n g x = some (r, g') ∧ f_X11_await n h8 h10 h11 gT gt g2 gs gm gp gq gc gr gsc gN gS x = some (r, gT', gs', gm', gc', gr', gsc', gN', gS') ∧ Fr (askY ++ awtX) g g' ∧ Lw g g' ∧ TpR g' gT' gt 0 ∧ gI g' 21 = gI gT' 12 ∧ gL g' 97 = gL gT' 13 ∧ Fr [1, 12, 13] gT gT' ∧ StR g' gs' srt th be S' t' ∧ S' ≤ 52 * t' ∧ t' ≤ t + 500 ∧ (x < 0 ∨ (500 : Int32) < x → gc' = gc ∧ gr' = gr ∧ gsc' = gsc ∧ gN' = gN ∧ gS' = gS) := fun e1 e2 => ⟨_, _, _, _, _, _, _, _, _, _, S, t, e1, e2, Fr.sI (by decide) _ _, low (Fr.sI (A := [4]) (by decide) _ _) (by decide), tp _ _ rfl rfl, h21, h97, Fr.sI (by decide) _ _, hst.fr (Fr.sI (A := [4]) (by decide) _ _) (by decide), hS, by omega, fun _ => ⟨rfl, rfl, rfl, rfl, rfl⟩⟩
  rcases pk_ix x (n := 501) (by omega) with z | z | ⟨i, hi, rfl⟩
  · refine out ?_ ?_
    · unfold f_X12_await; rw [if_pos z]; rfl
    · unfold f_X11_await; rw [if_pos z]; rfl
  · have zl : ¬ x ≤ (500 : Int32) := fun y => nI_ge (a := 500) (b := 501) (by omega) (by omega) (Int32.le_trans z y)
    by_cases z0 : x < 0
    · refine out ?_ ?_
      · unfold f_X12_await; rw [if_pos z0]; rfl
      · unfold f_X11_await; rw [if_pos z0]; rfl
    · refine out ?_ ?_
      · unfold f_X12_await; rw [if_neg z0, if_neg zl]; rfl
      · unfold f_X11_await; rw [if_neg z0, if_neg zl]; rfl
  · have z0 : ¬ nI i < 0 := nI_pos (by omega)
    have zl : nI i ≤ (500 : Int32) := nI_le (b := 500) (by omega) (by omega)
    have zc : nI i < 0 ∨ (500 : Int32) < nI i → gc = gc ∧ False := fun y => y.elim (fun y => absurd y z0) (fun y => absurd y (nI_nlt (a := 500) (by omega) (by omega)))
    obtain ⟨c, g', gr', gs', gN', gS', gc', e, x2, x3, x4, x5, x6⟩ := readAsked_eq (gc := gc) (gr := gr) (gsc := gsc) (gN := gN) (gS := gS) hn hTb hTp h7 h59 hpl hnm hR8 hR10 hR11
    have fT : Fr [1, 12, 13] gT (sI (sI gT 12 c) 1 0) := (Fr.sI (by decide) _ _).trans (Fr.sI (by decide) _ _)
    have q97 : gL g' 97 = gL gT 13 := by rw [(x2 97 (by decide)).2.1]; exact h97
    have hst' := hst.fr x2 (by decide)
    unfold f_X12_await f_X11_await
    rw [if_neg z0, if_neg z0, if_pos zl, if_pos zl, bnd_s e]
    rcases x6 with ⟨y1, y2, y3⟩ | ⟨rfl, A, ts, d, m, hA, htt, hd, y2, y3, y4, y5, y6, y7⟩
    · have hc : ¬ c = 0 := by rcases y1 with rfl | rfl | rfl | rfl <;> decide
      refine ⟨-1, g', sI (sI gT 12 c) 1 0, gs, gm, gc', gr', gs', gN', gS', S, t, ?_, ?_, x2.mono (by decide), x4, tp _ _ x3 rfl, x5, q97, fT, hst', hS, by omega, fun y => absurd (zc y).2 id⟩
      · rw [bnd_s y2]
        show (if (-1 : Int32) ≤ 0 then b_X12_await_34 n (L_X12_await n n) g' (nI i) (-1) else _) = _
        rw [if_pos (show (-1 : Int32) ≤ 0 by decide)]
        unfold b_X12_await_34
        rw [if_neg (show ¬ (-1 : Int32) = 0 by decide)]
      · unfold b_X11_await_22 b_X11_await_44
        rw [if_neg (show ¬ gI (sI (sI gT 12 c) 1 0) 12 = 0 from hc), if_neg (show ¬ gI (sI (sI gT 12 c) 1 0) 12 = 0 from hc)]
    · by_cases hts : ts = 0
      · subst hts
        obtain ⟨r, gF, gsF, gmF, S', t', w1, w2, w3, w4, w5, w6, w7⟩ := await_loop (n := n) (h8 := h8) (h10 := h10) (h11 := h11) (x := i) (gT := sI (sI gT 12 0) 1 0) (gt := gt) (g2 := g2) (gp := gp) (gq := gq) (gc := gc') (gr := gr') (gsc := gs') (gN := gN') (gS := gS') hn hTb hA (by omega) hd hR8 y4 y5 i n n 0 S t g' gs gm (by omega) (by omega) (by omega) hS (by omega) y3 hst' (hpl.low x2 x4 (by decide)) y7
        refine ⟨r, gF, sI (sI gT 12 0) 1 0, gsF, gmF, gc', gr', gs', gN', gS', S', t', ?_, ?_, (x2.mono (by decide)).trans (w6.mono (by decide)), x4.fr w6 (by decide), tp _ _ ((w6 4 (by decide)).1.trans x3) rfl, (w6 21 (by decide)).1.trans x5, (w6 97 (by decide)).2.1.trans q97, fT, w3, w4, by omega, fun y => absurd (zc y).2 id⟩
        · rw [bnd_s y2]
          show (if nI 0 ≤ (0 : Int32) then b_X12_await_34 n (L_X12_await n n) g' (nI i) (nI 0) else _) = _
          rw [if_pos (show nI 0 ≤ (0 : Int32) by decide)]
          unfold b_X12_await_34
          rw [if_pos (show nI 0 = (0 : Int32) from rfl)]
          exact w1
        · unfold b_X11_await_22 b_X11_await_44
          rw [if_pos (show gI (sI (sI gT 12 0) 1 0) 12 = 0 from rfl), if_pos (show gI (sI (sI gT 12 0) 1 0) 12 = 0 from rfl), grd_t (show inB (0 : Int32) 92 = true by decide), show (0 : Int32).toNatClampNeg = 0 from rfl, y6, if_pos (show nI 0 = (0 : Int32) from rfl)]
          exact w2
      · have n0 : ¬ nI ts = (0 : Int32) := fun y => hts ((nI_eq (b := 0) (by omega) (by omega)).mp y)
        have n1 : ¬ nI ts ≤ (0 : Int32) := nI_ge (a := 0) (b := ts) (by omega) (by omega)
        have f2 : Fr [21, 22] g' (sI (sI g' 21 4) 22 0) := (Fr.sI (by decide) _ _).trans (Fr.sI (by decide) _ _)
        refine ⟨-1, sI (sI g' 21 4) 22 0, sI (sI (sI gT 12 0) 1 0) 12 4, gs, gm, gc', gr', gs', gN', gS', S, t, ?_, ?_, (x2.mono (by decide)).trans (f2.mono (by decide)), x4.fr f2 (by decide), tp _ _ x3 rfl, rfl, q97, fT.trans (Fr.sI (by decide) _ _), hst'.fr f2 (by decide), hS, by omega, fun y => absurd (zc y).2 id⟩
        · rw [bnd_s y2]
          show (if nI ts ≤ (0 : Int32) then _ else bnd (f_X12_fault g' 4 0) (fun q_7 => b_X12_await_34 n (L_X12_await n n) q_7.2 (nI i) (nI ts))) = _
          rw [if_neg n1]
          show b_X12_await_34 n (L_X12_await n n) (sI (sI g' 21 4) 22 0) (nI i) (nI ts) = _
          unfold b_X12_await_34
          rw [if_neg n0]
        · unfold b_X11_await_22 b_X11_await_44
          rw [if_pos (show gI (sI (sI gT 12 0) 1 0) 12 = 0 from rfl), grd_t (show inB (0 : Int32) 92 = true by decide), show (0 : Int32).toNatClampNeg = 0 from rfl, y6, if_neg n0, if_neg (show ¬ gI (sI (sI (sI gT 12 0) 1 0) 12 4) 12 = 0 by show ¬ (4 : Int32) = 0; decide)]
