/-! ask and await on both sides -/
abbrev wkX : List Nat := [0, 1, 2, 92, 93, 94, 95, 96]
abbrev askY : List Nat := [0, 1, 2, 4, 5, 6, 8, 9, 10, 11, 12, 13, 14, 15, 16, 17, 18, 19, 20, 21, 22, 23, 24, 25, 26, 27, 28, 29, 30, 31, 32, 57, 58, 92, 93, 94, 95, 96, 97]
/-- the tape's bytes without sign -/
theorem tape_B {g gT gt : Gs} {L : Nat} (h : TpR g gT gt L) : ∃ B : Nat → Nat, ∀ p, p < L → B p < 256 ∧ gIA g 3 p &&& 255 = nI (B p) := by
  refine ⟨fun p => (gIA g 3 p &&& 255).toUInt32.toNat, fun p _ => ?_⟩
  have e : ∀ x : Int32, (x &&& 255).toUInt32.toNat < 256 ∧ x &&& 255 = nI (x &&& 255).toUInt32.toNat := by
    intro x
    have h1 : (x &&& 255).toUInt32.toNat = (x.toBitVec &&& 255#32).toNat := rfl
    refine ⟨?_, ?_⟩
    · rw [h1, BitVec.toNat_and]
      exact Nat.lt_of_le_of_lt Nat.and_le_right (by decide)
    · apply Int32.toBitVec_inj.mp
      show x.toBitVec &&& 255#32 = BitVec.ofNat 32 (x.toBitVec &&& 255#32).toNat
      rw [BitVec.ofNat_toNat]
      exact (BitVec.setWidth_eq _).symm
  exact e _
theorem readAsked_eq {n L h8 h10 h11 th be ca : Nat} {g gT gt g2 gp gq gc gr gsc gN gS : Gs} {srt : Nat → Nat} (hn : 20000 ≤ n) (hTb : Tb g2) (hTp : TpR g gT gt L) (h7 : ∀ k, k < 26 → gLA g 7 k = lN (Wl.getD k 0)) (h59 : gI g 59 = 0) (hpl : PlR g gp gq srt th be ca) (hnm : NmR g gp th be ca) (hR8 : gR gT 8 = some h8) (hR10 : gR gT 10 = some h10) (hR11 : gR gT 11 = some h11) :
    ∃ c g' gr' gs' gN' gS' gc', f_X11_readAsked n h8 h10 h11 gT gt g2 gp gc gr gsc gN gS = some (sI (sI gT 12 c) 1 0, gc', gr', gs', gN', gS') ∧ Fr askX g g' ∧ gI g' 4 = 0 ∧ Lw g g' ∧ gI g' 21 = c ∧
      (((c = 1 ∨ c = 2 ∨ c = 3 ∨ c = 4) ∧ f_X12_asks n g = some (-1, g') ∧ gI g' 22 = gI gr' 17) ∨
       (c = 0 ∧ ∃ A t d m, A ≤ 840 ∧ t ≤ 7 ∧ d ≤ 400 ∧ f_X12_asks n g = some (nI t, g') ∧ gI g' 19 = nI (2000 + A) ∧ f_X0_beginOf gc' (nI 0) = some (nI 0) ∧ f_X0_endOf gc' (nI 0) = some (nI A) ∧ gIA gc' 17 0 = nI t ∧ Ex g' gc' 2000 srt th ca m 0 A t d)) := by
  obtain ⟨B, hB⟩ := tape_B hTp
  obtain ⟨hL, h4, h1, hp⟩ := hTp
  obtain ⟨c, g', gr', gs', gN', gS', gc', x1, x2, x3, x4, x5, x6, x7, x8, x9, x10⟩ := asks_both (hQ := h8) (hP := h10) (gr := gr) (gs := gsc) (gN := gN) (gS := gS) (gc := gc) hn hTb hL h4 (fun p hp' => (hp p hp').1) hB h7 (fun p hp' => (hp p hp').2) h59 hpl hnm
  have e : f_X11_readAsked n h8 h10 h11 gT gt g2 gp gc gr gsc gN gS = some (sI (sI gT 12 c) 1 0, gc', gr', gs', gN', gS') := by
    unfold f_X11_readAsked b_X11_readAsked_22 b_X11_readAsked_27 f_X11_readerOfTape
    rw [grd_t (show rEq (gR gT 10) h10 = true from decide_eq_true hR10), grd_t (show rEq (gR gT 11) h11 = true from decide_eq_true hR11), bnd_s rfl, grd_t (show rEq (gR gT 8) h8 = true from decide_eq_true hR8), h1, bnd_s x1]
  refine ⟨c, g', gr', gs', gN', gS', gc', e, x2, x3, x4, ?_, ?_⟩
  · rcases x10 with ⟨_, _, y, _⟩ | ⟨y1, y2, _⟩
    · exact y
    · rw [y1]; exact y2
  · rcases x10 with ⟨y1, y2, y3, y4⟩ | ⟨y1, y2, y3⟩
    · exact .inl ⟨y1, y2, y4⟩
    · exact .inr ⟨y1, y3⟩
theorem ask_eq {n L h8 h10 h11 th be ca S t : Nat} {g gT gt g2 gs gm gp gq gc gr gsc gN gS : Gs} {srt : Nat → Nat} (hn : 20000 ≤ n) (hTb : Tb g2) (hTp : TpR g gT gt L) (h7 : ∀ k, k < 26 → gLA g 7 k = lN (Wl.getD k 0)) (h59 : gI g 59 = 0) (hpl : PlR g gp gq srt th be ca) (hnm : NmR g gp th be ca) (hst : StR g gs srt th be S t) (hR8 : gR gT 8 = some h8) (hR10 : gR gT 10 = some h10) (hR11 : gR gT 11 = some h11) (h97 : gL g 97 = gL gT 13) :
    ∃ r g' gT' gm' gc' gr' gs' gN' gS', f_X12_ask n g = some (r, g') ∧ f_X11_ask n h8 h10 h11 gT gt g2 gs gm gp gc gr gsc gN gS = some (r, gT', gm', gc', gr', gs', gN', gS') ∧ Fr askY g g' ∧ Lw g g' ∧ TpR g' gT' gt 0 ∧ gI g' 21 = gI gT' 12 ∧ gL g' 97 = gL gT' 13 ∧ Fr [1, 12, 13] gT gT' := by
  obtain ⟨c, g', gr', gs', gN', gS', gc', e, x2, x3, x4, x5, x6⟩ := readAsked_eq (gc := gc) (gr := gr) (gsc := gsc) (gN := gN) (gS := gS) hn hTb hTp h7 h59 hpl hnm hR8 hR10 hR11
  have fT : Fr [1, 12, 13] gT (sI (sI gT 12 c) 1 0) := (Fr.sI (by decide) _ _).trans (Fr.sI (by decide) _ _)
  have q97 : gL g' 97 = gL gT 13 := by rw [(x2 97 (by decide)).2.1]; exact h97
  have tp : ∀ gX gY : Gs, gI gX 4 = 0 → gI gY 1 = 0 → TpR gX gY gt 0 := fun gX gY y1 y2 => ⟨by omega, y1, y2, fun p hp => by omega⟩
  unfold f_X11_ask f_X12_ask
  rw [bnd_s e]
  rcases x6 with ⟨y1, y2, y3⟩ | ⟨rfl, A, ts, d, m, hA, ht, hd, y2, y3, y4, y5, y6, y7⟩
  · refine ⟨-1 - gI g' 22, g', sI (sI gT 12 c) 1 0, gm, gc', gr', gs', gN', gS', ?_, ?_, x2.mono (by decide), x4, tp _ _ x3 rfl, x5, q97, fT⟩
    · rw [bnd_s y2]; exact if_neg (show ¬ (0 : Int32) ≤ -1 by decide)
    · unfold b_X11_ask_4 f_X11_readerOfTape
      rw [if_neg (show ¬ gI (sI (sI gT 12 c) 1 0) 12 = 0 by show ¬ c = 0; rcases y1 with rfl | rfl | rfl | rfl <;> decide), grd_t (show rEq (gR (sI (sI gT 12 c) 1 0) 11) h11 = true from decide_eq_true hR11), bnd_s rfl, y3]
  · have hD := hst.1.fr x2 (by decide)
    have hC := hpl.2.2.2.2.2.2.2.2.2.2.fr x2 (by decide) (by decide)
    have w := works_run (n := n) (g := g') (gm := gm) (g2 := g2) (gs := gs) (gp := gp) (gc := gc') (off := 2000) (F := 0) (by omega) hTb hD hC hA (by omega) y4 y5 y7 hd
    have eT : (0 : Int32) ≤ nI ts := nI_le (a := 0) (b := ts) (by omega) (by omega)
    have eW : bnd (f_X12_asks n g) (fun q_1 => if 0 ≤ q_1.1 then (bnd (f_X12_works n q_1.2 (2000 : Int32) (gI q_1.2 19)) (fun q_3 => if q_3.1 = 0 then (some ((8 : Int32) + (gI q_3.2 95), q_3.2)) else (some (q_1.1, (sL q_3.2 97 (gL q_3.2 94)))))) else (some ((-1 : Int32) - (gI q_1.2 22), q_1.2))) = bnd (f_X12_works n g' (nI (2000 + 0)) (nI (2000 + A))) (fun q_3 => if q_3.1 = 0 then (some ((8 : Int32) + (gI q_3.2 95), q_3.2)) else (some (nI ts, (sL q_3.2 97 (gL q_3.2 94))))) := by
      rw [bnd_s y2]
      show (if (0 : Int32) ≤ nI ts then bnd (f_X12_works n g' 2000 (gI g' 19)) _ else _) = _
      rw [if_pos eT, y3]
      rfl
    rw [eW]
    unfold b_X11_ask_4
    rw [if_pos (show gI (sI (sI gT 12 0) 1 0) 12 = 0 from rfl), grd_t (show rEq (gR (sI (sI gT 12 0) 1 0) 8) h8 = true from decide_eq_true hR8)]
    rcases w with ⟨g1, gm1, w1, w2, w3, w4, w5, w6, w7⟩ | ⟨g1, gm1, w1, w2, w3, w4, w5, w6, w7⟩
    · refine ⟨nI ts, sL g1 97 (gL g1 94), sL (sI (sI gT 12 0) 1 0) 13 (gL g1 94), gm1, gc', gr', gs', gN', gS', ?_, ?_, ((x2.mono (by decide)).trans (w3.mono (by decide))).trans (Fr.sL (by decide) _ _), ?_, tp _ _ ((w3 4 (by decide)).1.trans x3) rfl, (w3 21 (by decide)).1.trans x5, rfl, fT.trans (Fr.sL (by decide) _ _)⟩
      · rw [bnd_s w1]; exact if_neg (show ¬ (1 : Int32) = 0 by decide)
      · rw [bnd_s (show f_X1_run n gm g2 gs gp gc' 0 = some (1, gm1) from w2)]
        show (if (1 : Int32) = 0 then _ else _) = _
        rw [if_neg (by decide), grd_t (by decide), grd_t (by decide), grd_t (by decide), show (0 : Int32).toNatClampNeg = 0 from rfl, y6, bnd_s (bitsOf_eq (by omega) hTb ht w6)]
      · exact (x4.fr w3 (by decide)).fr (Fr.sL (A := [97]) (by decide) _ _) (by decide)
    · refine ⟨8 + gI g1 95, g1, sI (sI gT 12 0) 1 0, gm1, gc', gr', gs', gN', gS', ?_, ?_, (x2.mono (by decide)).trans (w3.mono (by decide)), x4.fr w3 (by decide), tp _ _ ((w3 4 (by decide)).1.trans x3) rfl, (w3 21 (by decide)).1.trans x5, (w3 97 (by decide)).2.1.trans q97, fT⟩
      · rw [bnd_s w1]; exact if_pos rfl
      · rw [bnd_s (show f_X1_run n gm g2 gs gp gc' 0 = some (0, gm1) from w2)]
        show (if (0 : Int32) = 0 then _ else _) = _
        rw [if_pos rfl, w6]
abbrev awtX : List Nat := [81, 82, 87] ++ tickA
theorem await_loop {n h8 h10 h11 th be ca x A m dd : Nat} {gT gt g2 gp gq gc gr gsc gN gS : Gs} {srt : Nat → Nat} (hn : 20000 ≤ n) (hTb : Tb g2) (hA : A ≤ 840) (hx : x ≤ 500) (hdd : dd ≤ 400) (hR8 : gR gT 8 = some h8) (c11 : f_X0_beginOf gc (nI 0) = some (nI 0)) (c12 : f_X0_endOf gc (nI 0) = some (nI A)) : ∀ (d k1 k2 p S t : Nat) (g gs gm : Gs), p + d = x → d + 1 < k1 → d + 1 < k2 → S ≤ 52 * t → t + d ≤ 1000000 → gI g 19 = nI (2000 + A) → StR g gs srt th be S t → PlR g gp gq srt th be ca → Ex g gc 2000 srt th ca m 0 A 0 dd → ∃ r g' gs' gm' S' t', L_X12_await n k1 g (nI x) (nI p) = some (r, g') ∧ L_X11_await n h8 h10 h11 k2 gT gt g2 gs gm gp gq gc gr gsc gN gS (nI x) (nI p) = some (r, gT, gs', gm', gc, gr, gsc, gN, gS) ∧ StR g' gs' srt th be S' t' ∧ S' ≤ 52 * t' ∧ t' ≤ t + d ∧ Fr awtX g g' ∧ Fr [2, 3, 4, 5, 6] gm gm' := by
  intro d
  induction d with
  | zero =>
    intro k1 k2 p S t g gs gm h1 h2 h3 hS ht h19 hst hpl hex
    obtain ⟨k1, rfl⟩ : ∃ q, k1 = q + 2 := ⟨k1 - 2, by omega⟩
    obtain ⟨k2, rfl⟩ : ∃ q, k2 = q + 2 := ⟨k2 - 2, by omega⟩
    have w := works_run (n := n) (g := g) (gm := gm) (g2 := g2) (gs := gs) (gp := gp) (gc := gc) (off := 2000) (F := 0) (by omega) hTb hst.1 hpl.2.2.2.2.2.2.2.2.2.2 hA (by omega) c11 c12 hex hdd
    have e1 : L_X12_await n (k1 + 2) g (nI x) (nI p) = bnd (f_X12_works n g (nI (2000 + 0)) (nI (2000 + A))) (fun q_3 => if q_3.1 = 0 then (some ((-3 : Int32), q_3.2)) else (if (gL q_3.2 94) = (0 : Int64) then (some ((-2 : Int32), q_3.2)) else (some (nI p, q_3.2)))) := by
      show h_X12_await_42 n (L_X12_await n (k1 + 1)) g (nI x) (nI p) = _
      unfold h_X12_await_42 b_X12_await_84
      rw [if_neg (show ¬ nI x < nI p from nI_nlt (by omega) (by omega)), h19]
      simp only [if_pos (nI_le (show x ≤ p by omega) (show p < 2 ^ 31 by omega)), nI_1]
      have e2 : ∀ gX : Gs, L_X12_await n (k1 + 1) gX (nI x) (nI (p + 1)) = some (-2, gX) := fun gX => by
        show h_X12_await_42 n (L_X12_await n k1) gX (nI x) (nI (p + 1)) = _
        unfold h_X12_await_42
        rw [if_pos (nI_lt (show x < p + 1 by omega) (by omega))]
      simp only [e2]
      rfl
    have e3 : L_X11_await n h8 h10 h11 (k2 + 2) gT gt g2 gs gm gp gq gc gr gsc gN gS (nI x) (nI p) = bnd (f_X1_run n gm g2 gs gp gc (nI 0)) (fun q_4 => if q_4.1 = 0 then (some ((-3 : Int32), gT, gs, q_4.2, gc, gr, gsc, gN, gS)) else (if (gLA q_4.2 2 0) = (0 : Int64) then (some ((-2 : Int32), gT, gs, q_4.2, gc, gr, gsc, gN, gS)) else (some (nI p, gT, gs, q_4.2, gc, gr, gsc, gN, gS)))) := by
      show h_X11_await_55 n h8 h10 h11 (L_X11_await n h8 h10 h11 (k2 + 1)) gT gt g2 gs gm gp gq gc gr gsc gN gS (nI x) (nI p) = _
      unfold h_X11_await_55 b_X11_await_111
      have e2 : ∀ gX : Gs, L_X11_await n h8 h10 h11 (k2 + 1) gT gt g2 gs gX gp gq gc gr gsc gN gS (nI x) (nI (p + 1)) = some (-2, gT, gs, gX, gc, gr, gsc, gN, gS) := fun gX => by
        show h_X11_await_55 n h8 h10 h11 (L_X11_await n h8 h10 h11 k2) gT gt g2 gs gX gp gq gc gr gsc gN gS (nI x) (nI (p + 1)) = _
        unfold h_X11_await_55
        rw [if_pos (nI_lt (show x < p + 1 by omega) (by omega))]
      rw [if_neg (show ¬ nI x < nI p from nI_nlt (by omega) (by omega)), grd_t (show rEq (gR gT 8) h8 = true from decide_eq_true hR8)]
      simp only [if_pos (nI_le (show x ≤ p by omega) (show p < 2 ^ 31 by omega)), nI_1, e2, grd_t (show inB (0 : Int32) 512 = true by decide)]
      rfl
    rw [e1, e3]
    rcases w with ⟨g1, gm1, w1, w2, w3, w4, w5, w6, w7⟩ | ⟨g1, gm1, w1, w2, w3, w4, w5, w6, w7⟩
    · have ev := VRw (by decide) w6
      rw [bnd_s w1, bnd_s w2]
      show ∃ r g' gs' gm' S' t', (if (1 : Int32) = 0 then _ else _) = _ ∧ (if (1 : Int32) = 0 then _ else _) = _ ∧ _
      rw [if_neg (show ¬ (1 : Int32) = 0 by decide), if_neg (show ¬ (1 : Int32) = 0 by decide), ev]
      by_cases hz : gLA gm1 2 0 = 0
      · rw [if_pos hz, if_pos hz]
        exact ⟨_, g1, gs, gm1, S, t, rfl, rfl, hst.fr w3 (by decide), hS, by omega, w3.mono (by decide), w4⟩
      · rw [if_neg hz, if_neg hz]
        exact ⟨_, g1, gs, gm1, S, t, rfl, rfl, hst.fr w3 (by decide), hS, by omega, w3.mono (by decide), w4⟩
    · rw [bnd_s w1, bnd_s w2]
      exact ⟨-3, g1, gs, gm1, S, t, rfl, rfl, hst.fr w3 (by decide), hS, by omega, w3.mono (by decide), w4⟩
  | succ d ih =>
    intro k1 k2 p S t g gs gm h1 h2 h3 hS ht h19 hst hpl hex
    obtain ⟨k1, rfl⟩ : ∃ q, k1 = q + 1 := ⟨k1 - 1, by omega⟩
    obtain ⟨k2, rfl⟩ : ∃ q, k2 = q + 1 := ⟨k2 - 1, by omega⟩
    have w := works_run (n := n) (g := g) (gm := gm) (g2 := g2) (gs := gs) (gp := gp) (gc := gc) (off := 2000) (F := 0) (by omega) hTb hst.1 hpl.2.2.2.2.2.2.2.2.2.2 hA (by omega) c11 c12 hex hdd
    have e1 : L_X12_await n (k1 + 1) g (nI x) (nI p) = bnd (f_X12_works n g (nI (2000 + 0)) (nI (2000 + A))) (fun q_3 => if q_3.1 = 0 then (some ((-3 : Int32), q_3.2)) else (if (gL q_3.2 94) = (0 : Int64) then (bnd (f_X12_tick1 n q_3.2) (fun q_5 => L_X12_await n k1 q_5 (nI x) (nI (p + 1)))) else (some (nI p, q_3.2)))) := by
      show h_X12_await_42 n (L_X12_await n k1) g (nI x) (nI p) = _
      unfold h_X12_await_42 b_X12_await_84
      rw [if_neg (show ¬ nI x < nI p from nI_nlt (by omega) (by omega)), h19]
      simp only [if_neg (nI_ge (show p < x by omega) (show x < 2 ^ 31 by omega)), nI_1]
      rfl
    have e3 : L_X11_await n h8 h10 h11 (k2 + 1) gT gt g2 gs gm gp gq gc gr gsc gN gS (nI x) (nI p) = bnd (f_X1_run n gm g2 gs gp gc (nI 0)) (fun q_4 => if q_4.1 = 0 then (some ((-3 : Int32), gT, gs, q_4.2, gc, gr, gsc, gN, gS)) else (if (gLA q_4.2 2 0) = (0 : Int64) then (bnd (f_X1_turn n q_4.2 g2 gs gp gq) (fun q_8 => L_X11_await n h8 h10 h11 k2 gT gt g2 q_8.2 q_8.1 gp gq gc gr gsc gN gS (nI x) (nI (p + 1)))) else (some (nI p, gT, gs, q_4.2, gc, gr, gsc, gN, gS)))) := by
      show h_X11_await_55 n h8 h10 h11 (L_X11_await n h8 h10 h11 k2) gT gt g2 gs gm gp gq gc gr gsc gN gS (nI x) (nI p) = _
      unfold h_X11_await_55 b_X11_await_111
      rw [if_neg (show ¬ nI x < nI p from nI_nlt (by omega) (by omega)), grd_t (show rEq (gR gT 8) h8 = true from decide_eq_true hR8)]
      simp only [if_neg (nI_ge (show p < x by omega) (show x < 2 ^ 31 by omega)), nI_1, grd_t (show inB (0 : Int32) 512 = true by decide), grd_t (show rEq (gR gT 8) h8 = true from decide_eq_true hR8)]
      rfl
    rw [e1, e3]
    rcases w with ⟨g1, gm1, w1, w2, w3, w4, w5, w6, w7⟩ | ⟨g1, gm1, w1, w2, w3, w4, w5, w6, w7⟩
    · have ev := VRw (by decide) w6
      rw [bnd_s w1, bnd_s w2]
      show ∃ r g' gs' gm' S' t', (if (1 : Int32) = 0 then _ else _) = _ ∧ (if (1 : Int32) = 0 then _ else _) = _ ∧ _
      rw [if_neg (show ¬ (1 : Int32) = 0 by decide), if_neg (show ¬ (1 : Int32) = 0 by decide), ev]
      have hst1 := hst.fr w3 (by decide)
      by_cases hz : gLA gm1 2 0 = 0
      · rw [if_pos hz, if_pos hz]
        obtain ⟨g2', gs2, gm2, S2, t1, t2, t3, t4, t5, t6⟩ := tick1_both (n := n) (gm := gm1) (by omega) hTb hst1 (hpl.fr w3 (by decide)) hS (by omega)
        show ∃ r g' gs' gm' S' t', bnd (f_X12_tick1 n g1) _ = _ ∧ bnd (f_X1_turn n gm1 g2 gs gp gq) _ = _ ∧ _
        rw [bnd_s t1, bnd_s t2]
        have fX : Fr awtX g g2' := (w3.mono (by decide)).trans t5
        obtain ⟨r, g', gs', gm', S', t', z1, z2, z3, z4, z5, z6, z7⟩ := ih k1 k2 (p + 1) S2 (t + 1) g2' gs2 gm2 (by omega) (by omega) (by omega) t4 (by omega) (by rw [(fX 19 (by decide)).1]; exact h19) t3 (hpl.fr fX (by decide)) (hex.pt (fun i _ _ => ⟨by rw [(fX 14 (by decide)).2.2.2.1], by rw [(fX 15 (by decide)).2.2.2.1], by rw [(fX 16 (by decide)).2.2.2.1], by rw [(fX 17 (by decide)).2.2.2.1], by rw [(fX 18 (by decide)).2.2.2.2.1]⟩))
        exact ⟨r, g', gs', gm', S', t', z1, z2, z3, z4, by omega, fX.trans z6, (w4.trans t6).trans z7⟩
      · rw [if_neg hz, if_neg hz]
        exact ⟨_, g1, gs, gm1, S, t, rfl, rfl, hst1, hS, by omega, w3.mono (by decide), w4⟩
    · rw [bnd_s w1, bnd_s w2]
      exact ⟨-3, g1, gs, gm1, S, t, rfl, rfl, hst.fr w3 (by decide), hS, by omega, w3.mono (by decide), w4⟩
