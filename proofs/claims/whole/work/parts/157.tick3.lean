/-! all things and bells of a tick -/
theorem VRw {t : Nat} {v w : Int64} {d : UInt64} (ht : t ≤ 5) (h : VR t v w d) : v = w := (VR.whole ht).mp h
/-- a thing's new value -/
theorem StR.put {g gs : Gs} {srt : Nat → Nat} {many bells S t i : Nat} {r w : Int64} {d : UInt64} (h : StR g gs srt many bells S t) (hi : i < many) (hv : VR (srt i) r w d) (hvi : VI (srt i) r) : StR (sLA g 80 (vp_updL (gLA g 80) i r)) (sDA (sLA gs 0 (vp_updL (gLA gs 0) i w)) 1 (vf_upd (gDA gs 1) i d)) srt many bells S t := by
  obtain ⟨⟨d1, d2, d3, d4⟩, h2, h3, h4, h5, h6, h7⟩ := h
  refine ⟨⟨d1, d2, d3, fun a ha => ?_⟩, h2, h3, h4, h5, h6, h7⟩
  obtain ⟨v1, v2, v3, v4⟩ := d4 a ha
  refine ⟨?_, ?_, v3, v4⟩
  · show VR (srt a) (vp_updL (gLA g 80) i r a) (vp_updL (gLA gs 0) i w a) (vf_upd (gDA gs 1) i d a)
    by_cases hq : a = i
    · subst hq
      rw [pk_uLs, pk_uLs, show vf_upd (gDA gs 1) a d a = d from if_pos rfl]; exact hv
    · rw [pk_uLn hq, pk_uLn hq, show vf_upd (gDA gs 1) i d a = gDA gs 1 a from if_neg hq]; exact v1
  · show VI (srt a) (vp_updL (gLA g 80) i r a)
    by_cases hq : a = i
    · subst hq; rw [pk_uLs]; exact hvi
    · rw [pk_uLn hq]; exact v2
abbrev tickA : List Nat := [0, 1, 2, 80, 83, 84, 85, 86, 88, 89, 90, 92, 93, 94, 95, 96]
theorem turn_loop {n : Nat} {g2 gp gc : Gs} {srt : Nat → Nat} {many bells cams t : Nat} (hn : 3000 ≤ n) (hTb : Tb g2) : ∀ (d k k2 p S : Nat) (g gs gm : Gs), p + d = many + bells → d < k → d < k2 → S + d < 2 ^ 31 - 2 → StR g gs srt many bells S t → PlR g gp gc srt many bells cams → ∃ g' gs' gm' S', (L_X12_tick1 n k).2 g (nI p) = some g' ∧ L_X1_turn n k2 gm g2 gs gp gc (nI (many + bells)) (nI p) = some (gm', gs') ∧ StR g' gs' srt many bells S' t ∧ S' ≤ S + d ∧ Fr tickA g g' ∧ Fr [2, 3, 4, 5, 6] gm gm' := by
  intro d
  induction d with
  | zero =>
    intro k k2 p S g gs gm hp hk hk2 hS hst hpl
    obtain ⟨k, rfl⟩ : ∃ q, k = q + 1 := ⟨k - 1, by omega⟩
    obtain ⟨k2, rfl⟩ : ∃ q, k2 = q + 1 := ⟨k2 - 1, by omega⟩
    have h77 := hpl.2.2.2.2.2.2.1
    have hm : many ≤ 40 := hpl.1
    have hb : bells ≤ 12 := hpl.2.1
    refine ⟨g, gs, gm, S, ?_, ?_, hst, by omega, Fr.refl _ _, Fr.refl _ _⟩
    · show h_X12_tick1_67 n (L_X12_tick1 n k) g (nI p) = _
      unfold h_X12_tick1_67
      rw [h77, if_pos (nI_le (by omega) (by omega))]
    · show h_X1_turn_19 n (L_X1_turn n k2) gm g2 gs gp gc (nI (many + bells)) (nI p) = _
      unfold h_X1_turn_19
      rw [if_pos (nI_le (by omega) (by omega))]
  | succ d ih =>
    intro k k2 p S g gs gm hp hk hk2 hS hst hpl
    obtain ⟨k, rfl⟩ : ∃ q, k = q + 1 := ⟨k - 1, by omega⟩
    obtain ⟨k2, rfl⟩ : ∃ q, k2 = q + 1 := ⟨k2 - 1, by omega⟩
    obtain ⟨m40, b12, h60, h4, h61, h5, h77, hord, hth, hbe, hte⟩ := id hpl
    have hp52 : p < 52 := by omega
    have p52 : inB (nI p) 52 = true := inB_nI hp52 (by decide)
    have cp : (nI p).toNatClampNeg = p := nI_clamp (by omega)
    have np : nI p + 1 = nI (p + 1) := nI_1 p
    have nl1 : ¬ gI g 77 ≤ nI p := by rw [h77]; exact nI_ge (by omega) (by omega)
    have nl2 : ¬ nI (many + bells) ≤ nI p := nI_ge (by omega) (by omega)
    -- going on
    have go : ∀ (g1 gs1 gm1 : Gs) (S1 : Nat), StR g1 gs1 srt many bells S1 t → S1 ≤ S + 1 → Fr tickA g g1 → Fr [2, 3, 4, 5, 6] gm gm1 → (L_X12_tick1 n (k + 1)).2 g (nI p) = (L_X12_tick1 n k).2 g1 (nI (p + 1)) → L_X1_turn n (k2 + 1) gm g2 gs gp gc (nI (many + bells)) (nI p) = L_X1_turn n k2 gm1 g2 gs1 gp gc (nI (many + bells)) (nI (p + 1)) → ∃ g' gs' gm' S', (L_X12_tick1 n (k + 1)).2 g (nI p) = some g' ∧ L_X1_turn n (k2 + 1) gm g2 gs gp gc (nI (many + bells)) (nI p) = some (gm', gs') ∧ StR g' gs' srt many bells S' t ∧ S' ≤ S + (d + 1) ∧ Fr tickA g g' ∧ Fr [2, 3, 4, 5, 6] gm gm' := by
      intro g1 gs1 gm1 S1 w1 w2 w3 w4 w5 w6
      obtain ⟨g', gs', gm', S', y1, y2, y3, y4, y5, y6⟩ := ih k k2 (p + 1) S1 g1 gs1 gm1 (by omega) (by omega) (by omega) (by omega) w1 (hpl.fr w3 (by decide))
      exact ⟨g', gs', gm', S', w5.trans y1, w6.trans y2, y3, by omega, w3.trans y5, w4.trans y6⟩
    rcases hord p (by omega) with ⟨i, hi, o1, o2⟩ | ⟨b, hb, o1, o2⟩
    · -- a thing
      obtain ⟨s1, s2, _, F, j, j', u, q1, q2, q3, q4, ⟨F92, j840, f11, f12, f17, m, dd, hex, hd4⟩, hco⟩ := hth i hi
      have i40 : inB (nI i) 40 = true := inB_nI (by omega) (by decide)
      have i52 : inB (nI i) 52 = true := inB_nI (by omega) (by decide)
      have ci : (nI i).toNatClampNeg = i := nI_clamp (by omega)
      have cF : (nI F).toNatClampNeg = F := nI_clamp (by omega)
      have F92' : inB (nI F) 92 = true := inB_nI F92 (by decide)
      have l100 : nI i < (100 : Int32) := nI_lt (b := 100) (by omega) (by decide)
      have l40 : ¬ (40 : Int32) ≤ nI i := nI_ge (b := 40) (by omega) (by decide)
      have eref : (L_X12_tick1 n (k + 1)).2 g (nI p) = b_X12_tick1_148 n (L_X12_tick1 n k) g (nI p) (nI i) (nI j') (nI j) := by
        show h_X12_tick1_67 n (L_X12_tick1 n k) g (nI p) = _
        unfold h_X12_tick1_67
        rw [if_neg nl1, grd_t p52, cp, o1, if_pos l100, grd_t i40, ci]
        by_cases h68 : gIA g 68 i = 0
        · rw [if_pos h68] at q2 q3
          rw [if_pos h68, grd_t i40, q2]
          unfold b_X12_tick1_124
          rw [grd_t i40, ci, if_pos h68, grd_t i40, q3]
        · rw [if_neg h68] at q2 q3
          rw [if_neg h68, grd_t i40, q2]
          unfold b_X12_tick1_124
          rw [grd_t i40, ci, if_neg h68, grd_t i40, q3]
      have w := works_run (n := n) (g := g) (gm := gm) (g2 := g2) (gs := gs) (gp := gp) (gc := gc) (off := 0) hn hTb hst.1 hte j840 (by omega) f11 f12 hex hd4
      simp only [Nat.zero_add] at w
      have ecls : L_X1_turn n (k2 + 1) gm g2 gs gp gc (nI (many + bells)) (nI p) = bnd (f_X1_run n gm g2 gs gp gc (nI F)) (fun q_5 => if q_5.1 = 0 then (bnd (f_X9_noteJam gs (nI i) (gI q_5.2 5) (gI q_5.2 6)) (fun q_14 => L_X1_turn n k2 q_5.2 g2 q_14 gp gc (nI (many + bells)) (nI (p + 1)))) else (bnd (f_X1_store q_5.2 gs (nI i) (nI u) (nI (srt i))) (fun q_12 => L_X1_turn n k2 q_12.1 g2 q_12.2 gp gc (nI (many + bells)) (nI (p + 1))))) := by
        show h_X1_turn_19 n (L_X1_turn n k2) gm g2 gs gp gc (nI (many + bells)) (nI p) = _
        unfold h_X1_turn_19 b_X1_turn_131
        simp only [if_neg nl2, grd_t p52, cp, o2, grd_t i52, ci, q1, if_neg l40, grd_t F92', grd_t i40, cF, f17, s2, np]
      rcases w with ⟨g1, gm1, w1, w2, w3, w4, w5, w6, w7⟩ | ⟨g1, gm1, w1, w2, w3, w4, w5, w6, w7⟩
      · obtain ⟨r, g3, gm3, ww, dv, y1, y2, y3, y4, y5, y6⟩ := sto_both (n := n) (g := g1) (gm := gm1) (gs := gs) (i := i) (u := srt i) (by omega) (by omega) hco w6 w7
        have f3 : Fr tickA g g3 := (w3.mono (by decide)).trans (y2.fr.mono (by decide))
        refine go (sLA g3 80 (vp_updL (gLA g3 80) i r)) _ gm3 S ?_ (by omega) (f3.trans (Fr.sLA (by decide) _ _)) (w4.trans y4) ?_ (by rw [ecls, bnd_s w2]; show bnd (f_X1_store gm1 gs (nI i) (nI u) (nI (srt i))) _ = _; rw [bnd_s y3])
        · exact ((hst.fr (w3.mono (fun k hk => hk)) (by decide)).fr y2.fr (by decide)).put hi y5 y6
        · rw [eref]
          unfold b_X12_tick1_148
          rw [bnd_s w1]
          show (if (1 : Int32) = 0 then _ else _) = _
          rw [if_neg (by decide), grd_t i40, ci]
          have e68 : gIA g1 68 = gIA g 68 := (w3 68 (by decide)).2.2.2.1
          have e72 : gIA g1 72 = gIA g 72 := (w3 72 (by decide)).2.2.2.1
          have e73 : gIA g1 73 = gIA g 73 := (w3 73 (by decide)).2.2.2.1
          have e67 : gIA g1 67 = gIA g 67 := (w3 67 (by decide)).2.2.2.1
          have fin : b_X12_tick1_196 n (L_X12_tick1 n k) g1 (nI p) (nI i) (nI u) (gL g1 94) (nI i) = (L_X12_tick1 n k).2 (sLA g3 80 (vp_updL (gLA g3 80) i r)) (nI (p + 1)) := by
            unfold b_X12_tick1_196
            rw [grd_t i40, ci, e67, s1, bnd_s y1, grd_t i40]
            unfold b_X12_tick1_206
            rw [np]
          rw [← fin, e68]
          by_cases h68 : gIA g 68 i = 0
          · rw [if_pos h68] at q4
            rw [if_pos h68, grd_t i40, e72, q4]
          · rw [if_neg h68] at q4
            rw [if_neg h68, grd_t i40, e73, q4]
      · obtain ⟨g3, gs3, y1, y2, y3, y4⟩ := jam_both (row := i) (hst.fr (w3.mono (fun k hk => hk)) (by decide)) (by omega)
        refine go g3 gs3 gm1 S y3 (by omega) ((w3.mono (by decide)).trans (y4.mono (by decide))) w4 ?_ ?_
        · rw [eref]
          unfold b_X12_tick1_148
          rw [bnd_s w1]
          show (if (0 : Int32) = 0 then _ else _) = _
          rw [if_pos rfl, bnd_s y1]
          unfold b_X12_tick1_206
          rw [np]
        · rw [ecls, bnd_s w2]
          show (if (0 : Int32) = 0 then _ else _) = _
          rw [if_pos rfl, ← w6, ← w7, bnd_s y2]
    · -- a bell
      obtain ⟨F, j, j', q1, q2, q3, ⟨F92, j840, f11, f12, f17, m, dd, hex, hd4⟩⟩ := hbe b hb
      have b12' : inB (nI b) 12 = true := inB_nI (by omega) (by decide)
      have r52 : inB (nI (40 + b)) 52 = true := inB_nI (by omega) (by decide)
      have cb : (nI b).toNatClampNeg = b := nI_clamp (by omega)
      have cr : (nI (40 + b)).toNatClampNeg = 40 + b := nI_clamp (by omega)
      have l100 : ¬ nI (100 + b) < (100 : Int32) := nI_nlt (b := 100) (by omega) (by omega)
      have l40 : (40 : Int32) ≤ nI (40 + b) := nI_le (a := 40) (by omega) (by omega)
      have sub100 : nI (100 + b) - (100 : Int32) = nI b := by
        have := pk_sub (a := 100 + b) (b := 100) (by omega)
        rw [show 100 + b - 100 = b by omega] at this
        exact this
      have sub40 : nI (40 + b) - (40 : Int32) = nI b := by
        have := pk_sub (a := 40 + b) (b := 40) (by omega)
        rw [show 40 + b - 40 = b by omega] at this
        exact this
      have add40 : (40 : Int32) + nI b = nI (40 + b) := nI_add 40 b
      have eref : (L_X12_tick1 n (k + 1)).2 g (nI p) = bnd (f_X12_strikes n g (nI b)) (fun q_19 => (L_X12_tick1 n k).2 q_19 (nI (p + 1))) := by
        show h_X12_tick1_67 n (L_X12_tick1 n k) g (nI p) = _
        unfold h_X12_tick1_67 b_X12_tick1_206
        rw [if_neg nl1, grd_t p52, cp, o1, if_neg l100, sub100, np]
      have estr : f_X12_strikes n g (nI b) = bnd (f_X12_works n g (nI j) (nI j')) (fun q_3 => if q_3.1 = 0 then (bnd (f_X12_jammed q_3.2 (nI (40 + b))) (fun q_10 => some q_10)) else (if (gL q_3.2 94) = (0 : Int64) then (some q_3.2) else (if (2147483647 : Int32) ≤ (gIA q_3.2 86 b) then (b_X12_strikes_60 n q_3.2 (nI b)) else (b_X12_strikes_60 n (sIA q_3.2 86 (upd (gIA q_3.2 86) b ((gIA q_3.2 86 b) + (1 : Int32)))) (nI b))))) := by
        unfold f_X12_strikes
        simp only [grd_t b12', cb, q2, q3, add40]
      have w := works_run (n := n) (g := g) (gm := gm) (g2 := g2) (gs := gs) (gp := gp) (gc := gc) (off := 0) hn hTb hst.1 hte j840 (by omega) f11 f12 hex hd4
      simp only [Nat.zero_add] at w
      have z512 : inB (0 : Int32) 512 = true := by decide
      have ecls : L_X1_turn n (k2 + 1) gm g2 gs gp gc (nI (many + bells)) (nI p) = bnd (f_X1_run n gm g2 gs gp gc (nI F)) (fun q_5 => if q_5.1 = 0 then (bnd (f_X9_noteJam gs (nI (40 + b)) (gI q_5.2 5) (gI q_5.2 6)) (fun q_14 => L_X1_turn n k2 q_5.2 g2 q_14 gp gc (nI (many + bells)) (nI (p + 1)))) else (if gLA q_5.2 2 0 = 0 then L_X1_turn n k2 q_5.2 g2 gs gp gc (nI (many + bells)) (nI (p + 1)) else bnd (f_X9_noteStrike gs (nI b)) (fun q_8 => L_X1_turn n k2 q_5.2 g2 q_8 gp gc (nI (many + bells)) (nI (p + 1))))) := by
        show h_X1_turn_19 n (L_X1_turn n k2) gm g2 gs gp gc (nI (many + bells)) (nI p) = _
        unfold h_X1_turn_19 b_X1_turn_131
        simp only [if_neg nl2, grd_t p52, cp, o2, grd_t r52, cr, q1, if_pos l40, grd_t z512, sub40, np]
        rfl
      rcases w with ⟨g1, gm1, w1, w2, w3, w4, w5, w6, w7⟩ | ⟨g1, gm1, w1, w2, w3, w4, w5, w6, w7⟩
      · have ev := VRw (by decide) w6
        have hst1 := hst.fr (w3.mono (fun k hk => hk)) (by decide)
        by_cases hz : gLA gm1 2 0 = 0
        · refine go g1 gs gm1 S hst1 (by omega) (w3.mono (by decide)) w4 ?_ ?_
          · rw [eref, estr, bnd_s w1]
            show bnd (if (1 : Int32) = 0 then _ else _) _ = _
            rw [if_neg (by decide), if_pos (by rw [ev, hz])]
            rfl
          · rw [ecls, bnd_s w2]
            show (if (1 : Int32) = 0 then _ else _) = _
            rw [if_neg (by decide), if_pos hz]
        · obtain ⟨g3, gs3, y1, y2, y3, y4⟩ := strk_both (n := n) hst1 hb b12 (by omega)
          refine go g3 gs3 gm1 (S + 1) y3 (by omega) ((w3.mono (by decide)).trans (y4.mono (by decide))) w4 ?_ ?_
          · rw [eref, estr, bnd_s w1]
            show bnd (if (1 : Int32) = 0 then _ else _) _ = _
            rw [if_neg (by decide), if_neg (by rw [ev]; exact hz), bnd_s y1]
          · rw [ecls, bnd_s w2]
            show (if (1 : Int32) = 0 then _ else _) = _
            rw [if_neg (by decide), if_neg hz, bnd_s y2]
      · obtain ⟨g3, gs3, y1, y2, y3, y4⟩ := jam_both (row := 40 + b) (hst.fr (w3.mono (fun k hk => hk)) (by decide)) (by omega)
        refine go g3 gs3 gm1 S y3 (by omega) ((w3.mono (by decide)).trans (y4.mono (by decide))) w4 ?_ ?_
        · rw [eref, estr, bnd_s w1]
          show bnd (if (0 : Int32) = 0 then _ else _) _ = _
          rw [if_pos rfl, bnd_s y1]
          rfl
        · rw [ecls, bnd_s w2]
          show (if (0 : Int32) = 0 then _ else _) = _
          rw [if_pos rfl, ← w6, ← w7, bnd_s y2]
theorem tick1_both {n : Nat} {g gs gm g2 gp gc : Gs} {srt : Nat → Nat} {many bells cams S t : Nat} (hn : 3000 ≤ n) (hTb : Tb g2) (hst : StR g gs srt many bells S t) (hpl : PlR g gp gc srt many bells cams) (hS : S ≤ 52 * t) (ht : t ≤ 1000000) : ∃ g' gs' gm' S', f_X12_tick1 n g = some g' ∧ f_X1_turn n gm g2 gs gp gc = some (gm', gs') ∧ StR g' gs' srt many bells S' (t + 1) ∧ S' ≤ 52 * (t + 1) ∧ Fr ([81, 82, 87] ++ tickA) g g' ∧ Fr [2, 3, 4, 5, 6] gm gm' := by
  obtain ⟨m40, b12, h60, h4, h61, h5, h77, _⟩ := id hpl
  obtain ⟨g1, gs1, k', b0, b1, b2, b3, b4⟩ := beg_both (n := n) hst h60 hn (by omega)
  obtain ⟨g', gs', gm', S', y1, y2, y3, y4, y5, y6⟩ := turn_loop (n := n) hn hTb (many + bells) k' n 0 S g1 gs1 gm (by omega) (by omega) (by omega) (by omega) b3 (hpl.fr b4 (by decide))
  refine ⟨g', gs', gm', S', b1.trans y1, ?_, y3, by omega, (b4.mono (by decide)).trans (y5.mono (by decide)), y6⟩
  unfold f_X1_turn
  rw [bnd_s b2, h4, h5, nI_add]
  exact y2
