/-! a number, on both sides: the end -/
theorem st3_cls {n : Nat} {rec : (Gs → Gs → Gs → Int32 → Int32 → Int32 → Int32 → Int32 → Int32 → Option (Gs))} {gsc gt g2 : Gs} {L t beh : Nat} {B : Nat → Nat} {v4 : Int32} {pw : Bool} (h : ClsT gsc gt L B) (ht : t ≤ L) (hb : beh < 4000) : ∃ v5 : Int32, (v5 = 108 ↔ rc L B t = 108) ∧ (v5 = 102 ↔ rc L B t = 102) ∧ (¬ nEnd L B (nT L B t) → b_X7_readNumber_198 n rec gsc gt g2 (nI t) (nI beh) (if pw = true then 1 else 0) v4 = some gsc) ∧ (nEnd L B (nT L B t) → b_X7_readNumber_198 n rec gsc gt g2 (nI t) (nI beh) (if pw = true then 1 else 0) v4 = if rc L B t = 102 ∨ 0 < beh ∨ pw = true then f_X7_settleReal n (sI gsc 3 (nI (nT L B t))) gt g2 v5 (nI beh) v4 else f_X7_settleWhole (sI gsc 3 (nI (nT L B t))) v5) := by
  have hL := h.1
  obtain ⟨x, x1, x2, x3⟩ := by7 h (p := t) (by omega)
  have q108 : x = (108 : Int32) ↔ rc L B t = 108 := x2.eq (k := 108) (by decide) (by decide)
  have q102 : x = (102 : Int32) ↔ rc L B t = 102 := x2.eq (k := 102) (by decide) (by decide)
  refine ⟨x, q108, q102, ?_⟩
  have hT : nT L B t ≤ L + 1 := by unfold nT; split <;> omega
  have e1 : b_X7_readNumber_198 n rec gsc gt g2 (nI t) (nI beh) (if pw = true then 1 else 0) v4 = b_X7_readNumber_222 n rec gsc gt g2 (nI (nT L B t)) (nI beh) (if pw = true then 1 else 0) v4 x := by
    unfold b_X7_readNumber_198 b_X7_readNumber_219
    rw [bnd_s x1, nI_1]
    by_cases hc : rc L B t = 108
    · have eT : nT L B t = t + 1 := by unfold nT; rw [if_pos (.inl hc)]
      rw [if_pos (q108.mpr hc), eT]
    · by_cases hd : rc L B t = 102
      · have eT : nT L B t = t + 1 := by unfold nT; rw [if_pos (.inr hd)]
        rw [if_neg (fun z => hc (q108.mp z)), if_pos (q102.mpr hd), eT]
      · have eT : nT L B t = t := by unfold nT; rw [if_neg (by omega)]
        rw [if_neg (fun z => hc (q108.mp z)), if_neg (fun z => hd (q102.mp z)), eT]
  rw [e1]
  obtain ⟨y, y1, y2, y3⟩ := by7 h (p := nT L B t) (by omega)
  have q46 : y = (46 : Int32) ↔ rc L B (nT L B t) = 46 := y2.eq (k := 46) (by decide) (by decide)
  unfold b_X7_readNumber_222 b_X7_readNumber_273
  rw [bnd_s y1, bnd_s (let7 y2), bnd_s (dig7 y2), sgB_if, sgB_if]
  have bn : ∀ z : Option Gs, bnd z (fun q => some q) = z := by intro z; cases z <;> rfl
  simp only [bn]
  constructor
  · intro he
    by_cases a1 : isL (rc L B (nT L B t)) = true
    · rw [if_pos a1]
    rw [if_neg a1]
    by_cases a2 : isD (rc L B (nT L B t)) = true
    · rw [if_pos a2]
    rw [if_neg a2]
    have a3 : rc L B (nT L B t) = 46 := by
      refine Classical.byContradiction fun z => he ⟨by rw [← Bool.not_eq_true]; exact a1, by rw [← Bool.not_eq_true]; exact a2, z⟩
    rw [if_pos (q46.mpr a3)]
  · intro he
    obtain ⟨a1, a2, a3⟩ := he
    rw [if_neg (by rw [a1]; decide), if_neg (by rw [a2]; decide), if_neg (fun z => a3 (q46.mp z))]
    by_cases hd : rc L B t = 102
    · rw [if_pos (q102.mpr hd), if_pos (.inl hd)]
    · rw [if_neg (fun z => hd (q102.mp z))]
      by_cases hb0 : 0 < beh
      · rw [if_pos (show (0 : Int32) < nI beh from nI_lt (a := 0) hb0 (by omega)), if_pos (.inr (.inl hb0))]
      · rw [if_neg (show ¬ (0 : Int32) < nI beh from nI_nlt (a := 0) (by omega) (by decide))]
        cases pw
        · rw [if_neg (show ¬ (rc L B t = 102 ∨ 0 < beh ∨ false = true) from fun z => by rcases z with z | z | z; exact hd z; exact hb0 z; cases z)]
          rfl
        · rw [if_pos (show rc L B t = 102 ∨ 0 < beh ∨ true = true from .inr (.inr rfl))]
          rfl
/-- the reference's last words: bad -/
theorem bad442 {n k : Nat} {g : Gs} {T f to t' s : Nat} {many beh v7 v11 : Int32} {v8 : Int64} (hT : gI g 8 = nI T) (hT1 : T < 3001) (hs : s < 10) (hto : to < 4000) (ht' : t' < 4000) (h : t' ≠ to ∨ v7 = 1) : b_X12_number_442 n (L_X12_number n k) g (nI f) (nI to) (nI t') many beh v7 v8 v11 (nI s) = some (tokG g T 1 f to) := by
  unfold b_X12_number_442 b_X12_number_486
  have tk : f_X12_token g 1 (nI f) (nI to) = some (tokG g T 1 f to) := tok12 hT hT1
  rw [bnd_s (isReal_nI hs), bnd_s tk]
  rcases h with h | h
  · rw [if_neg (fun z => h ((nI_eq (by omega) (by omega)).mp z))]
  · split
    · rw [if_neg (by rw [h]; decide)]
    · rfl
theorem VIx {s : Nat} {b : Int64} (h : s ≠ 4) : VI s b := fun z => absurd z h
/-- a number on both sides -/
theorem num_both {n : Nat} {g g2 : Gs} {L f T : Nat} {B : Nat → Nat} (hn : 20000 ≤ n) (hTb : Tb g2) (h : RefT g L B) (hT : gI g 8 = nI T) (hT1 : T < 3001) (hf : isD (rc L B f) = true) : ∃ (K e s : Nat) (bits : Int64) (gb : Gs), Fr [0, 1, 2] g gb ∧ f_X12_number n g (nI f) = some (if K = 1 then tokG gb T 1 f e else tokG (sIA (sLA gb 12 (vp_updL (gLA gb 12) T bits)) 13 (upd (gIA gb 13) T (nI s))) T 3 f e) ∧ (K = 1 ∨ (K = 3 ∧ f < e ∧ e ≤ L ∧ 4 ≤ s ∧ s ≤ 7 ∧ VI s bits)) ∧ e ≤ L ∧ ∀ gsc gt, ClsT gsc gt L B → gI gsc 3 = nI f → ∃ g', f_X7_readNumber n gsc gt g2 = some g' ∧ gI g' 4 = nI K ∧ (K = 3 → gI g' 3 = nI e ∧ gI g' 7 = nI s ∧ VR s bits (gL g' 8) (gD g' 9)) ∧ Fr [3, 4, 7, 8, 9, 10, 11] gsc g' := by
  have hL := h.1
  obtain ⟨d1, s, t, q0, E, pt, pw, mn, hN⟩ := numS_ex hf
  obtain ⟨l1, l2, l3, l4, l5, l6⟩ := hN.le
  obtain ⟨to, t1, t2, t3, t4, t5, t6, t7⟩ := num_to hN
  have hbeh : nBeh d1 s pt ≤ 3000 := by unfold nBeh; split <;> omega
  have hfd : f < d1 := hN.1.1
  -- the reference up to the sort
  have r1 : f_X12_number n g (nI f) = (L_X12_number n (n - (to - f) - 1)).2.1 g (nI f) (nI to) (nI f) 0 0 0 0 0 := to_ref (n := n) h t2 t3 t4 t1 (to - f) n f (by omega) (Nat.le_refl _) (fun _ => hf) (by omega)
  obtain ⟨v7, v8, k1, r2, r3, r4⟩ := st1_ref (n := n) (k := n - (to - f) - 1) (to := to) h hN (by omega)
  have h7 : v7 = 0 ∨ v7 = 1 := by
    rcases r4 with ⟨_, _, z, _⟩ | ⟨_, z⟩
    · exact .inl z
    · exact .inr z
  obtain ⟨w7, v11, k2, r5, r6⟩ := st2_ref (n := n) (k := k1) (to := to) h hN (by omega) (many := nI (d1 - f + nBeh d1 s pt)) (beh := nI (nBeh d1 s pt)) (v6 := if pt = true then 1 else 0) (v8 := v8) h7
  have h7' : w7 = 0 ∨ w7 = 1 := by
    rcases r6 with ⟨_, _, z, _⟩ | ⟨_, z⟩
    · exact .inl z
    · exact .inr z
  obtain ⟨u7, r7, r8⟩ := st3_ref (n := n) (k := k2) (f := f) (to := to) (t := t) (many := d1 - f + nBeh d1 s pt) (beh := nBeh d1 s pt) (pt := pt) (pw := pw) h l6 (v11 := v11) (v8 := v8) h7'
  have ref : f_X12_number n g (nI f) = b_X12_number_442 n (L_X12_number n k2) g (nI f) (nI to) (nI (nT L B t)) (nI (d1 - f + nBeh d1 s pt)) (nI (nBeh d1 s pt)) u7 v8 v11 (nI (nSort L B t pt pw)) := by
    rw [r1, r3, r5, r7]
  have hs7 : 4 ≤ nSort L B t pt pw ∧ nSort L B t pt pw ≤ 7 := by unfold nSort; split <;> (try split) <;> (try split) <;> omega
  -- a bad one
  have bad : (nT L B t ≠ to ∨ u7 = 1) → (∀ gsc gt, ClsT gsc gt L B → gI gsc 3 = nI f → ∃ g', f_X7_readNumber n gsc gt g2 = some g' ∧ gI g' 4 = 1 ∧ Fr [3, 4, 7, 8, 9, 10, 11] gsc g') → ∃ (K e s : Nat) (bits : Int64) (gb : Gs), Fr [0, 1, 2] g gb ∧ f_X12_number n g (nI f) = some (if K = 1 then tokG gb T 1 f e else tokG (sIA (sLA gb 12 (vp_updL (gLA gb 12) T bits)) 13 (upd (gIA gb 13) T (nI s))) T 3 f e) ∧ (K = 1 ∨ (K = 3 ∧ f < e ∧ e ≤ L ∧ 4 ≤ s ∧ s ≤ 7 ∧ VI s bits)) ∧ e ≤ L ∧ ∀ gsc gt, ClsT gsc gt L B → gI gsc 3 = nI f → ∃ g', f_X7_readNumber n gsc gt g2 = some g' ∧ gI g' 4 = nI K ∧ (K = 3 → gI g' 3 = nI e ∧ gI g' 7 = nI s ∧ VR s bits (gL g' 8) (gD g' 9)) ∧ Fr [3, 4, 7, 8, 9, 10, 11] gsc g' := by
    intro hb hc
    refine ⟨1, to, 0, 0, g, Fr.refl _ _, ?_, .inl rfl, t2, fun gsc gt c1 c2 => ?_⟩
    · rw [ref, bad442 hT hT1 (by omega) (by omega) (by omega) hb, if_pos rfl]
    · obtain ⟨g', x1, x2, x3⟩ := hc gsc gt c1 c2
      exact ⟨g', x1, x2, fun z => absurd z (by decide), x3⟩
  -- the class up to the tail
  by_cases ok1 : pt = true ∧ s = d1 + 1
  · have hv7 : v7 = 1 := by rcases r4 with ⟨_, z, _⟩ | ⟨_, z⟩; exact absurd ok1 z; exact z
    have hw7 : w7 = 1 := by rcases r6 with ⟨z, _⟩ | ⟨_, z⟩; rw [hv7] at z; exact absurd z (by decide); exact z
    have hu7 : u7 = 1 := by rcases r8 with ⟨z, _⟩ | ⟨_, z⟩; rw [hw7] at z; exact absurd z (by decide); exact z
    refine bad (.inr hu7) fun gsc gt c1 c2 => ?_
    obtain ⟨g1, a1, a2, a3, a4⟩ := st1_cls (n := n) (g2 := g2) (by omega) c1 c2 hN
    exact ⟨g1, by rw [a4, if_pos ok1], a2, a3.mono (by decide)⟩
  by_cases ok2 : pw = true ∧ (t = q0 ∨ 1100 < E)
  · have hw7 : w7 = 1 := by rcases r6 with ⟨_, z, _⟩ | ⟨_, z⟩; exact absurd ok2 z; exact z
    have hu7 : u7 = 1 := by rcases r8 with ⟨z, _⟩ | ⟨_, z⟩; rw [hw7] at z; exact absurd z (by decide); exact z
    refine bad (.inr hu7) fun gsc gt c1 c2 => ?_
    obtain ⟨g1, a1, a2, a3, a4⟩ := st1_cls (n := n) (g2 := g2) (by omega) c1 c2 hN
    exact ⟨g1, by rw [a4, if_neg ok1, (st2_cls (by omega) (c1.fr a3 (by decide)) hN).1 ok2], a2, a3.mono (by decide)⟩
  -- up to there all is well
  have cls : ∀ gsc gt, ClsT gsc gt L B → gI gsc 3 = nI f → ∃ (g1 : Gs) (v5 : Int32), CW g1 (nVal L B f d1 s pt) (d1 - f + nBeh d1 s pt) ∧ gI g1 4 = 1 ∧ Fr [4, 8, 10, 11] gsc g1 ∧ (v5 = 108 ↔ rc L B t = 108) ∧ (v5 = 102 ↔ rc L B t = 102) ∧ (¬ nEnd L B (nT L B t) → f_X7_readNumber n gsc gt g2 = some g1) ∧ (nEnd L B (nT L B t) → f_X7_readNumber n gsc gt g2 = if rc L B t = 102 ∨ 0 < nBeh d1 s pt ∨ pw = true then f_X7_settleReal n (sI g1 3 (nI (nT L B t))) gt g2 v5 (nI (nBeh d1 s pt)) (sgE mn E) else f_X7_settleWhole (sI g1 3 (nI (nT L B t))) v5) := by
    intro gsc gt c1 c2
    obtain ⟨g1, a1, a2, a3, a4⟩ := st1_cls (n := n) (g2 := g2) (by omega) c1 c2 hN
    obtain ⟨rec, b1⟩ := (st2_cls (n := n) (g2 := g2) (v2 := nI (nBeh d1 s pt)) (by omega) (c1.fr a3 (by decide)) hN).2 ok2
    obtain ⟨v5, d1', d2, d3, d4⟩ := st3_cls (n := n) (rec := rec) (g2 := g2) (beh := nBeh d1 s pt) (v4 := sgE mn E) (pw := pw) (c1.fr a3 (by decide)) l6 (by omega)
    refine ⟨g1, v5, a1, a2, a3, d1', d2, fun he => ?_, fun he => ?_⟩
    · rw [a4, if_neg ok1, b1, d3 he]
    · rw [a4, if_neg ok1, b1, d4 he]
  by_cases ok3 : nEnd L B (nT L B t)
  case neg =>
    refine bad (.inl (t6 ok3)) fun gsc gt c1 c2 => ?_
    obtain ⟨g1, v5, a1, a2, a3, a4, a5, a6, a7⟩ := cls gsc gt c1 c2
    exact ⟨g1, a6 ok3, a2, a3.mono (by decide)⟩
  have hto : nT L B t = to := t7 ok2 ok3
  -- real or whole
  have hreal : (rc L B t = 102 ∨ 0 < nBeh d1 s pt ∨ pw = true) ↔ (rc L B t = 102 ∨ ¬ (pt = false ∧ pw = false)) := by
    have : 0 < nBeh d1 s pt ↔ pt = true := by
      unfold nBeh
      cases pt
      · simp
      · rw [if_pos rfl]
        have hsd : d1 + 1 ≤ s := by
          rcases hN.2.1 with ⟨_, _, z, _⟩ | ⟨z, _⟩
          · exact z
          · exact absurd z (by decide)
        constructor
        · intro _; rfl
        · intro _
          have : s ≠ d1 + 1 := fun z => ok1 ⟨rfl, z⟩
          omega
    rw [this]
    cases pt <;> cases pw <;> simp
  have hw7 : w7 = v7 ∧ v11 = sgE mn E ∨ v7 = 1 ∧ w7 = 1 := by
    rcases r6 with ⟨z1, _, z2, z3⟩ | ⟨z1, z2⟩
    · exact .inl ⟨by rw [z1, z2], z3⟩
    · rcases z1 with z1 | z1
      · exact .inr ⟨z1, z2⟩
      · exact absurd z1 ok2
  by_cases hrl : rc L B t = 102 ∨ ¬ (pt = false ∧ pw = false)
  · -- a real
    by_cases hl : rc L B t = 108
    · -- with an l
      have hns : ¬ (pt = false ∧ pw = false) := by rcases hrl with z | z; omega; exact z
      have hu7 : u7 = 1 := by rcases r8 with ⟨_, z, _⟩ | ⟨_, z⟩; exact absurd ⟨hl, hns⟩ z; exact z
      refine bad (.inr hu7) fun gsc gt c1 c2 => ?_
      obtain ⟨g1, v5, a1, a2, a3, a4, a5, a6, a7⟩ := cls gsc gt c1 c2
      refine ⟨sI g1 3 (nI (nT L B t)), ?_, a2, (a3.mono (by decide)).trans (Fr.sI (by decide) _ _)⟩
      rw [a7 ok3, if_pos (hreal.mpr hrl)]
      unfold f_X7_settleReal
      rw [if_pos (a4.mpr hl)]
    have hsrt : nSort L B t pt pw = if rc L B t = 102 then 6 else 7 := by
      unfold nSort
      rw [if_neg hl]
      by_cases h2 : rc L B t = 102
      · rw [if_pos h2, if_pos h2]
      · rw [if_neg h2, if_neg h2, if_neg (hrl.resolve_left h2)]
    by_cases hm : d1 - f + nBeh d1 s pt ≤ 15
    case neg =>
      -- too many digits
      have eref : f_X12_number n g (nI f) = some (tokG g T 1 f to) := by
        rcases (show u7 = 0 ∨ u7 = 1 by rcases r8 with ⟨_, _, z⟩ | ⟨_, z⟩; exact .inl z; exact .inr z) with hu | hu
        · rw [ref]
          unfold b_X12_number_442 b_X12_number_486
          have tk : f_X12_token g 1 (nI f) (nI to) = some (tokG g T 1 f to) := tok12 hT hT1
          rw [bnd_s (isReal_nI (by omega)), if_pos (by rw [hto]), if_pos hu, bnd_s tk]
          have : ¬ nSort L B t pt pw ≤ 5 := by rw [hsrt]; split <;> omega
          rw [if_neg this, if_neg (show ¬ (1 : Int32) = 0 by decide), if_pos (show (15 : Int32) < nI (d1 - f + nBeh d1 s pt) from nI_lt (a := 15) (by omega) (by omega))]
        · rw [ref, bad442 hT hT1 (by omega) (by omega) (by omega) (.inr hu)]
      refine ⟨1, to, 0, 0, g, Fr.refl _ _, by rw [eref, if_pos rfl], .inl rfl, t2, fun gsc gt c1 c2 => ?_⟩
      obtain ⟨g1, v5, a1, a2, a3, a4, a5, a6, a7⟩ := cls gsc gt c1 c2
      refine ⟨sI g1 3 (nI (nT L B t)), ?_, a2, fun z => absurd z (by decide), (a3.mono (by decide)).trans (Fr.sI (by decide) _ _)⟩
      rw [a7 ok3, if_pos (hreal.mpr hrl)]
      unfold f_X7_settleReal
      have e10 : gI (sI g1 3 (nI (nT L B t))) 10 = nI (d1 - f + nBeh d1 s pt) := a1.1
      rw [if_neg (fun z => hl (a4.mp z)), e10, if_neg (show ¬ nI (d1 - f + nBeh d1 s pt) ≤ (15 : Int32) from nI_ge (a := 15) (by omega) (by omega))]
    have hV := nVal_lt hN hm
    have hV63 : nVal L B f d1 s pt < 2 ^ 63 := Nat.lt_trans hV (by decide)
    have hv : v7 = 0 ∧ v8 = lN (nVal L B f d1 s pt) := by
      rcases r4 with ⟨_, _, z1, z2⟩ | ⟨z, _⟩
      · exact ⟨z1, z2⟩
      · rcases z with z | z
        · omega
        · exact absurd z ok1
    have hw : w7 = 0 ∧ v11 = sgE mn E := by
      rcases hw7 with ⟨z1, z2⟩ | ⟨z, _⟩
      · exact ⟨by rw [z1, hv.1], z2⟩
      · rw [hv.1] at z; exact absurd z (by decide)
    have hu : u7 = 0 := by
      rcases r8 with ⟨_, _, z⟩ | ⟨z, _⟩
      · exact z
      · rcases z with z | z
        · rw [hw.1] at z; exact absurd z (by decide)
        · exact absurd z.1 hl
    have hE : E ≤ 1100 := by
      refine Classical.byContradiction fun z => ?_
      rcases hN.2.2 with ⟨p, _⟩ | ⟨_, _, _, _, _, p⟩
      · exact ok2 ⟨p, .inr (by omega)⟩
      · omega
    obtain ⟨U, hU, hU1, hU2⟩ : ∃ U : Int, (sgE mn E).toInt = U ∧ -1100 ≤ U ∧ U ≤ 1100 := by
      unfold sgE
      cases mn
      · exact ⟨E, by rw [if_neg (by decide)]; exact nI_toInt (by omega), by omega, by omega⟩
      · exact ⟨-(E : Int), by rw [if_pos rfl]; exact sb_negT (by omega), by omega, by omega⟩
    obtain ⟨bits, gb, R, y1, y2, y3, y4, y5, y6⟩ := real_ref (n := n) (g := g) (g2 := g2) (w := nVal L B f d1 s pt) (b := nBeh d1 s pt) (p := sgE mn E) (s := nSort L B t pt pw) (by omega) hTb hV (by omega) hU hU1 hU2 (by rw [hsrt]; split <;> omega)
    have hT8 : gI gb 8 = nI T := by rw [(y2 8 (by decide)).1]; exact hT
    have eref : f_X12_number n g (nI f) = if bits = (9223372036854775807 : Int64) then some (tokG gb T 1 f to) else some (tokG (sIA (sLA gb 12 (vp_updL (gLA gb 12) T bits)) 13 (upd (gIA gb 13) T (nI (nSort L B t pt pw)))) T 3 f to) := by
      rw [ref]
      unfold b_X12_number_442
      have n5 : ¬ nSort L B t pt pw ≤ 5 := by rw [hsrt]; split <;> omega
      have n4 : ¬ nI (nSort L B t pt pw) = (4 : Int32) := fun z => by have := (nI_eq (b := 4) (by omega) (by decide)).mp z; omega
      rw [bnd_s (isReal_nI (by omega)), if_pos (by rw [hto]), if_pos hu, if_neg n5, if_neg (show ¬ (1 : Int32) = 0 by decide), if_neg (show ¬ (15 : Int32) < nI (d1 - f + nBeh d1 s pt) from nI_nlt (a := 15) (by omega) (by decide))]
      unfold b_X12_number_471
      rw [if_neg n4]
      unfold b_X12_number_494
      rw [if_neg (show ¬ (1 : Int32) = 0 by decide), hv.2, hw.2, bnd_s y1]
      show b_X12_number_517 n _ gb (nI f) (nI to) (nI (nSort L B t pt pw)) 1 bits = _
      unfold b_X12_number_517 b_X12_number_539
      have tk : f_X12_token gb 1 (nI f) (nI to) = some (tokG gb T 1 f to) := tok12 hT8 hT1
      have tk3 : f_X12_token (sIA (sLA gb 12 (vp_updL (gLA gb 12) T bits)) 13 (upd (gIA gb 13) T (nI (nSort L B t pt pw)))) 3 (nI f) (nI to) = some (tokG (sIA (sLA gb 12 (vp_updL (gLA gb 12) T bits)) 13 (upd (gIA gb 13) T (nI (nSort L B t pt pw)))) T 3 f to) := tok12 hT8 hT1
      rw [if_neg (show ¬ (1 : Int32) = 0 by decide), bnd_s tk, hT8]
      simp only [grd_t (inB_nI hT1 (by decide)), nI_clamp (show T < 2 ^ 31 by omega)]
      rw [bnd_s tk3]
    have clsR : ∀ gsc gt, ClsT gsc gt L B → gI gsc 3 = nI f → ∃ g', f_X7_readNumber n gsc gt g2 = some g' ∧ Fr [3, 4, 7, 8, 9, 10, 11] gsc g' ∧ gI g' 3 = nI to ∧ ((bits ≠ 9223372036854775807 ∧ gI g' 4 = 3 ∧ gI g' 7 = nI (nSort L B t pt pw) ∧ VR (nSort L B t pt pw) bits (gL g' 8) (gD g' 9)) ∨ (bits = 9223372036854775807 ∧ gI g' 4 = 1)) := by
      intro gsc gt c1 c2
      obtain ⟨g1, v5, a1, a2, a3, a4, a5, a6, a7⟩ := cls gsc gt c1 c2
      have h8 : gL (sI g1 3 (nI (nT L B t))) 8 = lN (nVal L B f d1 s pt) := by
        rcases a1.2 with ⟨_, _, z⟩ | ⟨z, _⟩
        · exact z
        · omega
      have hs' : nSort L B t pt pw = if v5 = 102 then 6 else 7 := by
        rw [hsrt]
        by_cases h2 : rc L B t = 102
        · rw [if_pos h2, if_pos (a5.mpr h2)]
        · rw [if_neg h2, if_neg (fun z => h2 (a5.mp z))]
      obtain ⟨g', z1, z2, z3⟩ := real_cls (n := n) (gsc := sI g1 3 (nI (nT L B t))) (gt := gt) (g2 := g2) (D := d1 - f + nBeh d1 s pt) (r := 0) (by omega) (show nBeh d1 s pt ≤ 15 by omega) (fun z => hl (a4.mp z)) hs' h8 a1.1 hm y3 y4 y5 y6
      refine ⟨g', by rw [a7 ok3, if_pos (hreal.mpr hrl)]; exact z1, ((a3.mono (by decide)).trans (Fr.sI (by decide) _ _)).trans (z2.mono (by decide)), ?_, ?_⟩
      · rw [(z2 3 (by decide)).1, ← hto]; rfl
      · rcases z3 with z | ⟨z, z'⟩
        · exact .inl z
        · exact .inr ⟨z, by rw [z']; exact a2⟩
    by_cases hov : bits = 9223372036854775807
    · refine ⟨1, to, 0, 0, gb, y2, by rw [eref, if_pos hov, if_pos rfl], .inl rfl, t2, fun gsc gt c1 c2 => ?_⟩
      obtain ⟨g', z1, z2, z3, z4⟩ := clsR gsc gt c1 c2
      rcases z4 with ⟨z, _⟩ | ⟨_, z⟩
      · exact absurd hov z
      · exact ⟨g', z1, z, fun q => absurd q (by decide), z2⟩
    · refine ⟨3, to, nSort L B t pt pw, bits, gb, y2, by rw [eref, if_neg hov, if_neg (by decide)], .inr ⟨rfl, t1, t2, hs7.1, hs7.2, VIx (by rw [hsrt]; split <;> omega)⟩, t2, fun gsc gt c1 c2 => ?_⟩
      obtain ⟨g', z1, z2, z3, z4⟩ := clsR gsc gt c1 c2
      rcases z4 with ⟨_, z5, z6, z7⟩ | ⟨z, _⟩
      · exact ⟨g', z1, z5, fun _ => ⟨z3, z6, z7⟩, z2⟩
      · exact absurd z hov
  · -- a whole
    have hnt : pt = false ∧ pw = false := Classical.not_not.mp fun z => hrl (.inr z)
    have hn102 : rc L B t ≠ 102 := fun z => hrl (.inl z)
    have hsrt : nSort L B t pt pw = if rc L B t = 108 then 5 else 4 := by
      unfold nSort
      by_cases h2 : rc L B t = 108
      · rw [if_pos h2, if_pos h2]
      · rw [if_neg h2, if_neg h2, if_neg hn102, if_pos hnt]
    have hu : u7 = w7 := by
      rcases r8 with ⟨z1, _, z2⟩ | ⟨z, z2⟩
      · rw [z1, z2]
      · rcases z with z | z
        · rw [z, z2]
        · exact absurd hnt z.2
    have clsW : ∀ gsc gt, ClsT gsc gt L B → gI gsc 3 = nI f → ∃ g1 v5, CW g1 (nVal L B f d1 s pt) (d1 - f + nBeh d1 s pt) ∧ gI g1 4 = 1 ∧ Fr [4, 8, 10, 11] gsc g1 ∧ (v5 = 108 ↔ rc L B t = 108) ∧ f_X7_readNumber n gsc gt g2 = f_X7_settleWhole (sI g1 3 (nI to)) v5 := by
      intro gsc gt c1 c2
      obtain ⟨g1, v5, a1, a2, a3, a4, a5, a6, a7⟩ := cls gsc gt c1 c2
      refine ⟨g1, v5, a1, a2, a3, a4, ?_⟩
      rw [a7 ok3, if_neg (fun z => hrl (hreal.mp z)), hto]
    have frW : ∀ (gsc g1 : Gs) (s0 : Int32), Fr [4, 8, 10, 11] gsc g1 → Fr [3, 4, 7, 8, 9, 10, 11] gsc (sD (sI (sI g1 3 (nI to)) 7 s0) 9 FP.dconst0) := fun gsc g1 s0 hf => (((hf.mono (by decide)).trans (Fr.sI (by decide) _ _)).trans (Fr.sI (by decide) _ _)).trans (Fr.sD (by decide) _ _)
    by_cases hV : nVal L B f d1 s pt < 2 ^ 63
    case neg =>
      have hv : v7 = 1 := by
        rcases r4 with ⟨z, _⟩ | ⟨_, z⟩
        · exact absurd z hV
        · exact z
      have hw : w7 = 1 := by
        rcases hw7 with ⟨z, _⟩ | ⟨_, z⟩
        · rw [z, hv]
        · exact z
      refine bad (.inr (by rw [hu, hw])) fun gsc gt c1 c2 => ?_
      obtain ⟨g1, v5, a1, a2, a3, a4, a5⟩ := clsW gsc gt c1 c2
      have h11 : gI (sI g1 3 (nI to)) 11 = 1 := by
        rcases a1.2 with ⟨z, _⟩ | ⟨_, z⟩
        · exact absurd z hV
        · exact z
      rw [a5]
      unfold f_X7_settleWhole b_X7_settleWhole_12
      rw [h11, if_neg (show ¬ (1 : Int32) = 0 by decide), if_neg (show ¬ (1 : Int32) = 0 by decide)]
      by_cases hc : v5 = 108
      · rw [if_pos hc]; exact ⟨_, rfl, a2, frW _ _ _ a3⟩
      · rw [if_neg hc]; exact ⟨_, rfl, a2, frW _ _ _ a3⟩
    have hv : v7 = 0 ∧ v8 = lN (nVal L B f d1 s pt) := by
      rcases r4 with ⟨_, _, z1, z2⟩ | ⟨z, _⟩
      · exact ⟨z1, z2⟩
      · rcases z with z | z
        · omega
        · exact absurd z ok1
    have hw : u7 = 0 := by
      rw [hu]
      rcases hw7 with ⟨z1, z2⟩ | ⟨z, _⟩
      · rw [z1, hv.1]
      · rw [hv.1] at z; exact absurd z (by decide)
    have eref : f_X12_number n g (nI f) = if rc L B t ≠ 108 ∧ ¬ nVal L B f d1 s pt ≤ 2147483647 then some (tokG g T 1 f to) else some (tokG (sIA (sLA g 12 (vp_updL (gLA g 12) T (lN (nVal L B f d1 s pt)))) 13 (upd (gIA g 13) T (nI (nSort L B t pt pw)))) T 3 f to) := by
      rw [ref]
      unfold b_X12_number_442
      have n5 : nSort L B t pt pw ≤ 5 := by rw [hsrt]; split <;> omega
      rw [bnd_s (isReal_nI (by omega)), if_pos (by rw [hto]), if_pos hw, if_pos n5, if_pos (show (0 : Int32) = 0 from rfl)]
      have f494 : b_X12_number_494 n (L_X12_number n k2) g (nI f) (nI to) (nI (nBeh d1 s pt)) v8 v11 (nI (nSort L B t pt pw)) 0 = some (tokG (sIA (sLA g 12 (vp_updL (gLA g 12) T (lN (nVal L B f d1 s pt)))) 13 (upd (gIA g 13) T (nI (nSort L B t pt pw)))) T 3 f to) := by
        unfold b_X12_number_494 b_X12_number_517 b_X12_number_539
        have tk3 : f_X12_token (sIA (sLA g 12 (vp_updL (gLA g 12) T (lN (nVal L B f d1 s pt)))) 13 (upd (gIA g 13) T (nI (nSort L B t pt pw)))) 3 (nI f) (nI to) = some (tokG (sIA (sLA g 12 (vp_updL (gLA g 12) T (lN (nVal L B f d1 s pt)))) 13 (upd (gIA g 13) T (nI (nSort L B t pt pw)))) T 3 f to) := tok12 hT hT1
        rw [if_pos rfl, if_pos rfl, hv.2, hT]
        simp only [grd_t (inB_nI hT1 (by decide)), nI_clamp (show T < 2 ^ 31 by omega)]
        rw [bnd_s tk3]
        split <;> rfl
      unfold b_X12_number_471
      rw [f494]
      have tk : f_X12_token g 1 (nI f) (nI to) = some (tokG g T 1 f to) := tok12 hT hT1
      unfold b_X12_number_486
      rw [bnd_s tk]
      by_cases h2 : rc L B t = 108
      · rw [if_neg (show ¬ nI (nSort L B t pt pw) = (4 : Int32) by rw [hsrt, if_pos h2]; decide), if_neg (fun z => z.1 h2)]
      · rw [if_pos (show nI (nSort L B t pt pw) = (4 : Int32) by rw [hsrt, if_neg h2]; rfl), hv.2, show (2147483647 : Int64) = lN 2147483647 from rfl]
        by_cases h3 : nVal L B f d1 s pt ≤ 2147483647
        · rw [if_pos ((pk_lLE hV (by decide)).mpr h3), if_neg (fun z => z.2 h3)]
        · rw [if_neg (fun z => h3 ((pk_lLE hV (by decide)).mp z)), if_pos ⟨h2, h3⟩]
    by_cases hbig : rc L B t ≠ 108 ∧ ¬ nVal L B f d1 s pt ≤ 2147483647
    · refine ⟨1, to, 0, 0, g, Fr.refl _ _, by rw [eref, if_pos hbig, if_pos rfl], .inl rfl, t2, fun gsc gt c1 c2 => ?_⟩
      obtain ⟨g1, v5, a1, a2, a3, a4, a5⟩ := clsW gsc gt c1 c2
      obtain ⟨h11, h8⟩ : gI (sI g1 3 (nI to)) 11 = 0 ∧ gL (sI g1 3 (nI to)) 8 = lN (nVal L B f d1 s pt) := by
        rcases a1.2 with ⟨_, z⟩ | ⟨z, _⟩
        · exact z
        · omega
      rw [a5]
      unfold f_X7_settleWhole b_X7_settleWhole_12
      rw [if_neg (fun z => hbig.1 (a4.mp z)), h11, h8, if_pos rfl, if_neg (by decide), if_pos (show (2147483647 : Int64) < lN (nVal L B f d1 s pt) from (pk_lLT (a := 2147483647) (by decide) hV).mpr (by omega))]
      exact ⟨_, rfl, a2, fun z => absurd z (by decide), frW _ _ _ a3⟩
    · refine ⟨3, to, nSort L B t pt pw, lN (nVal L B f d1 s pt), g, Fr.refl _ _, by rw [eref, if_neg hbig, if_neg (by decide)], .inr ⟨rfl, t1, t2, hs7.1, hs7.2, ?_⟩, t2, fun gsc gt c1 c2 => ?_⟩
      · intro h4
        rw [hsrt] at h4
        have h2 : rc L B t ≠ 108 := fun z => by rw [if_pos z] at h4; omega
        have h3 : nVal L B f d1 s pt ≤ 2147483647 := Classical.not_not.mp fun z => hbig ⟨h2, z⟩
        rw [wh4, lN_i, nI_l (by omega)]
      · obtain ⟨g1, v5, a1, a2, a3, a4, a5⟩ := clsW gsc gt c1 c2
        obtain ⟨h11, h8⟩ : gI (sI g1 3 (nI to)) 11 = 0 ∧ gL (sI g1 3 (nI to)) 8 = lN (nVal L B f d1 s pt) := by
          rcases a1.2 with ⟨_, z⟩ | ⟨z, _⟩
          · exact z
          · omega
        rw [a5]
        unfold f_X7_settleWhole b_X7_settleWhole_12 b_X7_settleWhole_46
        rw [h11, h8]
        by_cases h2 : rc L B t = 108
        · rw [if_pos (a4.mpr h2), if_pos (show (0 : Int32) = 0 from rfl), if_pos (show (5 : Int32) = 5 from rfl)]
          refine ⟨_, rfl, rfl, fun _ => ⟨rfl, ?_, ?_⟩, (frW _ _ _ a3).trans (Fr.sI (by decide) _ _)⟩
          · rw [hsrt, if_pos h2]; rfl
          · rw [hsrt, if_pos h2]; exact (VR.whole (by decide)).mpr h8.symm
        · have h3 : nVal L B f d1 s pt ≤ 2147483647 := Classical.not_not.mp fun z => hbig ⟨h2, z⟩
          rw [if_neg (fun z => h2 (a4.mp z)), if_pos (show (0 : Int32) = 0 from rfl), if_neg (show ¬ (4 : Int32) = 5 by decide), if_neg (show ¬ (2147483647 : Int64) < lN (nVal L B f d1 s pt) from fun z => by have := (pk_lLT (a := 2147483647) (by decide) hV).mp z; omega)]
          refine ⟨_, rfl, rfl, fun _ => ⟨rfl, ?_, ?_⟩, (frW _ _ _ a3).trans (Fr.sI (by decide) _ _)⟩
          · rw [hsrt, if_neg h2]; rfl
          · rw [hsrt, if_neg h2]; exact (VR.whole (by decide)).mpr h8.symm
