/-! the tape on both sides: feed, end; count, fault, told -/
def TpR (g gT gt : Gs) (L : Nat) : Prop := L ≤ 3000 ∧ gI g 4 = nI L ∧ gI gT 1 = nI L ∧ ∀ p, p < L → byt (gIA g 3 p) ∧ gIA g 3 p = gIA gt 0 p
def bv (x s : Int32) : Int32 := vp_nar .byte ((x >>> (s &&& 31)).toInt8.toInt32)
def sv (i : Nat) : Int32 := (24 : Int32) - (8 : Int32) * nI i
theorem byt_nar (y : Int32) : byt (vp_nar .byte y) := by
  show (y.toInt8.toInt32).toInt8.toInt32 = y.toInt8.toInt32
  rw [Int8.toInt8_toInt32]
theorem sv_ok : ∀ i, i < 4 → ¬ sv i < 0 ∧ sv i + (-8 : Int32) = sv (i + 1) := by decide
theorem fone_loop {n l : Nat} {x : Int32} (hl : l + 4 ≤ 3000) : ∀ (d k i : Nat) (gT gt : Gs), i + d = 4 → d < k → gI gT 1 = nI (l + i) → ∃ gT' gt', L_X11_feedOne n k gT gt x (sv i) = some (gT', gt') ∧ Fr [1] gT gT' ∧ gI gT' 1 = nI (l + 4) ∧ (∀ p, p < l + i → gIA gt' 0 p = gIA gt 0 p) ∧ ∀ r, i ≤ r → r < 4 → gIA gt' 0 (l + r) = bv x (sv r) := by
  intro d
  induction d with
  | zero =>
    intro k i gT gt h1 h2 h3
    obtain ⟨k, rfl⟩ : ∃ q, k = q + 1 := ⟨k - 1, by omega⟩
    have hi : i = 4 := by omega
    subst hi
    refine ⟨gT, gt, ?_, Fr.refl _ _, h3, fun _ _ => rfl, fun r h1 h2 => by omega⟩
    show h_X11_feedOne_3 n (L_X11_feedOne n k) gT gt x (sv 4) = _
    unfold h_X11_feedOne_3
    rw [if_pos (show sv 4 < 0 by decide)]
  | succ d ih =>
    intro k i gT gt h1 h2 h3
    obtain ⟨k, rfl⟩ : ∃ q, k = q + 1 := ⟨k - 1, by omega⟩
    obtain ⟨s1, s2⟩ := sv_ok i (by omega)
    obtain ⟨gT', gt', a1, a2, a3, a4, a5⟩ := ih k (i + 1) (sI gT 1 (nI (l + (i + 1)))) (sIA gt 0 (upd (gIA gt 0) (l + i) (bv x (sv i)))) (by omega) (by omega) rfl
    refine ⟨gT', gt', ?_, (Fr.sI (by decide) _ _).trans a2, a3, fun p hp => ?_, fun r r1 r2 => ?_⟩
    · rw [← a1]
      show h_X11_feedOne_3 n (L_X11_feedOne n k) gT gt x (sv i) = _
      unfold h_X11_feedOne_3
      rw [if_neg s1, h3, grd_t (inB_nI (by omega) (by decide)), nI_clamp (by omega), nI_1, s2]
      rfl
    · rw [a4 p (by omega)]
      show upd (gIA gt 0) (l + i) _ p = _
      rw [pk_un (by omega)]
    · by_cases c : r = i
      · rw [c, a4 (l + i) (by omega)]
        show upd (gIA gt 0) (l + i) _ (l + i) = _
        rw [pk_us]
      · exact a5 r (by omega) r2
theorem fone {n l : Nat} {x : Int32} {gT gt : Gs} (hn : 10 ≤ n) (hl : l + 4 ≤ 3000) (h : gI gT 1 = nI l) : ∃ gT' gt', f_X11_feedOne n gT gt x = some (gT', gt') ∧ Fr [1] gT gT' ∧ gI gT' 1 = nI (l + 4) ∧ (∀ p, p < l → gIA gt' 0 p = gIA gt 0 p) ∧ ∀ r, r < 4 → gIA gt' 0 (l + r) = bv x (sv r) := by
  obtain ⟨gT', gt', a1, a2, a3, a4, a5⟩ := fone_loop (n := n) (x := x) hl 4 n 0 gT gt (by omega) (by omega) h
  exact ⟨gT', gt', a1, a2, a3, a4, fun r hr => a5 r (Nat.zero_le _) hr⟩
def arg5 (a b c d e : Int32) (q : Nat) : Int32 := if q = 0 then a else if q = 1 then b else if q = 2 then c else if q = 3 then d else e
theorem feed_ref {n L : Nat} {a b c d e : Int32} (hL : L + 20 ≤ 3000) : ∀ (f k i : Nat) (g : Gs), i + f = 4 → f < k → gI g 4 = nI L → ∃ g', L_X12_feed n k g a b c d e (nI i) = some (nI (L + 20), g') ∧ Fr [3, 4] g g' ∧ gI g' 4 = nI (L + 20) ∧ (∀ p, p < L → gIA g' 3 p = gIA g 3 p) ∧ ∀ q r, q < 5 → r < 4 → gIA g' 3 (L + 4 * q + r) = if i ≤ r then bv (arg5 a b c d e q) (sv r) else gIA g 3 (L + 4 * q + r) := by
  intro f
  induction f with
  | zero =>
    intro k i g h1 h2 h4
    obtain ⟨k, rfl⟩ : ∃ q, k = q + 1 := ⟨k - 1, by omega⟩
    refine ⟨sI g 4 (nI (L + 20)), ?_, Fr.sI (by decide) _ _, rfl, fun _ _ => rfl, fun q r _ hr => by rw [if_neg (by omega)]; rfl⟩
    show h_X12_feed_18 n (L_X12_feed n k) g a b c d e (nI i) = _
    unfold h_X12_feed_18
    rw [if_pos (show (4 : Int32) ≤ nI i from nI_le (a := 4) (by omega) (by omega)), h4, show nI L + (20 : Int32) = nI (L + 20) from nI_plus L 20]
  | succ f ih =>
    intro k i g h1 h2 h4
    obtain ⟨k, rfl⟩ : ∃ q, k = q + 1 := ⟨k - 1, by omega⟩
    have e0 : nI L + nI i = nI (L + i) := nI_plus L i
    have e4 : nI L + (4 : Int32) + nI i = nI (L + 4 + i) := by rw [show nI L + (4 : Int32) = nI (L + 4) from nI_plus L 4, nI_plus]
    have e8 : nI L + (8 : Int32) + nI i = nI (L + 8 + i) := by rw [show nI L + (8 : Int32) = nI (L + 8) from nI_plus L 8, nI_plus]
    have e12 : nI L + (12 : Int32) + nI i = nI (L + 12 + i) := by rw [show nI L + (12 : Int32) = nI (L + 12) from nI_plus L 12, nI_plus]
    have e16 : nI L + (16 : Int32) + nI i = nI (L + 16 + i) := by rw [show nI L + (16 : Int32) = nI (L + 16) from nI_plus L 16, nI_plus]
    obtain ⟨F, hF⟩ : ∃ F, F = upd (upd (upd (upd (upd (gIA g 3) (L + i) (bv a (sv i))) (L + 4 + i) (bv b (sv i))) (L + 8 + i) (bv c (sv i))) (L + 12 + i) (bv d (sv i))) (L + 16 + i) (bv e (sv i)) := ⟨_, rfl⟩
    obtain ⟨g1, hg1, f1, g14, g13⟩ : ∃ g1, L_X12_feed n (k + 1) g a b c d e (nI i) = L_X12_feed n k g1 a b c d e (nI (i + 1)) ∧ Fr [3, 4] g g1 ∧ gI g1 4 = nI L ∧ gIA g1 3 = F := by
      refine ⟨sIA (sIA (sIA (sIA (sIA g 3 (upd (gIA g 3) (L + i) (bv a (sv i)))) 3 (upd (upd (gIA g 3) (L + i) (bv a (sv i))) (L + 4 + i) (bv b (sv i)))) 3 (upd (upd (upd (gIA g 3) (L + i) (bv a (sv i))) (L + 4 + i) (bv b (sv i))) (L + 8 + i) (bv c (sv i)))) 3 (upd (upd (upd (upd (gIA g 3) (L + i) (bv a (sv i))) (L + 4 + i) (bv b (sv i))) (L + 8 + i) (bv c (sv i))) (L + 12 + i) (bv d (sv i)))) 3 (upd (upd (upd (upd (upd (gIA g 3) (L + i) (bv a (sv i))) (L + 4 + i) (bv b (sv i))) (L + 8 + i) (bv c (sv i))) (L + 12 + i) (bv d (sv i))) (L + 16 + i) (bv e (sv i))), ?_, ?_, ?_, ?_⟩
      · show h_X12_feed_18 n (L_X12_feed n k) g a b c d e (nI i) = _
        unfold h_X12_feed_18
        rw [if_neg (show ¬ (4 : Int32) ≤ nI i from nI_ge (b := 4) (by omega) (by omega)), h4, e0, e4, e8, e12, e16, grd_t (inB_nI (by omega) (by decide)), grd_t (inB_nI (by omega) (by decide)), grd_t (inB_nI (by omega) (by decide)), grd_t (inB_nI (by omega) (by decide)), grd_t (inB_nI (by omega) (by decide)), nI_clamp (show L + i < 2 ^ 31 by omega), nI_clamp (show L + 4 + i < 2 ^ 31 by omega), nI_clamp (show L + 8 + i < 2 ^ 31 by omega), nI_clamp (show L + 12 + i < 2 ^ 31 by omega), nI_clamp (show L + 16 + i < 2 ^ 31 by omega), nI_1]
        rfl
      · exact ((((Fr.sIA (by decide) _ _).trans (Fr.sIA (by decide) _ _)).trans (Fr.sIA (by decide) _ _)).trans (Fr.sIA (by decide) _ _)).trans (Fr.sIA (by decide) _ _)
      · exact h4
      · rw [hF]; rfl
    obtain ⟨g', a1, a2, a3, a4, a5⟩ := ih k (i + 1) g1 (by omega) (by omega) g14
    refine ⟨g', hg1.trans a1, f1.trans a2, a3, fun p hp => ?_, fun q r hq hr => ?_⟩
    · rw [a4 p hp, g13, hF, pk_un (by omega), pk_un (by omega), pk_un (by omega), pk_un (by omega), pk_un (by omega)]
    · rw [a5 q r hq hr, g13, hF]
      by_cases c1 : i + 1 ≤ r
      · rw [if_pos c1, if_pos (by omega)]
      · rw [if_neg c1]
        by_cases c2 : r = i
        · rw [if_pos (by omega), c2]
          have : q = 0 ∨ q = 1 ∨ q = 2 ∨ q = 3 ∨ q = 4 := by omega
          rcases this with rfl | rfl | rfl | rfl | rfl
          · rw [pk_un (by omega), pk_un (by omega), pk_un (by omega), pk_un (by omega), show L + 4 * 0 + i = L + i by omega, pk_us]; rfl
          · rw [pk_un (by omega), pk_un (by omega), pk_un (by omega), show L + 4 * 1 + i = L + 4 + i by omega, pk_us]; rfl
          · rw [pk_un (by omega), pk_un (by omega), show L + 4 * 2 + i = L + 8 + i by omega, pk_us]; rfl
          · rw [pk_un (by omega), show L + 4 * 3 + i = L + 12 + i by omega, pk_us]; rfl
          · rw [show L + 4 * 4 + i = L + 16 + i by omega, pk_us]; rfl
        · rw [if_neg (by omega), pk_un (by omega), pk_un (by omega), pk_un (by omega), pk_un (by omega), pk_un (by omega)]
theorem feed_eq {n L : Nat} {g gT gt : Gs} {a b c d e : Int32} (hn : 10 ≤ n) (h : TpR g gT gt L) : ∃ r g' gT' gt' L', f_X12_feed n g a b c d e = some (r, g') ∧ f_X11_feed n gT gt a b c d e = some (r, gT', gt') ∧ TpR g' gT' gt' L' ∧ Fr [3, 4] g g' ∧ Fr [1] gT gT' := by
  obtain ⟨hL, h4, h1, hp⟩ := id h
  have e20 : nI L + (20 : Int32) = nI (L + 20) := nI_plus L 20
  unfold f_X12_feed f_X11_feed
  rw [h4, h1, e20]
  by_cases c0 : L + 20 ≤ 3000
  · have z : nI (L + 20) ≤ (3000 : Int32) := nI_le (b := 3000) c0 (by omega)
    rw [if_pos z, if_pos z]
    obtain ⟨g', r1, r2, r3, r4, r5⟩ := feed_ref (n := n) (a := a) (b := b) (c := c) (d := d) (e := e) c0 4 n 0 g (by omega) (by omega) h4
    obtain ⟨T1, t1, a1, a2, a3, a4, a5⟩ := fone (n := n) (x := a) (gt := gt) hn (show L + 4 ≤ 3000 by omega) h1
    obtain ⟨T2, t2, b1, b2, b3, b4, b5⟩ := fone (n := n) (x := b) (gt := t1) hn (show L + 4 + 4 ≤ 3000 by omega) a3
    obtain ⟨T3, t3, c1, c2, c3, c4, c5⟩ := fone (n := n) (x := c) (gt := t2) hn (show L + 4 + 4 + 4 ≤ 3000 by omega) b3
    obtain ⟨T4, t4, d1, d2, d3, d4, d5⟩ := fone (n := n) (x := d) (gt := t3) hn (show L + 4 + 4 + 4 + 4 ≤ 3000 by omega) c3
    obtain ⟨T5, t5, e1, e2, e3, e4, e5⟩ := fone (n := n) (x := e) (gt := t4) hn (show L + 4 + 4 + 4 + 4 + 4 ≤ 3000 by omega) d3
    have hl : L + 4 + 4 + 4 + 4 + 4 = L + 20 := by omega
    rw [hl] at e3
    refine ⟨nI (L + 20), g', T5, t5, L + 20, r1, ?_, ⟨c0, r3, e3, fun p hp' => ?_⟩, r2, ((((a2.trans b2).trans c2).trans d2).trans e2)⟩
    · rw [bnd_s a1, bnd_s b1, bnd_s c1, bnd_s d1, bnd_s e1]
      show some (gI T5 1, T5, t5) = _
      rw [e3]
    · by_cases hlt : p < L
      · rw [r4 p hlt, e4 p (by omega), d4 p (by omega), c4 p (by omega), b4 p (by omega), a4 p hlt]
        exact hp p hlt
      · obtain ⟨q, r, hq, hr, rfl⟩ : ∃ q r, q < 5 ∧ r < 4 ∧ p = L + 4 * q + r := ⟨(p - L) / 4, (p - L) % 4, by omega, by omega, by omega⟩
        have ev := r5 q r hq hr
        rw [if_pos (Nat.zero_le _)] at ev
        rw [ev]
        refine ⟨byt_nar _, ?_⟩
        have : q = 0 ∨ q = 1 ∨ q = 2 ∨ q = 3 ∨ q = 4 := by omega
        rcases this with rfl | rfl | rfl | rfl | rfl
        · rw [e4 _ (by omega), d4 _ (by omega), c4 _ (by omega), b4 _ (by omega), show L + 4 * 0 + r = L + r by omega, a5 r hr]; rfl
        · rw [e4 _ (by omega), d4 _ (by omega), c4 _ (by omega), show L + 4 * 1 + r = L + 4 + r by omega, b5 r hr]; rfl
        · rw [e4 _ (by omega), d4 _ (by omega), show L + 4 * 2 + r = L + 4 + 4 + r by omega, c5 r hr]; rfl
        · rw [e4 _ (by omega), show L + 4 * 3 + r = L + 4 + 4 + 4 + r by omega, d5 r hr]; rfl
        · rw [show L + 4 * 4 + r = L + 4 + 4 + 4 + 4 + r by omega, e5 r hr]; rfl
  · have z : ¬ nI (L + 20) ≤ (3000 : Int32) := nI_ge (a := 3000) (by omega) (by omega)
    rw [if_neg z, if_neg z]
    exact ⟨_, g, gT, gt, L, rfl, rfl, h, Fr.refl _ _, Fr.refl _ _⟩
theorem end_eq {L : Nat} {g gT gt : Gs} {x : Int32} (h : TpR g gT gt L) : ∃ r g' gT' L', f_X12_end g x = some (r, g') ∧ f_X11_end gT gt x = some (r, gT') ∧ TpR g' gT' gt L' ∧ Fr [4] g g' ∧ Fr [1] gT gT' := by
  obtain ⟨hL, h4, h1, hp⟩ := id h
  unfold f_X12_end f_X11_end
  rw [h4, h1]
  rcases pk_ix x (n := L + 1) (by omega) with z | z | ⟨i, hi, rfl⟩
  · rw [if_pos z, if_pos z]
    exact ⟨_, g, gT, L, rfl, rfl, h, Fr.refl _ _, Fr.refl _ _⟩
  · by_cases z0 : x < 0
    · rw [if_pos z0, if_pos z0]
      exact ⟨_, g, gT, L, rfl, rfl, h, Fr.refl _ _, Fr.refl _ _⟩
    · have zl : ¬ x ≤ nI L := fun y => nI_ge (a := L) (b := L + 1) (by omega) (by omega) (Int32.le_trans z y)
      rw [if_neg z0, if_neg z0, if_neg zl, if_neg zl]
      exact ⟨_, g, gT, L, rfl, rfl, h, Fr.refl _ _, Fr.refl _ _⟩
  · have z : nI i ≤ nI L := nI_le (by omega) (by omega)
    rw [if_neg (nI_pos (by omega)), if_neg (nI_pos (by omega)), if_pos z, if_pos z]
    exact ⟨_, _, _, i, rfl, rfl, ⟨by omega, rfl, rfl, fun p hp' => hp p (by omega)⟩, Fr.sI (by decide) _ _, Fr.sI (by decide) _ _⟩
theorem count_eq {h8 L : Nat} {g gT gt gs gpg gtr gp gc : Gs} {srt : Nat → Nat} {many bells cams S t : Nat} {x : Int32} (h : TpR g gT gt L) (hpl : PlR g gp gc srt many bells cams) (hnm : NmR g gp many bells cams) (hst : StR g gs srt many bells S t) (hS : S < 2 ^ 31) (hD : Dk g gpg) (hW : Wr g gtr) (h63 : gI g 63 = gI gc 9) (hR : rEq (gR gT 8) h8 = true) : ∃ r, f_X12_count g x = some r ∧ f_X11_count h8 gT gs gpg gtr gp gc x = some r := by
  obtain ⟨_, h4, h1, _⟩ := h
  obtain ⟨_, _, h60, p4, h61, p5, _⟩ := hpl
  obtain ⟨_, _, _, h62, p6⟩ := hnm
  obtain ⟨Lx, d1, d2, _⟩ := hD
  obtain ⟨k, _, w1, w2, _⟩ := hW
  obtain ⟨_, _, _, ⟨s1, s2, _⟩, _⟩ := hst
  unfold f_X12_count f_X11_count
  rw [h60, h61, h62, h63, h4, d1, w1, s1, p4, p5, p6, h1, d2, w2, s2]
  simp only [grd_t hR]
  by_cases c0 : x = 0
  · rw [if_pos c0, if_pos c0]; exact ⟨_, rfl, rfl⟩
  rw [if_neg c0, if_neg c0]
  by_cases c1 : x = 1
  · rw [if_pos c1, if_pos c1]; exact ⟨_, rfl, rfl⟩
  rw [if_neg c1, if_neg c1]
  by_cases c2 : x = 2
  · rw [if_pos c2, if_pos c2]; exact ⟨_, rfl, rfl⟩
  rw [if_neg c2, if_neg c2]
  by_cases c3 : x = 3
  · rw [if_pos c3, if_pos c3]; exact ⟨_, rfl, rfl⟩
  rw [if_neg c3, if_neg c3]
  by_cases c4 : x = 4
  · rw [if_pos c4, if_pos c4]; exact ⟨_, rfl, rfl⟩
  rw [if_neg c4, if_neg c4]
  by_cases c5 : x = 5
  · rw [if_pos c5, if_pos c5]
    by_cases z : 64 ≤ S
    · rw [if_pos (show (64 : Int32) ≤ nI S from nI_le (a := 64) z hS), show min S 64 = 64 by omega]; exact ⟨_, rfl, rfl⟩
    · rw [if_neg (show ¬ (64 : Int32) ≤ nI S from nI_ge (b := 64) (by omega) (by decide)), show min S 64 = S by omega]
      exact ⟨_, rfl, rfl⟩
  rw [if_neg c5, if_neg c5]
  by_cases c6 : x = 6
  · rw [if_pos c6]; exact ⟨_, rfl, rfl⟩
  rw [if_neg c6]
  by_cases c7 : x = 7
  · rw [if_pos c7]; exact ⟨_, rfl, rfl⟩
  rw [if_neg c7]; exact ⟨_, rfl, rfl⟩
