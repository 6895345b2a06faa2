/-! value, tick, strike -/
theorem bitsOf_eq {n : Nat} {g2 : Gs} {t : Nat} {v w : Int64} {d : UInt64} (hn : 20 ≤ n) (hT : Tb g2) (ht : t ≤ 7) (h : VR t v w d) : f_X6_bitsOf n g2 (nI t) w d = some v := by
  unfold f_X6_bitsOf
  by_cases h7 : t = 7
  · subst h7
    obtain ⟨e, s, u, hd⟩ := VR.seven.mp h
    rw [if_pos (show nI 7 = 7 from rfl), bnd_s (f_bits hn hT hd), ← e]
    simp
  · by_cases h6 : t = 6
    · subst h6
      obtain ⟨s, u, hf, hd⟩ := VR.six.mp h
      rw [if_neg (by decide), if_pos (show nI 6 = 6 from rfl), bnd_s (f_floatBits hn hT hd hf)]
    · have e7 : ¬ nI t = (7 : Int32) := fun z => h7 ((nI_eq (b := 7) (by omega) (by decide)).mp z)
      have e6 : ¬ nI t = (6 : Int32) := fun z => h6 ((nI_eq (b := 6) (by omega) (by decide)).mp z)
      rw [if_neg e7, if_neg e6, (VR.whole (by omega)).mp h]
theorem lN31 (m : Nat) (hm : m < 2 ^ 64) : (lN m &&& (31 : Int64)).toInt32 = nI (m % 32) := by
  rw [lN_and hm 5 (by decide)]
  have h32 : m % 32 < 32 := Nat.mod_lt _ (by decide)
  have : ∀ q : Fin 32, (lN q.val).toInt32 = nI q.val := by decide
  exact this ⟨m % 32, h32⟩
theorem PlR.srt7 {g gp gc : Gs} {srt : Nat → Nat} {many bells cams i : Nat} (h : PlR g gp gc srt many bells cams) (hi : i < many) : srt i ≤ 7 := by
  obtain ⟨m40, b12, h60, h4, h61, h5, h77, hord, hth, hbe, hte⟩ := h
  obtain ⟨_, _, ⟨_, _, _, _, _, _, _, _, _, hc⟩, _⟩ := hth i hi
  exact hc.2.1
theorem value_eq {n h8 : Nat} {g gT g2 gs gp gc : Gs} {srt : Nat → Nat} {many bells cams S t : Nat} (hn : 20 ≤ n) (hTb : Tb g2) (hst : StR g gs srt many bells S t) (hpl : PlR g gp gc srt many bells cams) (hR : rEq (gR gT 8) h8 = true) (ht : t ≤ 1000000) (x0 x1 : Int32) : ∃ r, f_X12_value g x0 x1 = some r ∧ f_X11_value n h8 gT g2 gs gp x0 x1 = some r := by
  obtain ⟨m40, b12, h60, h4, h61, h5, h77, hord, hth, hbe, hte⟩ := id hpl
  obtain ⟨⟨d1, d2, d3, d4⟩, q2, q3, q4, q5, q6, q7⟩ := hst
  unfold f_X12_value f_X11_value
  rw [h60, h4, d2, q6]
  by_cases z0 : x0 < 0
  · exact ⟨0, if_pos z0, if_pos z0⟩
  rw [if_neg z0, if_neg z0, grd_t hR]
  rcases pk_ix x0 (n := many) (by omega) with h | h | ⟨i, hi, rfl⟩
  · exact absurd h z0
  · exact ⟨0, if_pos h, if_pos h⟩
  rw [if_neg (nI_ge hi (by omega)), if_neg (nI_ge hi (by omega))]
  by_cases z1 : x1 < 0
  · exact ⟨0, if_pos z1, if_pos z1⟩
  rw [if_neg z1, if_neg z1]
  by_cases z31 : x1 ≤ 31
  case neg =>
    rw [if_neg z31, if_pos (Int32.not_le.mp z31)]
    exact ⟨0, rfl, rfl⟩
  obtain ⟨a, ha, rfl⟩ := nI_of2 (n := 31) (by decide) z1 z31
  rw [if_pos z31, if_neg (Int32.not_lt.mpr z31), nI_l (by omega)]
  obtain ⟨s1, s2, _⟩ := hth i hi
  have s7 := hpl.srt7 hi
  have i40 : inB (nI i) 40 = true := inB_nI (by omega) (by decide)
  have ci : (nI i).toNatClampNeg = i := nI_clamp (by omega)
  simp only [grd_t hR, grd_t i40, ci, s2]
  by_cases a0 : a = 0
  · subst a0
    rw [if_pos (show nI 0 = 0 from rfl), if_pos ((pk_lLE (by omega) (by omega)).mpr (by omega)), if_pos (show nI 0 = 0 from rfl), bnd_s (bitsOf_eq hn hTb s7 (d4 i hi).1)]
    exact ⟨_, rfl, rfl⟩
  · rw [if_neg (nI_ne0 (by omega) (by omega))]
    by_cases hat : a ≤ t
    · have hl : lN a ≤ lN t := (pk_lLE (by omega) (by omega)).mpr hat
      rw [if_pos hl, if_pos hl, if_neg (nI_ne0 (by omega) (by omega))]
      have m1 : (t - a + 1) % 32 < 32 := Nat.mod_lt _ (by decide)
      have m2 : (t - a) % 32 < 32 := Nat.mod_lt _ (by decide)
      have e1 : (32 : Int32) * nI i + ((lN t - lN a + (1 : Int64)) &&& (31 : Int64)).toInt32 = nI (32 * i + (t - a + 1) % 32) := by
        rw [lN_sub hat, show (1 : Int64) = lN 1 from rfl, lN_add, lN31 _ (by omega), show (32 : Int32) = nI 32 from rfl, pk_mul, nI_add]
      have e2 : f_X9_pastRow gs (nI a) = some (nI ((t - a) % 32 * 40)) := by
        unfold f_X9_pastRow
        rw [q6, nI_l (by omega), lN_sub hat, lN31 _ (by omega), show (40 : Int32) = nI 40 from rfl, pk_mul]
      rw [e1, grd_t (inB_nI (by omega) (by decide)), nI_clamp (by omega), bnd_s e2, nI_add, grd_t (inB_nI (by omega) (by decide)), grd_t (inB_nI (by omega) (by decide)), nI_clamp (by omega), bnd_s (bitsOf_eq hn hTb s7 (q7 a (by omega) (by omega) hat i hi))]
      exact ⟨_, rfl, rfl⟩
    · have hl : ¬ lN a ≤ lN t := fun z => hat ((pk_lLE (by omega) (by omega)).mp z)
      rw [if_neg hl, if_neg hl]
      exact ⟨_, rfl, rfl⟩
theorem tick_loop {n h8 : Nat} {g2 gT gp gc : Gs} {srt : Nat → Nat} {many bells cams : Nat} (hn : 3000 ≤ n) (hTb : Tb g2) (hR : rEq (gR gT 8) h8 = true) (x : Nat) (hx : x ≤ 500) : ∀ (d k k2 p S t : Nat) (g gs gm : Gs), p + d = x → d < k → d < k2 → S ≤ 52 * t → t + d ≤ 1000000 → StR g gs srt many bells S t → PlR g gp gc srt many bells cams → ∃ r g' gs' gm' S' t', L_X12_tick n k g (nI x) (nI p) = some (r, g') ∧ L_X11_tick n h8 k2 gT g2 gs gm gp gc (nI x) (nI p) = some (r, gs', gm') ∧ StR g' gs' srt many bells S' t' ∧ S' ≤ 52 * t' ∧ t' = t + d ∧ Fr ([81, 82, 87] ++ tickA) g g' ∧ Fr [2, 3, 4, 5, 6] gm gm' := by
  intro d
  induction d with
  | zero =>
    intro k k2 p S t g gs gm hp hk hk2 hS ht hst hpl
    obtain ⟨k, rfl⟩ : ∃ q, k = q + 1 := ⟨k - 1, by omega⟩
    obtain ⟨k2, rfl⟩ : ∃ q, k2 = q + 1 := ⟨k2 - 1, by omega⟩
    refine ⟨gL g 87, g, gs, gm, S, t, ?_, ?_, hst, hS, rfl, Fr.refl _ _, Fr.refl _ _⟩
    · show h_X12_tick_17 n (L_X12_tick n k) g (nI x) (nI p) = _
      unfold h_X12_tick_17
      rw [if_pos (nI_le (by omega) (by omega))]
    · show h_X11_tick_17 n h8 (L_X11_tick n h8 k2) gT g2 gs gm gp gc (nI x) (nI p) = _
      unfold h_X11_tick_17
      rw [if_pos (nI_le (by omega) (by omega)), hst.1.2.1]
  | succ d ih =>
    intro k k2 p S t g gs gm hp hk hk2 hS ht hst hpl
    obtain ⟨k, rfl⟩ : ∃ q, k = q + 1 := ⟨k - 1, by omega⟩
    obtain ⟨k2, rfl⟩ : ∃ q, k2 = q + 1 := ⟨k2 - 1, by omega⟩
    obtain ⟨g1, gs1, gm1, S1, b1, b2, b3, b4, b5, b6⟩ := tick1_both (n := n) (gm := gm) hn hTb hst hpl hS (by omega)
    obtain ⟨r, g', gs', gm', S', t', c1, c2, c3, c4, c5, c6, c7⟩ := ih k k2 (p + 1) S1 (t + 1) g1 gs1 gm1 (by omega) (by omega) (by omega) b4 (by omega) b3 (hpl.fr b5 (by decide))
    refine ⟨r, g', gs', gm', S', t', ?_, ?_, c3, c4, by omega, b5.trans c6, b6.trans c7⟩
    · show h_X12_tick_17 n (L_X12_tick n k) g (nI x) (nI p) = _
      unfold h_X12_tick_17
      rw [if_neg (nI_ge (by omega) (by omega)), bnd_s b1, nI_1]
      exact c1
    · show h_X11_tick_17 n h8 (L_X11_tick n h8 k2) gT g2 gs gm gp gc (nI x) (nI p) = _
      unfold h_X11_tick_17
      rw [if_neg (nI_ge (by omega) (by omega)), grd_t hR, bnd_s b2, nI_1]
      exact c2
theorem tick_eq {n h8 : Nat} {g gs gm g2 gT gp gc : Gs} {srt : Nat → Nat} {many bells cams S t : Nat} (hn : 3000 ≤ n) (hTb : Tb g2) (hR : rEq (gR gT 8) h8 = true) (hst : StR g gs srt many bells S t) (hpl : PlR g gp gc srt many bells cams) (hS : S ≤ 52 * t) (ht : t + 500 ≤ 1000000) (x : Int32) : ∃ r g' gs' gm' S' t', f_X12_tick n g x = some (r, g') ∧ f_X11_tick n h8 gT g2 gs gm gp gc x = some (r, gs', gm') ∧ StR g' gs' srt many bells S' t' ∧ S' ≤ 52 * t' ∧ t' ≤ t + 500 ∧ Fr ([81, 82, 87] ++ tickA) g g' ∧ Fr [2, 3, 4, 5, 6] gm gm' := by
  unfold f_X12_tick f_X11_tick
  by_cases z0 : x < 0
  · rw [if_pos z0, if_pos z0]
    exact ⟨_, _, _, _, S, t, rfl, rfl, hst, hS, by omega, Fr.refl _ _, Fr.refl _ _⟩
  rw [if_neg z0, if_neg z0]
  by_cases z5 : x ≤ 500
  · obtain ⟨a, ha, rfl⟩ := nI_of2 (n := 500) (by decide) z0 z5
    rw [if_pos z5, if_pos z5]
    obtain ⟨r, g', gs', gm', S', t', c1, c2, c3, c4, c5, c6, c7⟩ := tick_loop (n := n) (h8 := h8) hn hTb hR a ha a n n 0 S t g gs gm (by omega) (by omega) (by omega) hS (by omega) hst hpl
    exact ⟨r, g', gs', gm', S', t', c1, c2, c3, c4, by omega, c6, c7⟩
  · rw [if_neg z5, if_neg z5]
    exact ⟨_, _, _, _, S, t, rfl, rfl, hst, hS, by omega, Fr.refl _ _, Fr.refl _ _⟩
theorem fmod_row : ∀ s k : Fin 64, f_J9_floorMod_7cf53 (nI s.val - (1 : Int32) - nI k.val) (64 : Int32) = some (nI ((s.val + 63 - k.val) % 64)) := by decide +kernel
theorem strike_eq {g gT gs : Gs} {srt : Nat → Nat} {many bells S t : Nat} (hst : StR g gs srt many bells S t) (hS : S < 2 ^ 31) (x0 x1 : Int32) : ∃ r, f_X12_strike g x0 x1 = some r ∧ f_X11_strike gT gs x0 x1 = some r := by
  obtain ⟨⟨d1, d2, d3, d4⟩, q2, q3, ⟨q4, q4', q4''⟩, q5, q6, q7⟩ := hst
  unfold f_X12_strike f_X11_strike
  rw [q4, q4', q4'']
  by_cases z0 : x0 < 0
  · exact ⟨_, if_pos z0, if_pos z0⟩
  obtain ⟨k, k31, rfl⟩ := nI_of z0
  rw [if_neg z0, if_neg z0]
  by_cases z63 : 63 < k
  · rw [if_pos (show (63 : Int32) < nI k from nI_lt (a := 63) z63 k31), if_neg (nI_nlt (by omega) k31)]
    exact ⟨_, rfl, rfl⟩
  rw [if_neg (show ¬ (63 : Int32) < nI k from nI_nlt (a := 63) (by omega) (by omega))]
  by_cases zk : S ≤ k
  · rw [if_pos (nI_le zk k31), if_neg (nI_nlt (by omega) k31)]
    exact ⟨_, rfl, rfl⟩
  rw [if_neg (nI_ge (by omega) hS), if_pos (nI_lt (by omega) (by omega))]
  have e1 : nI S - 1 - nI k = nI (S - 1 - k) := by
    rw [show (1 : Int32) = nI 1 from rfl, pk_sub (by omega), pk_sub (by omega)]
  have e63 : nI (S - 1 - k) &&& (63 : Int32) = nI ((S - 1 - k) % 64) := pk_andN (by omega) 6 (by decide)
  have em : f_J9_floorMod_7cf53 (nI (S % 64) - 1 - nI k) 64 = some (nI ((S - 1 - k) % 64)) := by
    have h : f_J9_floorMod_7cf53 (nI (S % 64) - 1 - nI k) 64 = some (nI ((S % 64 + 63 - k) % 64)) := fmod_row ⟨S % 64, Nat.mod_lt _ (by decide)⟩ ⟨k, by omega⟩
    rw [h, show (S % 64 + 63 - k) % 64 = (S - 1 - k) % 64 by omega]
  have hm : (S - 1 - k) % 64 < 64 := Nat.mod_lt _ (by decide)
  rw [e1, e63, bnd_s em, nI_clamp (by omega), (q5 _ hm).1, (q5 _ hm).2]
  simp only [grd_t (inB_nI hm (by decide))]
  by_cases w0 : x1 = 0
  · subst w0; exact ⟨_, rfl, rfl⟩
  by_cases w1 : x1 = 1
  · subst w1; exact ⟨_, rfl, rfl⟩
  rw [if_neg w0, if_neg w0, if_neg w1]
  by_cases wn : x1 < 0
  · rw [if_pos wn]; exact ⟨_, rfl, rfl⟩
  · have : ¬ x1 ≤ 1 := by
      intro z
      obtain ⟨a, ha, rfl⟩ := nI_of2 (n := 1) (by decide) wn z
      have : a = 0 ∨ a = 1 := by omega
      rcases this with rfl | rfl
      · exact w0 rfl
      · exact w1 rfl
    rw [if_neg wn, if_neg this]; exact ⟨_, rfl, rfl⟩
