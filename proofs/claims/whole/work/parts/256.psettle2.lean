/-! settling: the plan that turns then, on both sides -/
theorem comes_co {t w : Nat} (ht : t ≤ 7) (hw : w ≤ 7) (h : f_X12_comes (nI t) (nI w) = some 1) : Co t w := by
  have H : ∀ t, t < 8 → ∀ w, w < 8 → f_X12_comes (nI t) (nI w) = some 1 → ((t = 0 ∧ w = 0) ∨ (1 ≤ t ∧ t ≤ w)) := by decide +kernel
  exact ⟨ht, hw, H t (by omega) w (by omega) h⟩
/-- formula x of a settled plan -/
theorem FS.fo {g gG gp gc : Gs} {srt : Nat → Nat} {many cams x a z A : Nat} (h : FS g gp gc srt many cams x a z) (hc : ∀ i, i < A → Cp g gG i) (hz : z ≤ A) (hA : A ≤ 840) (hx : x < 92) (h11 : f_X0_beginOf gc (nI x) = some (nI a)) (h12 : f_X0_endOf gc (nI x) = some (nI z)) : ∃ t w, t ≤ 7 ∧ Fo gG gc srt many cams x a z t ∧ gIA gc 17 x = nI t ∧ Co t w ∧ Wt gp gc x w := by
  obtain ⟨t, d, m, w, y1, y2, y3, y4, y5, y6, y7⟩ := h
  exact ⟨t, w, y1, ⟨hx, by omega, h11, h12, y4, m, d, y7.copy (fun i _ h2 => hc i (by omega)), y3⟩, y4, comes_co y1 y2 y5, y6⟩
theorem Wt.thing {gp gc : Gs} {x w i s : Nat} (h : Wt gp gc x w) (h13 : gIA gc 13 x = nI i) (hi : i < 40) (h7 : gIA gp 7 i = nI s) (hs : s ≤ 7) (hw : w ≤ 7) : w = s := by
  rcases h with ⟨k, k1, k2, k3⟩ | ⟨_, b, b1, b2⟩
  · have : i = k := (nI_eq (by omega) (by omega)).mp (h13.symm.trans k2)
    rw [← this] at k3
    exact (nI_eq (by omega) (by omega)).mp (k3.symm.trans h7)
  · have := (nI_eq (by omega) (by omega)).mp (h13.symm.trans b2)
    omega
theorem Wt.bell {gp gc : Gs} {x w b : Nat} (h : Wt gp gc x w) (h13 : gIA gc 13 x = nI (40 + b)) (hb : b < 12) : w = 0 := by
  rcases h with ⟨k, k1, k2, k3⟩ | ⟨h, _⟩
  · have := (nI_eq (by omega) (by omega)).mp (h13.symm.trans k2)
    omega
  · exact h
theorem sub2000 (a : Nat) : nI (2000 + a) - 2000 = nI a := by
  have : nI (2000 + a) = nI 2000 + nI a := (nI_plus 2000 a).symm
  rw [this]
  show nI 2000 + nI a - nI 2000 = nI a
  rw [Int32.add_comm, Int32.add_sub_cancel]
/-- a thing's formulas -/
theorem item_fo {g gG gp gc : Gs} {srt : Nat → Nat} {th be ca f M A k : Nat} {FA tn fn rkk : Nat → Nat} (hI : PI g gp gc th be f FA M tn fn rkk) (hth : th ≤ 40) (hf : f ≤ 92) (hA : A ≤ 840) (hc : ∀ i, i < A → Cp g gG i) (hFA : ∀ F, F < f → f_X0_beginOf gc (nI F) = some (nI (FA F)) ∧ f_X0_endOf gc (nI F) = some (nI (FA (F + 1))) ∧ FA (F + 1) ≤ A) (hsr : ∀ i, i < th → srt i ≤ 7 ∧ gIA gp 7 i = nI (srt i)) (hFS : ∀ x, x < f → FS g gp gc srt (min th (rtk gc 15 x)) ca x (FA x) (FA (x + 1))) (hk : k < th + be) (ht : tn (k + 1) = tn k + 1) :
    ∃ p t, p ≤ 1 ∧ gIA g 39 (tn k) = nI p ∧ gIA gp 8 (tn k) = nI p ∧ gIA gp 9 (tn k) = nI (fn k) ∧ gIA gp 10 (tn k) = nI (fn k + p) ∧ gIA g 40 (tn k) = nI (2000 + FA (fn k)) ∧ gIA g 41 (tn k) = nI (2000 + FA (fn k + 1)) ∧ gIA g 42 (tn k) = nI (2000 + FA (fn k + 1 + p)) ∧ fn (k + 1) = fn k + 1 + p ∧ fn k + p < f ∧ Fo gG gc srt (tn k) ca (fn k) (FA (fn k)) (FA (fn k + 1)) t ∧ Co t (srt (tn k)) ∧ gIA gc 17 (fn k) = nI t ∧ (p = 1 → ∃ t', Fo gG gc srt th ca (fn k + 1) (FA (fn k + 1)) (FA (fn k + 1 + p)) t' ∧ Co t' (srt (tn k)) ∧ gIA gc 17 (fn k + 1) = nI t') := by
  have t0 := hI.2.1 k (by omega)
  have t1 := hI.2.1 (k + 1) (by omega)
  rcases hI.2.2.2.2 k hk with ⟨s1, s2⟩ | ⟨s1, s2⟩
  · obtain ⟨s, p, y1, y2, y3, y4, y5, y6, y7, y8, y9, y10, y11, y12, y13, y14, ⟨y15, y15'⟩, y16, y17⟩ := id s2
    obtain ⟨u1, u2⟩ := hsr (tn k) (by omega)
    obtain ⟨v1, v2, v3⟩ := hFA (fn k) (by omega)
    obtain ⟨t, w, w1, w2, w3, w4, w5⟩ := (hFS (fn k) (by omega)).fo hc v3 hA (by omega) v1 v2
    have e15 : rtk gc 15 (fn k) = tn k := by unfold rtk; rw [y15', nI_clamp (by omega)]
    rw [e15] at w2
    have ew := w5.thing y15 (by omega) u2 u1 w4.2.1
    rw [ew] at w4
    refine ⟨p, t, y5, y6, y7, y9, y10, y11, y12, y13, y8, by omega, w2.more (Nat.min_le_right _ _), w4, w3, fun hp => ?_⟩
    obtain ⟨v1', v2', v3'⟩ := hFA (fn k + 1) (by omega)
    obtain ⟨t', w', w1', w2', w3', w4', w5'⟩ := (hFS (fn k + 1) (by omega)).fo hc v3' hA (by omega) v1' v2'
    have ew' := w5'.thing (y17 hp).1 (by omega) u2 u1 w4'.2.1
    rw [ew'] at w4'
    rw [hp]
    exact ⟨t', w2'.more (Nat.min_le_left _ _), w4', w3'⟩
  · omega
theorem nar_bool {p : Nat} (h : p ≤ 1) : vp_nar .boolean (nI p) = nI p := by
  have : p = 0 ∨ p = 1 := by omega
  rcases this with rfl | rfl <;> rfl
theorem plr_of {g gG gp gc : Gs} {srt : Nat → Nat} {th be ca f M A : Nat} {FA tn fn rkk cm cs : Nat → Nat} (hT : Tabs g gG th be ca A tn cm cs) (hI : PI g gp gc th be f FA M tn fn rkk) (hth : th ≤ 40) (hbe : be ≤ 12) (hca : ca ≤ 8) (hf : f ≤ 92) (hA : A ≤ 840) (hFA : ∀ F, F < f → f_X0_beginOf gc (nI F) = some (nI (FA F)) ∧ f_X0_endOf gc (nI F) = some (nI (FA (F + 1))) ∧ FA (F + 1) ≤ A) (h4 : gI gp 4 = nI th) (h5 : gI gp 5 = nI be) (hsr : ∀ i, i < th → srt i ≤ 7 ∧ gIA gp 7 i = nI (srt i) ∧ gIA g 38 i = nI (srt i)) (hFS : ∀ x, x < f → FS g gp gc srt (min th (rtk gc 15 x)) ca x (FA x) (FA (x + 1))) (hgot : ∀ k', k' < th + be → tn (k' + 1) = tn k' + 1 → gIA g 46 (tn k') = gIA gc 17 (fn k') ∧ (fn (k' + 1) = fn k' + 2 → gIA g 47 (tn k') = gIA gc 17 (fn k' + 1))) (hte : TeR gG gp ca) : PlR gG gp gc srt th be ca ∧ (∀ i, i < th → Fi gG gp gc srt ca i) ∧ (∀ i, i < th → (gIA gG 68 i = 0 ↔ gIA gp 8 i = 0)) := by
  obtain ⟨⟨q60, q61, q62, q63, q64, q77, _, _⟩, hCp, hSn, hTt, hBt, hCt, _⟩ := hT
  have hsr' : ∀ i, i < th → srt i ≤ 7 ∧ gIA gp 7 i = nI (srt i) := fun i hi => ⟨(hsr i hi).1, (hsr i hi).2.1⟩
  have thing : ∀ i, i < th → (gIA gG 67 i = nI (srt i) ∧ gIA gp 7 i = nI (srt i) ∧
    (∃ F j j' t, gIA gp 9 i = nI F ∧ gIA gG 69 i = nI j ∧ gIA gG 70 i = nI j' ∧ gIA gG 72 i = nI t ∧ Fo gG gc srt i ca F j j' t ∧ Co t (srt i)) ∧
    (∃ F j j' t, gIA gp 10 i = nI F ∧ (if gIA gG 68 i = 0 then gIA gG 69 i else gIA gG 70 i) = nI j ∧ (if gIA gG 68 i = 0 then gIA gG 70 i else gIA gG 71 i) = nI j' ∧ (if gIA gG 68 i = 0 then gIA gG 72 i else gIA gG 73 i) = nI t ∧ Fo gG gc srt th ca F j j' t ∧ Co t (srt i)) ∧ (gIA gG 68 i = 0 ↔ gIA gp 8 i = 0)) := by
    intro i hi
    obtain ⟨k, _, k2, k3, k4⟩ := hI.thing hi (th + be) 0 (by omega) (by rw [hI.1.1]; omega)
    obtain ⟨p, t, p1, p2, p3, p4, p5, p6, p7, p8, p9, p10, p11, p12, p13, p14⟩ := item_fo hI hth hf hA hCp hFA hsr' hFS k2 (by rw [k3]; exact k4)
    rw [k3] at p2 p3 p4 p5 p6 p7 p8 p11 p12 p14
    obtain ⟨z0, z1, z2, z3, z4, z5, z6, z7⟩ := hTt i hi
    obtain ⟨s1, s2, s3⟩ := hsr i hi
    obtain ⟨g1, g2⟩ := hgot k k2 (by rw [k3]; exact k4)
    rw [k3] at g1 g2
    rw [p6, sub2000] at z3
    rw [p7, sub2000] at z4
    rw [p8, sub2000] at z5
    rw [g1, p13] at z6
    rw [p2, nar_bool p1] at z2
    refine ⟨z1.trans s3, s2, ⟨_, _, _, t, p4, z3, z4, z6, p11, p12⟩, ?_, by rw [z2, p3]⟩
    by_cases hp : p = 0
    · rw [hp] at z2 p5
      rw [z2, if_pos (show nI 0 = (0 : Int32) from rfl), if_pos (show nI 0 = (0 : Int32) from rfl), if_pos (show nI 0 = (0 : Int32) from rfl)]
      exact ⟨_, _, _, t, p5, z3, z4, z6, p11.more (by omega), p12⟩
    · have hp1 : p = 1 := by omega
      obtain ⟨t', r1, r2, r3⟩ := p14 hp1
      rw [hp1] at z2 p5 r1 z5
      rw [g2 (by omega), r3] at z7
      have z : ¬ nI 1 = (0 : Int32) := by decide
      rw [z2, if_neg z, if_neg z, if_neg z]
      exact ⟨_, _, _, t', p5, z4, z5, z7, r1, r2⟩
  refine ⟨⟨hth, hbe, q60, h4, q61, h5, q77, fun k hk => ?_, fun i hi => ?_, fun b hb => ?_, hte⟩, fun i hi => ?_, fun i hi => (thing i hi).2.2.2.2⟩
  · have t0 := hI.2.1 k (by omega)
    have t1 := hI.2.1 (k + 1) (by omega)
    rcases hI.2.2.2.2 k hk with ⟨s1, s2⟩ | ⟨s1, s2⟩
    · obtain ⟨s, p, y1, y2, _⟩ := id s2
      exact .inl ⟨tn k, by omega, (hSn k hk).1 s1, y2⟩
    · exact .inr ⟨k - tn k, by omega, (hSn k hk).2 s1, s2.1⟩
  · obtain ⟨x1, x2, ⟨F, j, j', t, y1, y2, y3, y4, y5, y6⟩, x4, x5⟩ := thing i hi
    exact ⟨x1, x2, ⟨F, j, j', t, y1, y2, y3, y4, y5.more (by omega), y6⟩, x4⟩
  · obtain ⟨k, _, k2, k3, k4⟩ := hI.bell hb (th + be) 0 (by omega) (by rw [hI.1.1]; omega)
    have t0 := hI.2.1 k (by omega)
    have t1 := hI.2.1 (k + 1) (by omega)
    rcases hI.2.2.2.2 k k2 with ⟨s1, _⟩ | ⟨s1, y1, y2, y3, y4, y5, y6, y7, y8⟩
    · omega
    · rw [k3] at y1 y2 y4 y5 y7
      obtain ⟨_, z1, z2, _⟩ := hBt b hb
      rw [y4, sub2000] at z1
      rw [y5, sub2000] at z2
      obtain ⟨v1, v2, v3⟩ := hFA (fn k) (by omega)
      obtain ⟨t, w, w1, w2, w3, w4, w5⟩ := (hFS (fn k) (by omega)).fo hCp v3 hA (by omega) v1 v2
      have ew := w5.bell y7 (by omega)
      rw [ew] at w4
      have et : t = 0 := by
        rcases w4.2.2 with ⟨h, _⟩ | ⟨h1, h2⟩ <;> omega
      rw [et] at w2
      exact ⟨_, _, _, y2, z1, z2, w2.more (Nat.min_le_left _ _)⟩
  · obtain ⟨x1, x2, x3, _⟩ := thing i hi
    exact ⟨x1, x2, x3⟩
