/-! thing, letter, count -/
theorem i32m1 {x : Int32} (h : x < 0) : ¬ (0 : Int32) ≤ x := Int32.not_le.mpr h
theorem nI_sub {a b : Nat} (h : b ≤ a) : nI a - nI b = nI (a - b) := pk_sub h
theorem row_eq {g : Gs} {many bells cams k : Nat} (hk : k < 2 ^ 31) (h60 : gI g 60 = nI many) (h61 : gI g 61 = nI bells) (h62 : gI g 62 = nI cams) (hm : many ≤ 40) (hb : bells ≤ 12) (hc : cams ≤ 8) : f_X12_rowOfName g (nI k) = some (if k < many then nI k else if 100 ≤ k ∧ k < 100 + bells then nI (k - 60) else if 200 ≤ k ∧ k < 200 + cams then nI (k - 148) else -1) := by
  have hlast : b_X12_rowOfName_36 g (nI k) = some (if 200 ≤ k ∧ k < 200 + cams then nI (k - 148) else -1) := by
    unfold b_X12_rowOfName_36
    rw [h62, show (200 : Int32) = nI 200 from rfl, nI_add]
    by_cases h : k < 200
    · rw [if_pos (nI_lt h (by decide)), if_neg (by omega)]
    · rw [if_neg (nI_nlt (by omega) hk)]
      by_cases h2 : 200 + cams ≤ k
      · rw [if_pos (nI_le h2 hk), if_neg (by omega)]
      · rw [if_neg (nI_ge (by omega) (by omega)), if_pos (by omega), show (148 : Int32) = nI 148 from rfl, nI_sub (by omega)]
  have hmid : b_X12_rowOfName_14 g (nI k) = some (if 100 ≤ k ∧ k < 100 + bells then nI (k - 60) else if 200 ≤ k ∧ k < 200 + cams then nI (k - 148) else -1) := by
    unfold b_X12_rowOfName_14
    rw [h61, show (100 : Int32) = nI 100 from rfl, nI_add, hlast]
    by_cases h : k < 100
    · rw [if_pos (nI_lt h (by decide)), if_neg (show ¬ (100 ≤ k ∧ k < 100 + bells) by omega)]
    · rw [if_neg (nI_nlt (by omega) hk)]
      by_cases h2 : 100 + bells ≤ k
      · rw [if_pos (nI_le h2 hk), if_neg (show ¬ (100 ≤ k ∧ k < 100 + bells) by omega)]
      · rw [if_neg (nI_ge (by omega) (by omega)), if_pos (show 100 ≤ k ∧ k < 100 + bells by omega), show (60 : Int32) = nI 60 from rfl, nI_sub (by omega)]
  unfold f_X12_rowOfName
  rw [if_neg (nI_pos hk), h60, hmid]
  by_cases h : k < many
  · rw [if_neg (nI_ge h (by omega)), if_pos h]
  · rw [if_pos (nI_le (by omega) hk), if_neg h]
theorem row_neg {g : Gs} {x : Int32} (hx : x < 0) : f_X12_rowOfName g x = some (-1) := by
  have l100 : x < 100 := Int32.lt_trans hx (by decide)
  have l200 : x < 200 := Int32.lt_trans hx (by decide)
  unfold f_X12_rowOfName b_X12_rowOfName_14 b_X12_rowOfName_36
  rw [if_pos hx, if_pos l100, if_pos l200]
theorem bellOf_eq {h8 : Nat} {gT gp : Gs} {bells k : Nat} (hR : rEq (gR gT 8) h8 = true) (hk : k < 2 ^ 31) (h5 : gI gp 5 = nI bells) (hb : bells ≤ 12) : f_X11_bellOf h8 gT gp (nI k) = some (if 100 ≤ k ∧ k < 100 + bells then nI (k - 100) else -1) := by
  unfold f_X11_bellOf
  rw [h5, show (100 : Int32) = nI 100 from rfl, nI_add, grd_t hR]
  by_cases h : k < 100
  · rw [if_pos (nI_lt h (by decide)), if_neg (by omega)]
  · rw [if_neg (nI_nlt (by omega) hk)]
    by_cases h2 : 100 + bells ≤ k
    · rw [if_pos (nI_le h2 hk), if_neg (by omega)]
    · rw [if_neg (nI_ge (by omega) (by omega)), if_pos (by omega), nI_sub (by omega)]
theorem bellOf_neg {h8 : Nat} {gT gp : Gs} {x : Int32} (hx : x < 0) : f_X11_bellOf h8 gT gp x = some (-1) := by
  unfold f_X11_bellOf
  rw [if_pos (Int32.lt_trans hx (by decide))]
theorem thing_eq {h8 : Nat} {g gT gs gp gc : Gs} {srt : Nat → Nat} {many bells cams S t : Nat} (hst : StR g gs srt many bells S t) (hpl : PlR g gp gc srt many bells cams) (hnm : NmR g gp many bells cams) (hR : rEq (gR gT 8) h8 = true) (x0 x1 : Int32) : ∃ r, f_X12_thing_ g x0 x1 = some r ∧ f_X11_thing h8 gT gs gp x0 x1 = some r := by
  obtain ⟨m40, b12, h60, h4, h61, h5, h77, hord, hth, hbe, hte⟩ := id hpl
  obtain ⟨n1, n2, n3, n4, n5⟩ := hnm
  obtain ⟨⟨d1, d2, d3, d4⟩, q2, q3, ⟨q4, q4'⟩, q5, q6, q7⟩ := hst
  unfold f_X12_thing_ f_X11_thing
  by_cases z0 : x0 < 0
  · rw [bnd_s (row_neg z0), if_pos (by decide), if_pos z0]
    unfold b_X11_thing_79
    rw [bnd_s (bellOf_neg z0), if_pos rfl]
    exact ⟨_, rfl, rfl⟩
  obtain ⟨k, k31, rfl⟩ := nI_of z0
  rw [bnd_s (row_eq k31 h60 h61 n4 m40 b12 n3), if_neg z0, grd_t hR, h4]
  have told : ∀ r, r < 52 → (r < many ∨ (40 ≤ r ∧ r < 40 + bells)) → ∀ x1 : Int32, f_X11_toldOfRow h8 gT gs gp (nI r) x1 = if x1 = (2 : Int32) then some (gIA g 66 r) else (if x1 = (3 : Int32) then some (gIA g 83 r) else if x1 = (4 : Int32) then some (gIA g 84 r) else if x1 = (5 : Int32) then some (gIA g 85 r) else some (-1)) := by
    intro r hr hr2 x1
    have r52 : inB (nI r) 52 = true := inB_nI hr (by decide)
    have r60 : inB (nI r) 60 = true := inB_nI (by omega) (by decide)
    have cr : (nI r).toNatClampNeg = r := nI_clamp (by omega)
    obtain ⟨m, _, a2, a3, _⟩ := n1 r (by omega)
    obtain ⟨e1, e2, e3⟩ := q2 r hr
    unfold f_X11_toldOfRow
    simp only [grd_t r52, grd_t r60, grd_t hR, cr, a2, a3, e1, e2, e3]
  by_cases c1 : k < many
  · have k40 : inB (nI k) 40 = true := inB_nI (by omega) (by decide)
    have k52 : inB (nI k) 52 = true := inB_nI (by omega) (by decide)
    have k60 : inB (nI k) 60 = true := inB_nI (by omega) (by decide)
    have ck : (nI k).toNatClampNeg = k := nI_clamp (by omega)
    obtain ⟨s1, s2, _⟩ := hth k c1
    rw [if_pos c1, if_neg (nI_pos k31), if_pos (show nI k < (52 : Int32) from nI_lt (b := 52) (by omega) (by decide)), if_pos (show nI k < (40 : Int32) from nI_lt (b := 40) (by omega) (by decide)), if_neg (nI_ge c1 (by omega))]
    unfold b_X12_thing__29
    simp only [grd_t k40, grd_t k52, grd_t k60, ck, grd_t hR, s1, s2, told k (by omega) (.inl c1)]
    by_cases w0 : x1 = 0
    · simp only [if_pos w0]; exact ⟨_, rfl, rfl⟩
    simp only [if_neg w0]
    by_cases w1 : x1 = 1
    · simp only [if_pos w1]
      by_cases z68 : gIA g 68 k = 0
      · rw [if_pos trivial, if_pos z68, if_pos ((n2 k c1).mp z68)]; exact ⟨_, rfl, rfl⟩
      · rw [if_pos trivial, if_neg z68, if_neg (fun z => z68 ((n2 k c1).mpr z))]; exact ⟨_, rfl, rfl⟩
    simp only [if_neg w1]
    by_cases w2 : x1 = 2
    · simp only [if_pos w2]; exact ⟨_, rfl, rfl⟩
    simp only [if_neg w2]
    by_cases w3 : x1 = 3
    · simp only [if_pos w3]; exact ⟨_, rfl, rfl⟩
    simp only [if_neg w3]
    by_cases w4 : x1 = 4
    · simp only [if_pos w4]; exact ⟨_, rfl, rfl⟩
    simp only [if_neg w4]
    by_cases w5 : x1 = 5
    · simp only [if_pos w5]; exact ⟨_, rfl, rfl⟩
    simp only [if_neg w5]
    by_cases w6 : x1 = 6
    · simp only [if_pos w6]; exact ⟨_, rfl, rfl⟩
    simp only [if_neg w6]; exact ⟨_, rfl, rfl⟩
  rw [if_neg c1, if_pos (nI_le (by omega) k31)]
  unfold b_X11_thing_79
  rw [bnd_s (bellOf_eq hR k31 h5 b12)]
  by_cases c2 : 100 ≤ k ∧ k < 100 + bells
  · rw [if_pos c2, if_pos c2]
    obtain ⟨b, rfl⟩ : ∃ b, k = 100 + b := ⟨k - 100, by omega⟩
    have e1 : 100 + b - 60 = 40 + b := by omega
    have e2 : 100 + b - 100 = b := by omega
    rw [e1, e2]
    have r52 : inB (nI (40 + b)) 52 = true := inB_nI (by omega) (by decide)
    have r60 : inB (nI (40 + b)) 60 = true := inB_nI (by omega) (by decide)
    have b12' : inB (nI b) 12 = true := inB_nI (by omega) (by decide)
    have cr : (nI (40 + b)).toNatClampNeg = 40 + b := nI_clamp (by omega)
    have cb : (nI b).toNatClampNeg = b := nI_clamp (by omega)
    have s40 : nI (40 + b) - (40 : Int32) = nI b := by
      rw [show (40 : Int32) = nI 40 from rfl, nI_sub (by omega), show 40 + b - 40 = b by omega]
    rw [if_neg (nI_pos (by omega)), if_pos (show nI (40 + b) < (52 : Int32) from nI_lt (b := 52) (by omega) (by decide)), if_neg (show ¬ nI (40 + b) < (40 : Int32) from nI_nlt (b := 40) (by omega) (by omega)), if_neg (show ¬ nI b = -1 from fun z => nI_pos (n := b) (by omega) (by rw [z]; decide))]
    unfold b_X12_thing__29
    have a40 : (40 : Int32) + nI b = nI (40 + b) := nI_add 40 b
    simp only [grd_t r52, grd_t r60, grd_t b12', cr, cb, s40, a40, told (40 + b) (by omega) (.inr (by omega)), q3 b (by omega)]
    by_cases w6 : x1 = 6
    · subst w6; exact ⟨_, rfl, rfl⟩
    simp only [if_neg w6]
    by_cases w0 : x1 = 0
    · subst w0; exact ⟨_, rfl, rfl⟩
    simp only [if_neg w0]
    by_cases w1 : x1 = 1
    · subst w1; exact ⟨_, rfl, rfl⟩
    simp only [if_neg w1]
    by_cases w2 : x1 = 2
    · simp only [if_pos w2]; exact ⟨_, rfl, rfl⟩
    simp only [if_neg w2]
    by_cases w3 : x1 = 3
    · simp only [if_pos w3]; exact ⟨_, rfl, rfl⟩
    simp only [if_neg w3]
    by_cases w4 : x1 = 4
    · simp only [if_pos w4]; exact ⟨_, rfl, rfl⟩
    simp only [if_neg w4]
    by_cases w5 : x1 = 5
    · simp only [if_pos w5]; exact ⟨_, rfl, rfl⟩
    simp only [if_neg w5]; exact ⟨_, rfl, rfl⟩
  rw [if_neg c2, if_neg c2, if_pos (show (-1 : Int32) = -1 from rfl)]
  by_cases c3 : 200 ≤ k ∧ k < 200 + cams
  · rw [if_pos c3, if_neg (nI_pos (by omega)), if_neg (show ¬ nI (k - 148) < (52 : Int32) from nI_nlt (b := 52) (by omega) (by omega))]
    exact ⟨_, rfl, rfl⟩
  · rw [if_neg c3, if_pos (show (-1 : Int32) < 0 by decide)]
    exact ⟨_, rfl, rfl⟩
theorem letter_eq {h8 : Nat} {g gT gp gc : Gs} {srt : Nat → Nat} {many bells cams : Nat} (hpl : PlR g gp gc srt many bells cams) (hnm : NmR g gp many bells cams) (hR : rEq (gR gT 8) h8 = true) (x0 x1 : Int32) : ∃ r, f_X12_letter g x0 x1 = some r ∧ f_X11_letter h8 gT gp x0 x1 = some r := by
  obtain ⟨m40, b12, h60, h4, h61, h5, h77, hord, hth, hbe, hte⟩ := id hpl
  obtain ⟨n1, n2, n3, n4, n5⟩ := hnm
  unfold f_X12_letter f_X11_letter
  have l74 : ∀ r, (r < many ∨ (40 ≤ r ∧ r < 40 + bells) ∨ (52 ≤ r ∧ r < 52 + cams)) → ∃ y, (if nI r < 0 then (some (-1 : Int32)) else (if x1 < 0 then (some (-1 : Int32)) else (grd (inB (nI r) 60) (if x1 < (gIA g 66 (nI r).toNatClampNeg) then (grd (inB (((10 : Int32) * nI r) + x1) 600) (some (gIA g 65 (((10 : Int32) * nI r) + x1).toNatClampNeg))) else (some (-1 : Int32)))))) = some y ∧ b_X11_letter_74 h8 gT gp x1 (nI r) = some y := by
    intro r hr
    have r60 : inB (nI r) 60 = true := inB_nI (by omega) (by decide)
    have cr : (nI r).toNatClampNeg = r := nI_clamp (by omega)
    obtain ⟨m, m10, a2, a3, a4⟩ := n1 r hr
    unfold b_X11_letter_74
    rw [if_neg (nI_pos (by omega)), if_neg (show ¬ nI r = -1 from fun z => nI_pos (n := r) (by omega) (by rw [z]; decide))]
    by_cases z1 : x1 < 0
    · rw [if_pos z1, if_pos z1]; exact ⟨_, rfl, rfl⟩
    obtain ⟨k, k31, rfl⟩ := nI_of z1
    rw [if_neg z1, if_neg z1]
    simp only [grd_t r60, grd_t hR, cr, a2, a3]
    by_cases hk : k < m
    · have e1 : (10 : Int32) * nI r + nI k = nI (10 * r + k) := by rw [show (10 : Int32) = nI 10 from rfl, pk_mul, nI_add]
      have e2 : nI r * (10 : Int32) + nI k = nI (10 * r + k) := by rw [show (10 : Int32) = nI 10 from rfl, pk_mul, nI_add, Nat.mul_comm]
      rw [if_pos (nI_lt hk (by omega)), if_pos (nI_lt hk (by omega)), e1, e2, grd_t (inB_nI (by omega) (by decide)), grd_t (inB_nI (by omega) (by decide)), nI_clamp (by omega), a4 k hk]
      exact ⟨_, rfl, rfl⟩
    · rw [if_neg (nI_nlt (by omega) k31), if_neg (nI_nlt (by omega) k31)]; exact ⟨_, rfl, rfl⟩
  by_cases z0 : x0 < 0
  · rw [bnd_s (row_neg z0), if_pos (by decide), if_pos z0]
    unfold b_X11_letter_22
    rw [bnd_s (bellOf_neg z0), if_pos rfl, if_pos (Int32.lt_trans z0 (by decide))]
    unfold b_X11_letter_74
    exact ⟨_, rfl, if_pos rfl⟩
  obtain ⟨k, k31, rfl⟩ := nI_of z0
  rw [bnd_s (row_eq k31 h60 h61 n4 m40 b12 n3), if_neg z0, grd_t hR, h4]
  by_cases c1 : k < many
  · rw [if_pos c1, if_neg (nI_ge c1 (by omega))]
    exact l74 k (.inl c1)
  rw [if_neg c1, if_pos (nI_le (by omega) k31)]
  unfold b_X11_letter_22
  rw [bnd_s (bellOf_eq hR k31 h5 b12)]
  by_cases c2 : 100 ≤ k ∧ k < 100 + bells
  · rw [if_pos c2, if_pos c2]
    obtain ⟨b, rfl⟩ : ∃ b, k = 100 + b := ⟨k - 100, by omega⟩
    have e1 : 100 + b - 60 = 40 + b := by omega
    have e2 : 100 + b - 100 = b := by omega
    rw [e1, e2, if_neg (show ¬ nI b = -1 from fun z => nI_pos (n := b) (by omega) (by rw [z]; decide)), bnd_s (bellOf_eq hR k31 h5 b12), if_pos c2, e2, show (40 : Int32) + nI b = nI (40 + b) from nI_add 40 b]
    exact l74 (40 + b) (by omega)
  rw [if_neg c2, if_neg c2, if_pos (show (-1 : Int32) = -1 from rfl), n5, show (200 : Int32) = nI 200 from rfl, nI_add, grd_t hR]
  by_cases c3 : 200 ≤ k ∧ k < 200 + cams
  · rw [if_pos c3, if_neg (nI_nlt (by omega) k31), if_neg (nI_ge (by omega) (by omega)), nI_sub (by omega), show (52 : Int32) + nI (k - 200) = nI (52 + (k - 200)) from nI_add 52 _, show k - 148 = 52 + (k - 200) by omega]
    exact l74 (52 + (k - 200)) (by omega)
  · rw [if_neg c3, if_pos (show (-1 : Int32) < 0 by decide)]
    have l : b_X11_letter_74 h8 gT gp x1 (-1) = some (-1) := by
      unfold b_X11_letter_74
      exact if_pos rfl
    by_cases h2 : k < 200
    · rw [if_pos (nI_lt h2 (by decide)), l]; exact ⟨_, rfl, rfl⟩
    · rw [if_neg (nI_nlt (by omega) k31), if_pos (nI_le (by omega) k31), l]; exact ⟨_, rfl, rfl⟩
