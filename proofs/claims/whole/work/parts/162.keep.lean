/-! keep and back -/
/-- the reference as it would be with what it keeps at place p -/
def kq (g : Gs) (p : Nat) : Gs := sL (sIA (sLA (sI (sL (sIA (sIA (sIA (sIA (sLA (sLA (sLA g 80 (fun i => gLA g 104 (40 * p + i))) 81 (fun i => gLA g 105 (40 * p + i))) 82 (fun j => gLA g 106 (1280 * p + j))) 83 (fun r => gIA g 107 (156 * p + 3 * r))) 84 (fun r => gIA g 107 (156 * p + 3 * r + 1))) 85 (fun r => gIA g 107 (156 * p + 3 * r + 2))) 86 (fun b => gIA g 108 (12 * p + b))) 87 (gLA g 109 p)) 88 (gIA g 110 p)) 89 (fun k => gLA g 111 (64 * p + k))) 90 (fun k => gIA g 112 (64 * p + k))) 91 (gLA g 113 p)
def Ag (g g' : Gs) : Prop := (∀ i, i < 40 → gLA g' 80 i = gLA g 80 i ∧ gLA g' 81 i = gLA g 81 i) ∧ (∀ j, j < 1280 → gLA g' 82 j = gLA g 82 j) ∧ (∀ r, r < 52 → gIA g' 83 r = gIA g 83 r ∧ gIA g' 84 r = gIA g 84 r ∧ gIA g' 85 r = gIA g 85 r) ∧ (∀ b, b < 12 → gIA g' 86 b = gIA g 86 b) ∧ gL g' 87 = gL g 87 ∧ gI g' 88 = gI g 88 ∧ (∀ k, k < 64 → gLA g' 89 k = gLA g 89 k ∧ gIA g' 90 k = gIA g 90 k) ∧ gL g' 91 = gL g 91
theorem StR.ag {g g' gs : Gs} {srt : Nat → Nat} {many bells S t : Nat} (h : StR g gs srt many bells S t) (a : Ag g g') (hb : bells ≤ 12) : StR g' gs srt many bells S t := by
  obtain ⟨⟨d1, d2, d3, d4⟩, h2, h3, h4, h5, h6, h7⟩ := h
  obtain ⟨a1, a2, a3, a4, a5, a6, a7, a8⟩ := a
  refine ⟨⟨d1, by rw [a5]; exact d2, by rw [a8]; exact d3, fun i hi => ?_⟩, fun r hr => ?_, fun b hb' => ?_, by rw [a6]; exact h4, fun k hk => ?_, h6, fun a b1 b2 b3 i hi => ?_⟩
  · rw [(a1 i (by omega)).1, (a1 i (by omega)).2]; exact d4 i hi
  · rw [(a3 r hr).1, (a3 r hr).2.1, (a3 r hr).2.2]; exact h2 r hr
  · rw [a4 b (by omega)]; exact h3 b hb'
  · rw [(a7 k hk).1, (a7 k hk).2]; exact h5 k hk
  · rw [a2 _ (by have := Nat.mod_lt (t - a + 1) (show 0 < 32 by decide); omega)]; exact h7 a b1 b2 b3 i hi
def Agc (g g' : Gs) : Prop := (∀ i, i < 40 → gLA g' 0 i = gLA g 0 i ∧ gDA g' 1 i = gDA g 1 i ∧ gLA g' 2 i = gLA g 2 i ∧ gDA g' 3 i = gDA g 3 i) ∧ (∀ j, j < 1280 → gLA g' 4 j = gLA g 4 j ∧ gDA g' 5 j = gDA g 5 j) ∧ (∀ r, r < 52 → gIA g' 6 r = gIA g 6 r ∧ gIA g' 7 r = gIA g 7 r ∧ gIA g' 8 r = gIA g 8 r) ∧ (∀ b, b < 12 → gIA g' 9 b = gIA g 9 b) ∧ (∀ k, k < 64 → gLA g' 10 k = gLA g 10 k ∧ gIA g' 11 k = gIA g 11 k) ∧ (gI g' 12 = gI g 12 ∧ gI g' 13 = gI g 13) ∧ gL g' 14 = gL g 14 ∧ gD g' 15 = gD g 15 ∧ gI g' 16 = gI g 16
theorem StR.agc {g gs gs' : Gs} {srt : Nat → Nat} {many bells S t : Nat} (h : StR g gs srt many bells S t) (a : Agc gs gs') (hb : bells ≤ 12) : StR g gs' srt many bells S t := by
  obtain ⟨⟨d1, d2, d3, d4⟩, h2, h3, h4, h5, h6, h7⟩ := h
  obtain ⟨a1, a2, a3, a4, a5, a6, a7, a8, a9⟩ := a
  refine ⟨⟨d1, by rw [a7]; exact d2, by rw [a8]; exact d3, fun i hi => ?_⟩, fun r hr => ?_, fun b hb' => ?_, by rw [a6.1, a6.2]; exact h4, fun k hk => ?_, by rw [a7]; exact h6, fun a b1 b2 b3 i hi => ?_⟩
  · obtain ⟨e1, e2, e3, e4⟩ := a1 i (by omega)
    rw [e1, e2, e3, e4]; exact d4 i hi
  · rw [(a3 r hr).1, (a3 r hr).2.1, (a3 r hr).2.2]; exact h2 r hr
  · rw [a4 b (by omega)]; exact h3 b hb'
  · rw [(a5 k hk).1, (a5 k hk).2]; exact h5 k hk
  · have m2 : (t - a) % 32 < 32 := Nat.mod_lt _ (by decide)
    obtain ⟨e1, e2⟩ := a2 ((t - a) % 32 * 40 + i) (by omega)
    rw [e1, e2]; exact h7 a b1 b2 b3 i hi
theorem take_eq (g gP : Gs) : ∃ g', f_X9_takeOver g gP = some g' ∧ Agc gP g' := by
  unfold f_X9_takeOver
  simp only [grd_t (show cpB (0 : Int32) (0 : Int32) (40 : Int32) 40 40 = true by decide), grd_t (show cpB (0 : Int32) (0 : Int32) (1280 : Int32) 1280 1280 = true by decide), grd_t (show cpB (0 : Int32) (0 : Int32) (52 : Int32) 52 52 = true by decide), grd_t (show cpB (0 : Int32) (0 : Int32) (12 : Int32) 12 12 = true by decide), grd_t (show cpB (0 : Int32) (0 : Int32) (64 : Int32) 64 64 = true by decide), show (0 : Int32).toNatClampNeg = 0 by decide, show (40 : Int32).toNatClampNeg = 40 by decide, show (1280 : Int32).toNatClampNeg = 1280 by decide, show (52 : Int32).toNatClampNeg = 52 by decide, show (12 : Int32).toNatClampNeg = 12 by decide, show (64 : Int32).toNatClampNeg = 64 by decide]
  have cp : ∀ {α : Type} (f g : Nat → α) (N j : Nat), j < N → va_cpy f g 0 0 N j = f j := by
    intro α f g N j hj
    rw [pk_cpy_in (by omega) (by omega)]
    simp
  refine ⟨_, rfl, fun i hi => ⟨cp _ _ _ _ hi, cp _ _ _ _ hi, cp _ _ _ _ hi, cp _ _ _ _ hi⟩, fun i hi => ⟨cp _ _ _ _ hi, cp _ _ _ _ hi⟩, fun i hi => ⟨cp _ _ _ _ hi, cp _ _ _ _ hi, cp _ _ _ _ hi⟩, fun i hi => cp _ _ _ _ hi, fun i hi => ⟨cp _ _ _ _ hi, cp _ _ _ _ hi⟩, ⟨rfl, rfl⟩, rfl, rfl, rfl⟩
abbrev keepA : List Nat := [103, 104, 105, 106, 107, 108, 109, 110, 111, 112, 113]
theorem keep_ref {n p : Nat} {g : Gs} (hn : 3000 ≤ n) (hp : p < 4) : ∃ g', f_X12_keep n g (nI p) = some (1, g') ∧ Fr keepA g g' ∧ Ag g (kq g' p) ∧ (∀ q, q < 4 → q ≠ p → Ag (kq g q) (kq g' q) ∧ gIA g' 103 q = gIA g 103 q) ∧ gIA g' 103 p = gI g 64 + 1 := by
  have p4 : inB (nI p) 4 = true := inB_nI hp (by decide)
  have cp : (nI p).toNatClampNeg = p := nI_clamp (by omega)
  obtain ⟨ga, hga⟩ : ∃ ga, ga = sLA (sIA (sLA (sIA g 103 (upd (gIA g 103) p ((gI g 64) + (1 : Int32)))) 109 (vp_updL (gLA g 109) p (gL g 87))) 110 (upd (gIA g 110) p (gI g 88))) 113 (vp_updL (gLA g 113) p (gL g 91)) := ⟨_, rfl⟩
  have fa : Fr [103, 109, 110, 113] g ga := by
    rw [hga]
    exact (((Fr.sIA (by decide) _ _).trans (Fr.sLA (by decide) _ _)).trans (Fr.sIA (by decide) _ _)).trans (Fr.sLA (by decide) _ _)
  obtain ⟨g0, k0, x1, x2, x3, x4, x5⟩ := go0_t (n := n) hp 40 n 0 ga (by omega) (by omega)
  obtain ⟨g1, k1, y1, y2, y3, y4⟩ := go1_t (n := n) hp 1280 k0 0 g0 (by omega) (by omega)
  obtain ⟨g2, k2, z1, z2, z3, z4, z5⟩ := go2_t (n := n) hp 52 k1 0 g1 (by omega) (by omega)
  obtain ⟨g3, k3, w1, w2, w3, w4⟩ := go3_t (n := n) hp 12 k2 0 g2 (by omega) (by omega)
  obtain ⟨g4, k4, v1, v2, v3, v4, v5⟩ := go4_t (n := n) hp 64 k3 0 g3 (by omega) (by omega)
  have all : f_X12_goes n ga (nI p) 1 = some (1, g4) := by
    unfold f_X12_goes
    exact x2.trans (y2.trans (z2.trans (w2.trans v2)))
  have f01 : Fr keepA g g0 := (fa.mono (by decide)).trans (x3.mono (by decide))
  have f02 : Fr keepA g g1 := f01.trans (y3.mono (by decide))
  have f03 : Fr keepA g g2 := f02.trans (z3.mono (by decide))
  have f04 : Fr keepA g g3 := f03.trans (w3.mono (by decide))
  have f05 : Fr keepA g g4 := f04.trans (v3.mono (by decide))
  -- the written slots
  have e104 : gLA g4 104 = gLA g0 104 := by rw [(v3 104 (by decide)).2.2.2.2.1, (w3 104 (by decide)).2.2.2.2.1, (z3 104 (by decide)).2.2.2.2.1, (y3 104 (by decide)).2.2.2.2.1]
  have e105 : gLA g4 105 = gLA g0 105 := by rw [(v3 105 (by decide)).2.2.2.2.1, (w3 105 (by decide)).2.2.2.2.1, (z3 105 (by decide)).2.2.2.2.1, (y3 105 (by decide)).2.2.2.2.1]
  have e106 : gLA g4 106 = gLA g1 106 := by rw [(v3 106 (by decide)).2.2.2.2.1, (w3 106 (by decide)).2.2.2.2.1, (z3 106 (by decide)).2.2.2.2.1]
  have e107 : gIA g4 107 = gIA g2 107 := by rw [(v3 107 (by decide)).2.2.2.1, (w3 107 (by decide)).2.2.2.1]
  have e108 : gIA g4 108 = gIA g3 108 := by rw [(v3 108 (by decide)).2.2.2.1]
  have eI : ∀ k, k ∉ [104, 105, 106, 107, 108, 111, 112] → gIA g4 k = gIA ga k ∧ gLA g4 k = gLA ga k := by
    intro k hk
    have h1 := ((((x3.mono (B := [104, 105, 106, 107, 108, 111, 112]) (by decide)).trans (y3.mono (by decide))).trans (z3.mono (by decide))).trans (w3.mono (by decide))).trans (v3.mono (by decide)) k hk
    exact ⟨h1.2.2.2.1, h1.2.2.2.2.1⟩
  -- sources are as they were
  have s80 : gLA ga 80 = gLA g 80 := (fa 80 (by decide)).2.2.2.2.1
  have s81 : gLA ga 81 = gLA g 81 := (fa 81 (by decide)).2.2.2.2.1
  have s82 : gLA g0 82 = gLA g 82 := (f01 82 (by decide)).2.2.2.2.1
  have s83 : gIA g1 83 = gIA g 83 := (f02 83 (by decide)).2.2.2.1
  have s84 : gIA g1 84 = gIA g 84 := (f02 84 (by decide)).2.2.2.1
  have s85 : gIA g1 85 = gIA g 85 := (f02 85 (by decide)).2.2.2.1
  have s86 : gIA g2 86 = gIA g 86 := (f03 86 (by decide)).2.2.2.1
  have s89 : gLA g3 89 = gLA g 89 := (f04 89 (by decide)).2.2.2.2.1
  have s90 : gIA g3 90 = gIA g 90 := (f04 90 (by decide)).2.2.2.1
  have o104 : gLA ga 104 = gLA g 104 := (fa 104 (by decide)).2.2.2.2.1
  have o105 : gLA ga 105 = gLA g 105 := (fa 105 (by decide)).2.2.2.2.1
  have o106 : gLA g0 106 = gLA g 106 := by rw [(x3 106 (by decide)).2.2.2.2.1, (fa 106 (by decide)).2.2.2.2.1]
  have o107 : gIA g1 107 = gIA g 107 := by rw [(y3 107 (by decide)).2.2.2.1, (x3 107 (by decide)).2.2.2.1, (fa 107 (by decide)).2.2.2.1]
  have o108 : gIA g2 108 = gIA g 108 := by rw [(z3 108 (by decide)).2.2.2.1, (y3 108 (by decide)).2.2.2.1, (x3 108 (by decide)).2.2.2.1, (fa 108 (by decide)).2.2.2.1]
  have o111 : gLA g3 111 = gLA g 111 := by rw [(w3 111 (by decide)).2.2.2.2.1, (z3 111 (by decide)).2.2.2.2.1, (y3 111 (by decide)).2.2.2.2.1, (x3 111 (by decide)).2.2.2.2.1, (fa 111 (by decide)).2.2.2.2.1]
  have o112 : gIA g3 112 = gIA g 112 := by rw [(w3 112 (by decide)).2.2.2.1, (z3 112 (by decide)).2.2.2.1, (y3 112 (by decide)).2.2.2.1, (x3 112 (by decide)).2.2.2.1, (fa 112 (by decide)).2.2.2.1]
  have e109 : gLA g4 109 = vp_updL (gLA g 109) p (gL g 87) := by rw [(eI 109 (by decide)).2, hga]; rfl
  have e110 : gIA g4 110 = upd (gIA g 110) p (gI g 88) := by rw [(eI 110 (by decide)).1, hga]; rfl
  have e113 : gLA g4 113 = vp_updL (gLA g 113) p (gL g 91) := by rw [(eI 113 (by decide)).2, hga]; rfl
  have e103 : gIA g4 103 = upd (gIA g 103) p (gI g 64 + 1) := by rw [(eI 103 (by decide)).1, hga]; rfl
  refine ⟨g4, ?_, f05, ⟨fun i hi => ?_, fun j hj => ?_, fun r hr => ?_, fun b hb => ?_, ?_, ?_, fun k hk => ?_, ?_⟩, fun q hq hqp => ⟨⟨fun i hi => ?_, fun j hj => ?_, fun r hr => ?_, fun b hb => ?_, ?_, ?_, fun k hk => ?_, ?_⟩, ?_⟩, ?_⟩
  · unfold f_X12_keep
    rw [if_neg (nI_pos (by omega)), if_pos (show nI p ≤ (3 : Int32) from nI_le (b := 3) (by omega) (by decide))]
    simp only [grd_t p4, cp]
    rw [← hga, bnd_s all]
    rfl
  · show gLA g4 104 (40 * p + i) = _ ∧ gLA g4 105 (40 * p + i) = _
    rw [e104, e105, x4, x5, if_pos (by omega), if_pos (by omega), s80, s81, show 40 * p + i - 40 * p = i by omega]
    exact ⟨rfl, rfl⟩
  · show gLA g4 106 (1280 * p + j) = _
    rw [e106, y4, if_pos (by omega), s82, show 1280 * p + j - 1280 * p = j by omega]
  · show gIA g4 107 (156 * p + 3 * r) = _ ∧ gIA g4 107 (156 * p + 3 * r + 1) = _ ∧ gIA g4 107 (156 * p + 3 * r + 2) = _
    rw [e107, ← s83, ← s84, ← s85]
    exact z4 r (by omega) hr
  · show gIA g4 108 (12 * p + b) = _
    rw [e108, w4, if_pos (by omega), s86, show 12 * p + b - 12 * p = b by omega]
  · show gLA g4 109 p = _
    rw [e109, pk_uLs]
  · show gIA g4 110 p = _
    rw [e110, pk_us]
  · show gLA g4 111 (64 * p + k) = _ ∧ gIA g4 112 (64 * p + k) = _
    rw [v4, v5, if_pos (by omega), if_pos (by omega), s89, s90, show 64 * p + k - 64 * p = k by omega]
    exact ⟨rfl, rfl⟩
  · show gLA g4 113 p = _
    rw [e113, pk_uLs]
  · show gLA g4 104 (40 * q + i) = gLA g 104 (40 * q + i) ∧ gLA g4 105 (40 * q + i) = gLA g 105 (40 * q + i)
    rw [e104, e105, x4, x5, if_neg (by omega), if_neg (by omega), o104, o105]
    exact ⟨rfl, rfl⟩
  · show gLA g4 106 (1280 * q + j) = gLA g 106 (1280 * q + j)
    rw [e106, y4, if_neg (by omega), o106]
  · show gIA g4 107 (156 * q + 3 * r) = gIA g 107 (156 * q + 3 * r) ∧ gIA g4 107 (156 * q + 3 * r + 1) = gIA g 107 (156 * q + 3 * r + 1) ∧ gIA g4 107 (156 * q + 3 * r + 2) = gIA g 107 (156 * q + 3 * r + 2)
    rw [e107, ← o107]
    exact ⟨z5 _ (by omega), z5 _ (by omega), z5 _ (by omega)⟩
  · show gIA g4 108 (12 * q + b) = gIA g 108 (12 * q + b)
    rw [e108, w4, if_neg (by omega), o108]
  · show gLA g4 109 q = gLA g 109 q
    rw [e109, pk_uLn hqp]
  · show gIA g4 110 q = gIA g 110 q
    rw [e110, pk_un hqp]
  · show gLA g4 111 (64 * q + k) = gLA g 111 (64 * q + k) ∧ gIA g4 112 (64 * q + k) = gIA g 112 (64 * q + k)
    rw [v4, v5, if_neg (by omega), if_neg (by omega), o111, o112]
    exact ⟨rfl, rfl⟩
  · show gLA g4 113 q = gLA g 113 q
    rw [e113, pk_uLn hqp]
  · rw [e103, pk_un hqp]
  · rw [e103, pk_us]
theorem back_ref {n p : Nat} {g : Gs} (hn : 3000 ≤ n) (hp : p < 4) (hk : gIA g 103 p = gI g 64 + 1) : ∃ g', f_X12_back n g (nI p) = some (1, g') ∧ Fr [80, 81, 82, 83, 84, 85, 86, 87, 88, 89, 90, 91] g g' ∧ Ag (kq g p) g' := by
  have p4 : inB (nI p) 4 = true := inB_nI hp (by decide)
  have cp : (nI p).toNatClampNeg = p := nI_clamp (by omega)
  obtain ⟨ga, hga⟩ : ∃ ga, ga = sL (sI (sL g 87 (gLA g 109 p)) 88 (gIA g 110 p)) 91 (gLA g 113 p) := ⟨_, rfl⟩
  have fa : Fr [87, 88, 91] g ga := by
    rw [hga]
    exact ((Fr.sL (by decide) _ _).trans (Fr.sI (by decide) _ _)).trans (Fr.sL (by decide) _ _)
  obtain ⟨g0, k0, x1, x2, x3, x4, x5⟩ := go0_b (n := n) hp 40 n 0 ga (by omega) (by omega)
  obtain ⟨g1, k1, y1, y2, y3, y4⟩ := go1_b (n := n) hp 1280 k0 0 g0 (by omega) (by omega)
  obtain ⟨g2, k2, z1, z2, z3, z4, z5, z6⟩ := go2_b (n := n) hp 52 k1 0 g1 (by omega) (by omega)
  obtain ⟨g3, k3, w1, w2, w3, w4⟩ := go3_b (n := n) hp 12 k2 0 g2 (by omega) (by omega)
  obtain ⟨g4, k4, v1, v2, v3, v4, v5⟩ := go4_b (n := n) hp 64 k3 0 g3 (by omega) (by omega)
  have all : f_X12_goes n ga (nI p) 0 = some (1, g4) := by
    unfold f_X12_goes
    exact x2.trans (y2.trans (z2.trans (w2.trans v2)))
  have f01 : Fr [80, 81, 82, 83, 84, 85, 86, 87, 88, 89, 90, 91] g g0 := (fa.mono (by decide)).trans (x3.mono (by decide))
  have f02 : Fr [80, 81, 82, 83, 84, 85, 86, 87, 88, 89, 90, 91] g g1 := f01.trans (y3.mono (by decide))
  have f03 : Fr [80, 81, 82, 83, 84, 85, 86, 87, 88, 89, 90, 91] g g2 := f02.trans (z3.mono (by decide))
  have f04 : Fr [80, 81, 82, 83, 84, 85, 86, 87, 88, 89, 90, 91] g g3 := f03.trans (w3.mono (by decide))
  have f05 : Fr [80, 81, 82, 83, 84, 85, 86, 87, 88, 89, 90, 91] g g4 := f04.trans (v3.mono (by decide))
  have rest : Fr [80, 81, 82, 83, 84, 85, 86, 89, 90] ga g4 := ((((x3.mono (by decide)).trans (y3.mono (by decide))).trans (z3.mono (by decide))).trans (w3.mono (by decide))).trans (v3.mono (by decide))
  refine ⟨g4, ?_, f05, ⟨fun i hi => ?_, fun j hj => ?_, fun r hr => ?_, fun b hb => ?_, ?_, ?_, fun k hk => ?_, ?_⟩⟩
  · unfold f_X12_back
    rw [if_neg (nI_pos (by omega)), if_neg (show ¬ (3 : Int32) < nI p from nI_nlt (a := 3) (by omega) (by decide))]
    simp only [grd_t p4, cp]
    rw [if_pos hk, ← hga, bnd_s all]
    rfl
  · show _ = gLA g 104 (40 * p + i) ∧ _ = gLA g 105 (40 * p + i)
    rw [(v3 80 (by decide)).2.2.2.2.1, (w3 80 (by decide)).2.2.2.2.1, (z3 80 (by decide)).2.2.2.2.1, (y3 80 (by decide)).2.2.2.2.1, (v3 81 (by decide)).2.2.2.2.1, (w3 81 (by decide)).2.2.2.2.1, (z3 81 (by decide)).2.2.2.2.1, (y3 81 (by decide)).2.2.2.2.1, x4, x5, if_pos (by omega), if_pos (by omega), (fa 104 (by decide)).2.2.2.2.1, (fa 105 (by decide)).2.2.2.2.1]
    exact ⟨rfl, rfl⟩
  · show _ = gLA g 106 (1280 * p + j)
    rw [(v3 82 (by decide)).2.2.2.2.1, (w3 82 (by decide)).2.2.2.2.1, (z3 82 (by decide)).2.2.2.2.1, y4, if_pos (by omega), (f01 106 (by decide)).2.2.2.2.1]
  · show _ = gIA g 107 (156 * p + 3 * r) ∧ _ = gIA g 107 (156 * p + 3 * r + 1) ∧ _ = gIA g 107 (156 * p + 3 * r + 2)
    rw [(v3 83 (by decide)).2.2.2.1, (w3 83 (by decide)).2.2.2.1, (v3 84 (by decide)).2.2.2.1, (w3 84 (by decide)).2.2.2.1, (v3 85 (by decide)).2.2.2.1, (w3 85 (by decide)).2.2.2.1, z4, z5, z6, if_pos (by omega), if_pos (by omega), if_pos (by omega), (f02 107 (by decide)).2.2.2.1]
    exact ⟨rfl, rfl, rfl⟩
  · show _ = gIA g 108 (12 * p + b)
    rw [(v3 86 (by decide)).2.2.2.1, w4, if_pos (by omega), (f03 108 (by decide)).2.2.2.1]
  · show _ = gLA g 109 p
    rw [(rest 87 (by decide)).2.1, hga]; rfl
  · show _ = gIA g 110 p
    rw [(rest 88 (by decide)).1, hga]; rfl
  · show _ = gLA g 111 (64 * p + k) ∧ _ = gIA g 112 (64 * p + k)
    rw [v4, v5, if_pos (by omega), if_pos (by omega), (f04 111 (by decide)).2.2.2.2.1, (f04 112 (by decide)).2.2.2.1]
    exact ⟨rfl, rfl⟩
  · show _ = gLA g 113 p
    rw [(rest 91 (by decide)).2.1, hga]; rfl
