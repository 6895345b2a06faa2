/-! the shape of a number, and the reference's stages -/
def NumS (L : Nat) (B : Nat → Nat) (f d1 s t q0 E : Nat) (pt pw mn : Bool) : Prop :=
  (f < d1 ∧ (∀ i, f ≤ i → i < d1 → isD (rc L B i) = true) ∧ isD (rc L B d1) = false) ∧
  ((pt = true ∧ rc L B d1 = 46 ∧ d1 + 1 ≤ s ∧ (∀ i, d1 + 1 ≤ i → i < s → isD (rc L B i) = true) ∧ isD (rc L B s) = false) ∨ (pt = false ∧ rc L B d1 ≠ 46 ∧ s = d1)) ∧
  ((pw = true ∧ rc L B s = 112 ∧ ((mn = true ∧ rc L B (s + 1) = 45 ∧ q0 = s + 2) ∨ (mn = false ∧ rc L B (s + 1) ≠ 45 ∧ q0 = s + 1)) ∧ q0 ≤ t ∧ (∀ i, q0 ≤ i → i < t → isD (rc L B i) = true) ∧ isD (rc L B t) = false ∧ E = da (rc L B) q0 0 (t - q0)) ∨ (pw = false ∧ rc L B s ≠ 112 ∧ mn = false ∧ t = s ∧ q0 = s ∧ E = 0))
def nBeh (d1 s : Nat) (pt : Bool) : Nat := if pt = true then s - (d1 + 1) else 0
def nVal (L : Nat) (B : Nat → Nat) (f d1 s : Nat) (pt : Bool) : Nat := if pt = true then da (rc L B) (d1 + 1) (da (rc L B) f 0 (d1 - f)) (s - (d1 + 1)) else da (rc L B) f 0 (d1 - f)
theorem isD_lt {L i : Nat} {B : Nat → Nat} (h : isD (rc L B i) = true) : i < L := by
  refine Classical.byContradiction fun z => ?_
  rw [rc_out (by omega)] at h
  exact absurd h (by decide)
theorem isD_end {L : Nat} {B : Nat → Nat} : isD (rc L B L) = false := by rw [rc_out (Nat.le_refl _)]; decide
theorem dig_end {L p : Nat} {B : Nat → Nat} (hp : p ≤ L) : ∃ q, p ≤ q ∧ q ≤ L ∧ (∀ i, p ≤ i → i < q → isD (rc L B i) = true) ∧ isD (rc L B q) = false := by
  obtain ⟨q, h1, h2, h3, h4⟩ := first_not (fun i => isD (rc L B i) = true) L (L - p) p (by omega)
  refine ⟨q, h1, h2, h3, ?_⟩
  by_cases hq : q < L
  · exact Bool.not_eq_true _ ▸ (h4 hq)
  · rw [show q = L by omega]; exact isD_end
theorem numS_ex {L f : Nat} {B : Nat → Nat} (hf : isD (rc L B f) = true) : ∃ d1 s t q0 E pt pw mn, NumS L B f d1 s t q0 E pt pw mn := by
  have hfL := isD_lt hf
  obtain ⟨d1, a1, a2, a3, a4⟩ := dig_end (L := L) (B := B) (p := f) (by omega)
  have hfd : f < d1 := by
    refine Nat.lt_of_le_of_ne a1 fun z => ?_
    rw [← z, hf] at a4; exact absurd a4 (by decide)
  obtain ⟨s, pt, b1⟩ : ∃ s pt, ((pt = true ∧ rc L B d1 = 46 ∧ d1 + 1 ≤ s ∧ (∀ i, d1 + 1 ≤ i → i < s → isD (rc L B i) = true) ∧ isD (rc L B s) = false) ∨ (pt = false ∧ rc L B d1 ≠ 46 ∧ s = d1)) := by
    by_cases h : rc L B d1 = 46
    · have : d1 < L := by
        refine Classical.byContradiction fun z => ?_
        rw [rc_out (by omega)] at h; omega
      obtain ⟨s, c1, c2, c3, c4⟩ := dig_end (L := L) (B := B) (p := d1 + 1) (by omega)
      exact ⟨s, true, .inl ⟨rfl, h, c1, c3, c4⟩⟩
    · exact ⟨d1, false, .inr ⟨rfl, h, rfl⟩⟩
  by_cases h : rc L B s = 112
  · have hs : s < L := by
      refine Classical.byContradiction fun z => ?_
      rw [rc_out (by omega)] at h; omega
    by_cases h2 : rc L B (s + 1) = 45
    · have hs1 : s + 1 < L := by
        refine Classical.byContradiction fun z => ?_
        rw [rc_out (by omega)] at h2; omega
      obtain ⟨t, c1, c2, c3, c4⟩ := dig_end (L := L) (B := B) (p := s + 2) (by omega)
      exact ⟨d1, s, t, s + 2, _, pt, true, true, ⟨hfd, a3, a4⟩, b1, .inl ⟨rfl, h, .inl ⟨rfl, h2, rfl⟩, c1, c3, c4, rfl⟩⟩
    · obtain ⟨t, c1, c2, c3, c4⟩ := dig_end (L := L) (B := B) (p := s + 1) (by omega)
      exact ⟨d1, s, t, s + 1, _, pt, true, false, ⟨hfd, a3, a4⟩, b1, .inl ⟨rfl, h, .inr ⟨rfl, h2, rfl⟩, c1, c3, c4, rfl⟩⟩
  · exact ⟨d1, s, s, s, 0, pt, false, false, ⟨hfd, a3, a4⟩, b1, .inr ⟨rfl, h, rfl, rfl, rfl, rfl⟩⟩
theorem NumS.le {L f d1 s t q0 E : Nat} {B : Nat → Nat} {pt pw mn : Bool} (h : NumS L B f d1 s t q0 E pt pw mn) : d1 ≤ L ∧ d1 ≤ s ∧ s ≤ L ∧ s ≤ q0 ∧ q0 ≤ t ∧ t ≤ L := by
  have nz : ∀ {i c}, rc L B i = c → 0 < c → i < L := by
    intro i c h hc
    refine Classical.byContradiction fun z => ?_
    rw [rc_out (by omega)] at h; omega
  have run : ∀ {a b}, a ≤ b → (∀ i, a ≤ i → i < b → isD (rc L B i) = true) → a ≤ L → b ≤ L := by
    intro a b hab hr ha
    by_cases hq : a = b
    · omega
    · have := isD_lt (hr (b - 1) (by omega) (by omega)); omega
  obtain ⟨⟨h1, h2, h3⟩, h4, h5⟩ := h
  have hf : f < L := isD_lt (h2 f (by omega) h1)
  have hd := run (by omega) h2 (by omega)
  have hs : d1 ≤ s ∧ s ≤ L := by
    rcases h4 with ⟨_, a1, a2, a3, _⟩ | ⟨_, _, a2⟩
    · have := nz a1 (by omega)
      exact ⟨by omega, run a2 a3 (by omega)⟩
    · omega
  rcases h5 with ⟨_, a1, a2, a3, a4, _⟩ | ⟨_, _, _, a3, a4, _⟩
  · have := nz a1 (by omega)
    have hq : s < q0 ∧ q0 ≤ L := by
      rcases a2 with ⟨_, b1, b2⟩ | ⟨_, _, b2⟩
      · have := nz b1 (by omega); omega
      · omega
    exact ⟨hd, hs.1, hs.2, by omega, a3, run a3 a4 hq.2⟩
  · omega
/-- behind the digits -/
theorem st1_ref {n k : Nat} {g : Gs} {L f to d1 s t q0 E : Nat} {B : Nat → Nat} {pt pw mn : Bool} (h : RefT g L B) (hN : NumS L B f d1 s t q0 E pt pw mn) (hk : 4000 ≤ k) : ∃ v7 v8 k', k ≤ k' + 3100 ∧ (L_X12_number n k).2.1 g (nI f) (nI to) (nI f) 0 0 0 0 0 = b_X12_number_211 n (L_X12_number n k') g (nI f) (nI to) (nI s) (nI (d1 - f + nBeh d1 s pt)) (nI (nBeh d1 s pt)) (if pt = true then 1 else 0) v7 v8 ∧ ((nVal L B f d1 s pt < 2 ^ 63 ∧ ¬ (pt = true ∧ s = d1 + 1) ∧ v7 = 0 ∧ v8 = lN (nVal L B f d1 s pt)) ∨ ((2 ^ 63 ≤ nVal L B f d1 s pt ∨ (pt = true ∧ s = d1 + 1)) ∧ v7 = 1)) := by
  have hL := h.1
  obtain ⟨l1, l2, l3, l4, l5, l6⟩ := hN.le
  obtain ⟨⟨n1, n2, n3⟩, n4, n5⟩ := hN
  obtain ⟨v7, v8, e1, e2⟩ := dg_ref (n := n) (g := g) (f := f) (to := to) h (v6 := 0) (d1 - f) k f 0 0 0 0 0 (by omega) (by omega) (by omega) (by omega) (fun i hi => n2 _ (by omega) (by omega)) (.inl ⟨by decide, rfl, rfl⟩)
  rw [show f + (d1 - f) = d1 by omega, Nat.zero_add, if_pos rfl, Nat.add_zero] at e1
  obtain ⟨k1, hk1⟩ : ∃ k1, k - (d1 - f) = k1 + 1 := ⟨k - (d1 - f) - 1, by omega⟩
  rw [hk1] at e1
  have hlt := h.lt d1
  rw [show (L_X12_number n k).2.1 g (nI f) (nI to) (nI f) 0 0 0 0 0 = _ from e1]
  rcases n4 with ⟨rfl, p1, p2, p3, p4⟩ | ⟨rfl, p1, p2⟩
  · have e46 : nI (rc L B d1) = (46 : Int32) := by rw [p1]; rfl
    have hlt1 := h.lt (d1 + 1)
    have hlts := h.lt s
    -- the point
    have e3 : ∀ w7 w8, (L_X12_number n (k1 + 1)).2.1 g (nI f) (nI to) (nI d1) (nI (d1 - f)) (nI 0) 0 w7 w8 = (L_X12_number n k1).2.1 g (nI f) (nI to) (nI (d1 + 1)) (nI (d1 - f)) (nI 0) 1 (if isD (rc L B (d1 + 1)) = true then w7 else 1) w8 := by
      intro w7 w8
      show h_X12_number_79 n (L_X12_number n k1) g (nI f) (nI to) (nI d1) (nI (d1 - f)) (nI 0) 0 w7 w8 = _
      unfold h_X12_number_79
      rw [bnd_s (at12 h (by omega)), bnd_s (dig12 hlt), bnd_s (at12 h (by omega)), n3, sgB_if, if_neg (by decide), if_pos e46, if_pos rfl]
      unfold b_X12_number_105
      rw [bnd_s (at12 h (by omega)), if_pos e46, nI_1, bnd_s (at12 h (by omega)), bnd_s (dig12 hlt1), sgB_if]
      by_cases hq : isD (rc L B (d1 + 1)) = true
      · rw [if_pos hq, if_pos hq]
      · rw [if_neg hq, if_neg hq]
    -- the end
    have e4 : ∀ kk w7 w8, (L_X12_number n (kk + 1)).2.1 g (nI f) (nI to) (nI s) (nI (d1 - f + (s - (d1 + 1)))) (nI (s - (d1 + 1))) 1 w7 w8 = b_X12_number_211 n (L_X12_number n kk) g (nI f) (nI to) (nI s) (nI (d1 - f + (s - (d1 + 1)))) (nI (s - (d1 + 1))) 1 w7 w8 := by
      intro kk w7 w8
      show h_X12_number_79 n (L_X12_number n kk) g (nI f) (nI to) (nI s) _ _ 1 w7 w8 = _
      unfold h_X12_number_79
      rw [bnd_s (at12 h (by omega)), bnd_s (dig12 hlts), bnd_s (at12 h (by omega)), p4, sgB_if, if_neg (by decide), if_neg (show ¬ (1 : Int32) = 0 by decide)]
      by_cases hq : nI (rc L B s) = (46 : Int32)
      · rw [if_pos hq]
      · rw [if_neg hq]
    unfold nBeh nVal
    simp only [if_true]
    by_cases hq : s = d1 + 1
    · subst hq
      have hnd : ¬ isD (rc L B (d1 + 1)) = true := by rw [p4]; decide
      obtain ⟨k2, hk2⟩ : ∃ k2, k1 = k2 + 1 := ⟨k1 - 1, by omega⟩
      refine ⟨1, v8, k2, by omega, ?_, .inr ⟨.inr ⟨trivial, rfl⟩, rfl⟩⟩
      rw [e3, if_neg hnd, hk2, show d1 + 1 - (d1 + 1) = 0 by omega, Nat.add_zero]
      have := e4 k2 1 v8
      rw [show d1 + 1 - (d1 + 1) = 0 by omega, Nat.add_zero] at this
      exact this
    · have hD : isD (rc L B (d1 + 1)) = true := p3 _ (Nat.le_refl _) (by omega)
      rw [e3, if_pos hD]
      obtain ⟨w7, w8, f1, f2⟩ := dg_ref (n := n) (g := g) (f := f) (to := to) h (v6 := 1) (s - (d1 + 1)) k1 (d1 + 1) (d1 - f) 0 _ v7 v8 (by omega) (by omega) (by omega) (by omega) (fun i hi => p3 _ (by omega) (by omega)) e2
      rw [show d1 + 1 + (s - (d1 + 1)) = s by omega, if_neg (by decide), Nat.zero_add] at f1
      obtain ⟨k2, hk2⟩ : ∃ k2, k1 - (s - (d1 + 1)) = k2 + 1 := ⟨k1 - (s - (d1 + 1)) - 1, by omega⟩
      rw [hk2] at f1
      refine ⟨w7, w8, k2, by omega, ?_, ?_⟩
      · rw [f1]; exact e4 k2 w7 w8
      · rcases f2 with ⟨j1, j2, j3⟩ | ⟨j1, j2⟩
        · exact .inl ⟨j1, fun z => hq z.2, j2, j3⟩
        · exact .inr ⟨.inl j1, j2⟩
  · subst p2
    unfold nBeh nVal
    rw [if_neg (by decide), if_neg (by decide), if_neg (by decide), Nat.add_zero]
    refine ⟨v7, v8, k1, by omega, ?_, ?_⟩
    · show h_X12_number_79 n (L_X12_number n k1) g (nI f) (nI to) (nI s) _ _ 0 v7 v8 = _
      unfold h_X12_number_79
      rw [bnd_s (at12 h (by omega)), bnd_s (dig12 hlt), bnd_s (at12 h (by omega)), n3, sgB_if, if_neg (by decide), if_neg (show ¬ nI (rc L B s) = (46 : Int32) from fun z => p1 ((nI_eq (b := 46) (by omega) (by decide)).mp z))]
      rfl
    · rcases e2 with ⟨j1, j2, j3⟩ | ⟨j1, j2⟩
      · exact .inl ⟨j1, fun z => absurd z.1 (by decide), j2, j3⟩
      · exact .inr ⟨.inl j1, j2⟩
