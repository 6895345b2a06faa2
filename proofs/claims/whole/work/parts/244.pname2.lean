/-! settling: a NAME is kept -/
theorem keep_loop {n L r a m t : Nat} {g : Gs} (hL : L ≤ 3000) (hr : r < 60) (hm : m ≤ 10) (hend : a + m ≤ L) (ht : t < 3001) (h10 : gIA g 10 t = nI a) (h66 : gIA g 66 r = nI m) (hb : ∀ p, p < L → byt (gIA g 5 p)) : ∀ (d f k : Nat) (gx : Gs), k + d = m → d < f → Fr [65] g gx → (∀ q, (q < 10 * r ∨ 10 * r + k ≤ q) → gIA gx 65 q = gIA g 65 q) → (∀ i, i < k → gIA gx 65 (10 * r + i) = gIA g 5 (a + i)) → ∃ g', L_X12_keepName n f gx (nI r) (nI t) (nI k) = some g' ∧ Fr [65] g g' ∧ (∀ q, (q < 10 * r ∨ 10 * r + m ≤ q) → gIA g' 65 q = gIA g 65 q) ∧ ∀ i, i < m → gIA g' 65 (10 * r + i) = gIA g 5 (a + i) := by
  intro d
  induction d with
  | zero =>
    intro f k gx h1 h2 h3 h4 h5
    obtain ⟨f, rfl⟩ : ∃ x, f = x + 1 := ⟨f - 1, by omega⟩
    refine ⟨gx, ?_, h3, fun q hq => h4 q (by omega), fun i hi => h5 i (by omega)⟩
    show h_X12_keepName_21 n (L_X12_keepName n f) gx (nI r) (nI t) (nI k) = _
    unfold h_X12_keepName_21
    rw [grd_t (inB_nI hr (by decide)), nI_clamp (show r < 2 ^ 31 by omega), (h3 66 (by decide)).2.2.2.1, h66, if_pos (nI_le (by omega) (by omega))]
  | succ d ih =>
    intro f k gx h1 h2 h3 h4 h5
    obtain ⟨f, rfl⟩ : ∃ x, f = x + 1 := ⟨f - 1, by omega⟩
    have e : L_X12_keepName n (f + 1) gx (nI r) (nI t) (nI k) = L_X12_keepName n f (sIA gx 65 (upd (gIA gx 65) (10 * r + k) (gIA g 5 (a + k)))) (nI r) (nI t) (nI (k + 1)) := by
      show h_X12_keepName_21 n (L_X12_keepName n f) gx (nI r) (nI t) (nI k) = _
      unfold h_X12_keepName_21
      have e10 : (10 : Int32) * nI r + nI k = nI (10 * r + k) := by
        have : ∀ r, r < 60 → (10 : Int32) * nI r = nI (10 * r) := by decide +kernel
        rw [this r hr, nI_plus]
      rw [grd_t (inB_nI hr (by decide)), nI_clamp (show r < 2 ^ 31 by omega), (h3 66 (by decide)).2.2.2.1, h66, if_neg (nI_ge (a := k) (b := m) (by omega) (by omega)), grd_t (inB_nI ht (by decide)), nI_clamp (show t < 2 ^ 31 by omega), (h3 10 (by decide)).2.2.2.1, h10, nI_plus, grd_t (inB_nI (show a + k < 3001 by omega) (by decide)), e10, grd_t (inB_nI (show 10 * r + k < 600 by omega) (by decide)), nI_clamp (show a + k < 2 ^ 31 by omega), nI_clamp (show 10 * r + k < 2 ^ 31 by omega), (h3 5 (by decide)).2.2.2.1, show vp_nar .byte (gIA g 5 (a + k)) = gIA g 5 (a + k) from hb (a + k) (by omega), nI_1]
    rw [e]
    refine ih f (k + 1) _ (by omega) (by omega) (h3.trans (Fr.sIA (by decide) _ _)) (fun q hq => ?_) (fun i hi => ?_)
    · show upd (gIA gx 65) (10 * r + k) _ q = _
      rw [pk_un (by omega)]; exact h4 q (by omega)
    · show upd (gIA gx 65) (10 * r + k) _ (10 * r + i) = _
      by_cases c : i = k
      · rw [c, pk_us]
      · rw [pk_un (by omega)]; exact h5 i (by omega)
/-- a told NAME is kept in row r, as the class has it in row row -/
theorem name_kept {n L T r t : Nat} {g2 g : Gs} {B : Nat → Nat} (hn : 20000 ≤ n) (hS : ScR n g2 L B g T) (hL : L ≤ 3000) (hb : ∀ p, p < L → byt (gIA g 5 p)) (hr : r < 60) (ht : t < T) (hk : tk g t = 2) : ∃ g', f_X12_keepName n g (nI r) (nI t) = some g' ∧ Fr [65, 66] g g' ∧ gIA g' 66 r = nI (te g t - ta g t) ∧ (∀ q, q ≠ r → gIA g' 66 q = gIA g 66 q) ∧ (∀ q, (q < 10 * r ∨ 10 * r + 10 ≤ q) → gIA g' 65 q = gIA g 65 q) ∧ ∀ i, i < te g t - ta g t → gIA g' 65 (10 * r + i) = gIA g 5 (ta g t + i) := by
  obtain ⟨l1, l2, l3⟩ := len10 hS ht hk
  have hT := hS.2.2.1
  have tt := hS.2.2.2.1 t ht
  have hlt : ta g t < te g t := by
    have := tt.2.2.2.2.1.2.2.2.2.1
    exact this (by omega) (by omega)
  have e10 : gIA g 10 t = nI (ta g t) := tt.2.1
  have e11 : gIA g 11 t = nI (te g t) := tt.2.2.1
  have fr : Fr [65, 66] g (sIA g 66 (upd (gIA g 66) r (nI (te g t - ta g t)))) := Fr.sIA (by decide) _ _
  obtain ⟨g', a1, a2, a3, a4⟩ := keep_loop (n := n) (r := r) (a := ta g t) (m := te g t - ta g t) (t := t) (g := sIA g 66 (upd (gIA g 66) r (nI (te g t - ta g t)))) hL hr l1 (by omega) (by omega) e10 (by show upd (gIA g 66) r _ r = _; rw [pk_us]) hb (te g t - ta g t) n 0 _ (by omega) (by omega) (Fr.refl _ _) (fun _ _ => rfl) (fun i hi => by omega)
  refine ⟨g', ?_, fr.trans (a2.mono (by decide)), ?_, fun q hq => ?_, fun q hq => a3 q (by omega), a4⟩
  · unfold f_X12_keepName
    rw [grd_t (inB_nI (show t < 3001 by omega) (by decide)), grd_t (inB_nI (show t < 3001 by omega) (by decide)), grd_t (inB_nI hr (by decide)), nI_clamp (show t < 2 ^ 31 by omega), nI_clamp (show r < 2 ^ 31 by omega), e10, e11, nI_sub (by omega)]
    exact a1
  · rw [(a2 66 (by decide)).2.2.2.1]
    show upd (gIA g 66) r _ r = _; rw [pk_us]
  · rw [(a2 66 (by decide)).2.2.2.1]
    show upd (gIA g 66) r _ q = _; rw [pk_un hq]
