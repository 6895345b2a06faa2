/-! asked NAMEs against the letters that are kept -/
/-- a row of letters, alike on both sides -/
def Lt (g gp : Gs) (r : Nat) : Prop := ∃ m, m ≤ 10 ∧ gIA g 66 r = nI m ∧ gIA gp 2 r = nI m ∧ ∀ q, q < m → gIA g 65 (10 * r + q) = gIA gp 1 (10 * r + q)
theorem called_loop {n L T : Nat} {g2 g : Gs} {B : Nat → Nat} {r t l : Nat} (hS : ScR n g2 L B g T) (ht : t < T) (hr : r < 60) (hl : l ≤ 10) (hl2 : ta g t + l ≤ 3000) : ∀ (d k q : Nat) (b : Bool), q + d = l → d < k → (b = true ↔ ∀ i, i < q → gIA g 65 (10 * r + i) = gIA g 5 (ta g t + i)) → ∃ b' : Bool, L_X12_isCalled n k g (nI r) (nI t) (nI l) (sgB b) (nI q) = some (sgB b') ∧ (b' = true ↔ ∀ i, i < l → gIA g 65 (10 * r + i) = gIA g 5 (ta g t + i)) := by
  have hT := hS.2.2.1
  intro d
  induction d with
  | zero =>
    intro k q b h1 h2 h3
    obtain ⟨k, rfl⟩ : ∃ x, k = x + 1 := ⟨k - 1, by omega⟩
    refine ⟨b, ?_, by rw [h3, show q = l by omega]⟩
    show h_X12_isCalled_34 n (L_X12_isCalled n k) g (nI r) (nI t) (nI l) (sgB b) (nI q) = _
    unfold h_X12_isCalled_34
    rw [if_pos (nI_le (show l ≤ q by omega) (by omega)), grd_t (sgB_z b)]
  | succ d ih =>
    intro k q b h1 h2 h3
    obtain ⟨k, rfl⟩ : ∃ x, k = x + 1 := ⟨k - 1, by omega⟩
    show ∃ b', h_X12_isCalled_34 n (L_X12_isCalled n k) g (nI r) (nI t) (nI l) (sgB b) (nI q) = some (sgB b') ∧ _
    unfold h_X12_isCalled_34 b_X12_isCalled_79
    have e10 : (10 : Int32) * nI r + nI q = nI (10 * r + q) := by rw [show (10 : Int32) = nI 10 from rfl, pk_mul, nI_add]
    rw [if_neg (show ¬ nI l ≤ nI q from nI_ge (b := l) (by omega) (by omega))]
    by_cases hb : b = true
    · rw [if_neg (fun z => by rw [sgB_iff0.mp z] at hb; exact absurd hb (by decide)), e10, grd_t (inB_nI (by omega) (by decide)), grd_t (inB_nI (by omega) (by decide)), nI_clamp (show t < 2 ^ 31 by omega), (hS.tok ht).2.1, nI_add, grd_t (inB_nI (by omega) (by decide)), nI_clamp (show 10 * r + q < 2 ^ 31 by omega), nI_clamp (show ta g t + q < 2 ^ 31 by omega), nI_1]
      by_cases he : gIA g 65 (10 * r + q) = gIA g 5 (ta g t + q)
      · rw [if_pos he]
        exact ih k (q + 1) true (by omega) (by omega) ⟨fun _ i hi => by
          by_cases h : i = q
          · rw [h]; exact he
          · exact h3.mp hb i (by omega), fun _ => rfl⟩
      · rw [if_neg he]
        exact ih k (q + 1) false (by omega) (by omega) ⟨fun z => absurd z (by decide), fun z => absurd (z q (by omega)) he⟩
    · have hb : b = false := by cases b <;> simp_all
      rw [hb, if_pos (show sgB false = 0 from rfl), grd_t (sgB_z false)]
      exact ⟨false, rfl, ⟨fun z => absurd z (by decide), fun z => by
        rw [hb] at h3
        exact h3.mpr (fun i hi => z i (by omega))⟩⟩
theorem called_both {n L T : Nat} {g2 g gt gp : Gs} {B : Nat → Nat} {r t : Nat} (hn : 20000 ≤ n) (hS : ScR n g2 L B g T) (hL : L ≤ 3000) (hTE : ∀ p, p < L → gIA g 5 p = gIA gt 0 p) (h : Lt g gp r) (hr : r < 60) (ht : t < T) (hkt : tk g t = 2) : ∃ b : Bool, f_X12_isCalled n g (nI r) (nI t) = some (sgB b) ∧ f_X4_isNamed n gp gt (nI r) (nI (ta g t)) (nI (te g t - ta g t)) = some (sgB b) := by
  have hT := hS.2.2.1
  obtain ⟨m, x1, x2, x3, x4⟩ := h
  obtain ⟨l1, l2, l3⟩ := len10 hS ht hkt
  obtain ⟨_, _, _, s4, _, _⟩ := id hS
  have e1 : gIA g 11 t = nI (te g t) := (s4 t ht).2.2.1
  have p1 : ta g t < te g t := (s4 t ht).2.2.2.2.1.2.2.2.2.1 (by omega) (by omega)
  unfold f_X12_isCalled b_X12_isCalled_29 f_X4_isNamed
  rw [grd_t (inB_nI (by omega) (by decide)), grd_t (inB_nI (by omega) (by decide)), grd_t (inB_nI hr (by decide)), nI_clamp (show t < 2 ^ 31 by omega), nI_clamp (show r < 2 ^ 31 by omega), e1, (hS.tok ht).2.1, nI_sub (by omega), x2, grd_t (inB_nI hr (by decide)), x3]
  by_cases he : te g t - ta g t = m
  · rw [if_pos (by rw [he]), if_pos (by rw [he]), if_neg (nI_pos (by omega)), show (3000 : Int32) - nI (ta g t) = nI (3000 - ta g t) from nI_sub (a := 3000) (by omega), if_pos (nI_le (by omega) (by omega))]
    obtain ⟨b, y1, y2⟩ := called_loop (n := n) (r := r) (l := te g t - ta g t) hS ht hr l1 (by omega) (te g t - ta g t) n 0 true (by omega) (by omega) ⟨fun _ i hi => by omega, fun _ => rfl⟩
    obtain ⟨b', z1, z2⟩ := named_loop (n := n) (gp := gp) (gt := gt) (r := r) (a := ta g t) (l := te g t - ta g t) hr (by omega) l1 (te g t - ta g t) n 0 (by omega) (by omega) (fun i hi => by omega)
    have hb : b' = b := by
      have : (b' = true ↔ b = true) := by
        rw [y2, z2]
        refine ⟨fun z i hi => ?_, fun z i hi => ?_⟩
        · rw [x4 i (by omega), hTE _ (by omega)]; exact z i hi
        · rw [← x4 i (by omega), ← hTE _ (by omega)]; exact z i hi
      cases b <;> cases b' <;> simp_all
    rw [hb] at z1
    exact ⟨b, y1, z1⟩
  · rw [if_neg (fun z => he ((nI_eq (by omega) (by omega)).mp z)), if_neg (fun z => he ((nI_eq (by omega) (by omega)).mp z).symm)]
    obtain ⟨k, rfl⟩ : ∃ k, n = k + 1 := ⟨n - 1, by omega⟩
    refine ⟨false, ?_, rfl⟩
    show h_X12_isCalled_34 (k + 1) (L_X12_isCalled (k + 1) k) g (nI r) (nI t) _ 0 (nI 0) = _
    unfold h_X12_isCalled_34
    rw [if_pos (show (0 : Int32) = 0 from rfl), ite_self]
    rfl
theorem rows_both {n L T : Nat} {g2 g gt gp : Gs} {B : Nat → Nat} {r0 c t : Nat} (hn : 20000 ≤ n) (hS : ScR n g2 L B g T) (hL : L ≤ 3000) (hTE : ∀ p, p < L → gIA g 5 p = gIA gt 0 p) (h : ∀ i, i < c → Lt g gp (r0 + i)) (hr : r0 + c ≤ 60) (ht : t < T) (hkt : tk g t = 2) : ∀ (d f f' q : Nat), q + d = c → d < f → d < f' → ∃ v, L_X12_rowCalled n f g (nI r0) (nI c) (nI t) (nI q) = some v ∧ L_X4_find n f' gp gt (nI (ta g t)) (nI (te g t - ta g t)) (nI r0) (nI c) (nI q) = some v ∧ (v = -1 ∨ ∃ k, k < c ∧ v = nI k) := by
  intro d
  induction d with
  | zero =>
    intro f f' q h1 h2 h3
    obtain ⟨f, rfl⟩ : ∃ x, f = x + 1 := ⟨f - 1, by omega⟩
    obtain ⟨f', rfl⟩ : ∃ x, f' = x + 1 := ⟨f' - 1, by omega⟩
    refine ⟨-1, ?_, ?_, .inl rfl⟩
    · show h_X12_rowCalled_3 n (L_X12_rowCalled n f) g (nI r0) (nI c) (nI t) (nI q) = _
      unfold h_X12_rowCalled_3 b_X12_rowCalled_27
      rw [if_pos (nI_le (show c ≤ q by omega) (by omega)), if_pos (by rw [show q = c by omega])]
    · show h_X4_find_3 n (L_X4_find n f') gp gt _ _ _ (nI c) (nI q) = _
      unfold h_X4_find_3
      rw [if_pos (nI_le (show c ≤ q by omega) (by omega))]
  | succ d ih =>
    intro f f' q h1 h2 h3
    obtain ⟨f, rfl⟩ : ∃ x, f = x + 1 := ⟨f - 1, by omega⟩
    obtain ⟨f', rfl⟩ : ∃ x, f' = x + 1 := ⟨f' - 1, by omega⟩
    obtain ⟨b, b1, b2⟩ := called_both hn hS hL hTE (h q (by omega)) (by omega) ht hkt
    show ∃ v, h_X12_rowCalled_3 n (L_X12_rowCalled n f) g (nI r0) (nI c) (nI t) (nI q) = some v ∧ h_X4_find_3 n (L_X4_find n f') gp gt _ _ (nI r0) (nI c) (nI q) = some v ∧ _
    unfold h_X12_rowCalled_3 h_X4_find_3 b_X12_rowCalled_27
    rw [if_neg (show ¬ nI c ≤ nI q from nI_ge (b := c) (by omega) (by omega)), if_neg (show ¬ nI c ≤ nI q from nI_ge (b := c) (by omega) (by omega)), nI_add, bnd_s b1, bnd_s b2, nI_1]
    by_cases hb : b = true
    · have z : ¬ sgB b = 0 := fun z => by rw [sgB_iff0.mp z] at hb; exact absurd hb (by decide)
      rw [if_neg z, if_neg z, if_neg (fun z => by have := (nI_eq (by omega) (by omega)).mp z; omega)]
      exact ⟨_, rfl, rfl, .inr ⟨q, by omega, rfl⟩⟩
    · have z : sgB b = 0 := sgB_iff0.mpr (by cases b <;> simp_all)
      rw [if_pos z, if_pos z]
      exact ih f f' (q + 1) (by omega) (by omega) (by omega)
theorem found_both {n L T : Nat} {g2 g gt gp : Gs} {B : Nat → Nat} {r0 c t : Nat} (hn : 20000 ≤ n) (hS : ScR n g2 L B g T) (hL : L ≤ 3000) (hTE : ∀ p, p < L → gIA g 5 p = gIA gt 0 p) (h : ∀ i, i < c → Lt g gp (r0 + i)) (hr : r0 + c ≤ 60) (ht : t < T) (hkt : tk g t = 2) : ∃ v, f_X12_rowCalled n g (nI r0) (nI c) (nI t) = some v ∧ f_X4_find n gp gt (nI (ta g t)) (nI (te g t - ta g t)) (nI r0) (nI c) = some v ∧ (v = -1 ∨ ∃ k, k < c ∧ v = nI k) := rows_both hn hS hL hTE h hr ht hkt c n n 0 (by omega) (by omega) (by omega)
