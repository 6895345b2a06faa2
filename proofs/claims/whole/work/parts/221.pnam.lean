/-! names: NAMEs compared on both sides -/
/-- two NAMEs are the same -/
def Sm (g : Gs) (t u : Nat) : Prop := te g t - ta g t = te g u - ta g u ∧ ∀ q, q < te g t - ta g t → gIA g 5 (ta g t + q) = gIA g 5 (ta g u + q)
theorem sgB_z (b : Bool) : zB (sgB b) = true := by cases b <;> rfl
theorem sgB_iff0 {b : Bool} : sgB b = 0 ↔ b = false := by cases b <;> decide
theorem alike_loop {n L T : Nat} {g2 g : Gs} {B : Nat → Nat} {t u l : Nat} (hS : ScR n g2 L B g T) (ht : t < T) (hu : u < T) (hl1 : ta g t + l ≤ 3000) (hl2 : ta g u + l ≤ 3000) : ∀ (d k q : Nat) (b : Bool), q + d = l → d < k → (b = true ↔ ∀ i, i < q → gIA g 5 (ta g t + i) = gIA g 5 (ta g u + i)) → ∃ b' : Bool, L_X12_alike n k g (nI t) (nI u) (nI l) (sgB b) (nI q) = some (sgB b') ∧ (b' = true ↔ ∀ i, i < l → gIA g 5 (ta g t + i) = gIA g 5 (ta g u + i)) := by
  have hT := hS.2.2.1
  intro d
  induction d with
  | zero =>
    intro k q b h1 h2 h3
    obtain ⟨k, rfl⟩ : ∃ x, k = x + 1 := ⟨k - 1, by omega⟩
    refine ⟨b, ?_, by rw [h3, show q = l by omega]⟩
    show h_X12_alike_41 n (L_X12_alike n k) g (nI t) (nI u) (nI l) (sgB b) (nI q) = _
    unfold h_X12_alike_41
    rw [if_pos (nI_le (show l ≤ q by omega) (by omega)), grd_t (sgB_z b)]
  | succ d ih =>
    intro k q b h1 h2 h3
    obtain ⟨k, rfl⟩ : ∃ x, k = x + 1 := ⟨k - 1, by omega⟩
    show ∃ b', h_X12_alike_41 n (L_X12_alike n k) g (nI t) (nI u) (nI l) (sgB b) (nI q) = some (sgB b') ∧ _
    unfold h_X12_alike_41 b_X12_alike_88
    rw [if_neg (show ¬ nI l ≤ nI q from nI_ge (b := l) (by omega) (by omega))]
    by_cases hb : b = true
    · rw [if_neg (fun z => by rw [sgB_iff0.mp z] at hb; exact absurd hb (by decide)), grd_t (inB_nI (by omega) (by decide)), nI_clamp (show t < 2 ^ 31 by omega), (hS.tok ht).2.1, nI_add, grd_t (inB_nI (by omega) (by decide)), grd_t (inB_nI (by omega) (by decide)), nI_clamp (show u < 2 ^ 31 by omega), (hS.tok hu).2.1, nI_add, grd_t (inB_nI (by omega) (by decide)), nI_clamp (show ta g t + q < 2 ^ 31 by omega), nI_clamp (show ta g u + q < 2 ^ 31 by omega), nI_1]
      by_cases he : gIA g 5 (ta g t + q) = gIA g 5 (ta g u + q)
      · rw [if_pos he]
        exact ih k (q + 1) true (by omega) (by omega) ⟨fun _ i hi => by
          by_cases h : i = q
          · rw [h]; exact he
          · exact h3.mp hb i (by omega), fun _ => rfl⟩
      · rw [if_neg he]
        exact ih k (q + 1) false (by omega) (by omega) ⟨fun z => absurd z (by decide), fun z => absurd (z q (by omega)) he⟩
    · have hb : b = false := by cases b <;> simp_all
      rw [hb, if_pos (show sgB false = 0 from rfl), grd_t (sgB_z false)]
      exact ⟨false, rfl, ⟨fun z => absurd z (by decide), fun z => by
        rw [hb] at h3
        exact h3.mpr (fun i hi => z i (by omega))⟩⟩
theorem alike_ok {n L T : Nat} {g2 g : Gs} {B : Nat → Nat} {t u : Nat} (hn : 20000 ≤ n) (hS : ScR n g2 L B g T) (hL : L ≤ 3000) (ht : t < T) (hu : u < T) (hkt : tk g t = 2) (hku : tk g u = 2) : ∃ b : Bool, f_X12_alike n g (nI t) (nI u) = some (sgB b) ∧ (b = true ↔ Sm g t u) := by
  have hT := hS.2.2.1
  obtain ⟨l1, l2, l3⟩ := len10 hS ht hkt
  obtain ⟨m1, m2, m3⟩ := len10 hS hu hku
  obtain ⟨_, _, _, s4, _, _⟩ := id hS
  have e1 : gIA g 11 t = nI (te g t) := (s4 t ht).2.2.1
  have e2 : gIA g 11 u = nI (te g u) := (s4 u hu).2.2.1
  have p1 : ta g t < te g t := (s4 t ht).2.2.2.2.1.2.2.2.2.1 (by omega) (by omega)
  have p2 : ta g u < te g u := (s4 u hu).2.2.2.2.1.2.2.2.2.1 (by omega) (by omega)
  unfold f_X12_alike b_X12_alike_36
  rw [grd_t (inB_nI (by omega) (by decide)), grd_t (inB_nI (by omega) (by decide)), grd_t (inB_nI (by omega) (by decide)), grd_t (inB_nI (by omega) (by decide)), nI_clamp (show t < 2 ^ 31 by omega), nI_clamp (show u < 2 ^ 31 by omega), e1, e2, (hS.tok ht).2.1, (hS.tok hu).2.1, nI_sub (by omega), nI_sub (by omega)]
  by_cases he : te g t - ta g t = te g u - ta g u
  · rw [if_pos (by rw [he])]
    obtain ⟨b, x1, x2⟩ := alike_loop hS ht hu (l := te g t - ta g t) (by omega) (by omega) (te g t - ta g t) n 0 true (by omega) (by omega) ⟨fun _ i hi => by omega, fun _ => rfl⟩
    exact ⟨b, x1, by rw [x2]; exact ⟨fun z => ⟨he, z⟩, fun z => z.2⟩⟩
  · rw [if_neg (fun z => he ((nI_eq (by omega) (by omega)).mp z))]
    obtain ⟨k, rfl⟩ : ∃ k, n = k + 1 := ⟨n - 1, by omega⟩
    refine ⟨false, ?_, ⟨fun z => absurd z (by decide), fun z => absurd z.1 he⟩⟩
    show h_X12_alike_41 (k + 1) (L_X12_alike (k + 1) k) g (nI t) (nI u) _ 0 (nI 0) = _
    unfold h_X12_alike_41
    rw [if_pos (show (0 : Int32) = 0 from rfl), ite_self]
    rfl
/-! the class -/
theorem named_loop {n r a l : Nat} {gp gt : Gs} (hr : r < 60) (ha : a + l ≤ 3000) (hl : l ≤ 10) : ∀ (d k q : Nat), q + d = l → d < k → (∀ i, i < q → gIA gp 1 (10 * r + i) = gIA gt 0 (a + i)) → ∃ b : Bool, L_X4_isNamed n k gp gt (nI r) (nI a) (nI l) (nI q) = some (sgB b) ∧ (b = true ↔ ∀ i, i < l → gIA gp 1 (10 * r + i) = gIA gt 0 (a + i)) := by
  intro d
  induction d with
  | zero =>
    intro k q h1 h2 h3
    obtain ⟨k, rfl⟩ : ∃ x, k = x + 1 := ⟨k - 1, by omega⟩
    refine ⟨true, ?_, ⟨fun _ => by rw [show l = q by omega]; exact h3, fun _ => rfl⟩⟩
    show h_X4_isNamed_29 n (L_X4_isNamed n k) gp gt (nI r) (nI a) (nI l) (nI q) = _
    unfold h_X4_isNamed_29 b_X4_isNamed_63
    rw [if_pos (nI_le (show l ≤ q by omega) (by omega)), if_pos (by rw [show q = l by omega])]; rfl
  | succ d ih =>
    intro k q h1 h2 h3
    obtain ⟨k, rfl⟩ : ∃ x, k = x + 1 := ⟨k - 1, by omega⟩
    show ∃ b, h_X4_isNamed_29 n (L_X4_isNamed n k) gp gt (nI r) (nI a) (nI l) (nI q) = some (sgB b) ∧ _
    unfold h_X4_isNamed_29 b_X4_isNamed_63
    have e : nI r * (10 : Int32) + nI q = nI (10 * r + q) := by rw [show (10 : Int32) = nI 10 from rfl, pk_mul, nI_add, Nat.mul_comm]
    rw [if_neg (show ¬ nI l ≤ nI q from nI_ge (b := l) (by omega) (by omega)), e, nI_add, grd_t (inB_nI (by omega) (by decide)), grd_t (inB_nI (by omega) (by decide)), nI_clamp (show 10 * r + q < 2 ^ 31 by omega), nI_clamp (show a + q < 2 ^ 31 by omega), nI_1]
    by_cases he : gIA gp 1 (10 * r + q) = gIA gt 0 (a + q)
    · rw [if_pos he]
      exact ih k (q + 1) (by omega) (by omega) (fun i hi => by
        by_cases h : i = q
        · rw [h]; exact he
        · exact h3 i (by omega))
    · rw [if_neg he, if_neg (fun z => by have := (nI_eq (by omega) (by omega)).mp z; omega)]
      exact ⟨false, rfl, ⟨fun z => absurd z (by decide), fun z => absurd (z q (by omega)) he⟩⟩
/-- the class's row of a NAME against a NAME in the text -/
theorem named_ok {n L T : Nat} {g2 g gt gp : Gs} {B : Nat → Nat} {k r i t : Nat} (hn : 20000 ≤ n) (hS : ScR n g2 L B g T) (hL : L ≤ 3000) (hTE : ∀ p, p < L → gIA g 5 p = gIA gt 0 p) (h : Nd T g gt gp k r i) (hr : r < 60) (ht : t < T) (hkt : tk g t = 2) : ∃ b : Bool, f_X4_isNamed n gp gt (nI r) (nI (ta g t)) (nI (te g t - ta g t)) = some (sgB b) ∧ (b = true ↔ Sm g (rtk g k i) t) := by
  have hT := hS.2.2.1
  obtain ⟨u, x1, x2, x3, x4, x5, x6⟩ := h
  have eu : rtk g k i = u := by unfold rtk; rw [x1, nI_clamp (by omega)]
  rw [eu]
  obtain ⟨l1, l2, l3⟩ := len10 hS ht hkt
  obtain ⟨m1, m2, m3⟩ := len10 hS x2 x3
  obtain ⟨_, _, _, s4, _, _⟩ := id hS
  have p1 : ta g t < te g t := (s4 t ht).2.2.2.2.1.2.2.2.2.1 (by omega) (by omega)
  have p2 : ta g u < te g u := (s4 u x2).2.2.2.2.1.2.2.2.2.1 (by omega) (by omega)
  unfold f_X4_isNamed
  rw [grd_t (inB_nI hr (by decide)), nI_clamp (show r < 2 ^ 31 by omega), x5]
  by_cases he : te g u - ta g u = te g t - ta g t
  · rw [if_pos (by rw [he]), if_neg (nI_pos (by omega)), show (3000 : Int32) - nI (ta g t) = nI (3000 - ta g t) from nI_sub (a := 3000) (by omega), if_pos (nI_le (by omega) (by omega))]
    obtain ⟨b, y1, y2⟩ := named_loop (n := n) (gp := gp) (gt := gt) (r := r) (a := ta g t) (l := te g t - ta g t) hr (by omega) l1 (te g t - ta g t) n 0 (by omega) (by omega) (fun i hi => by omega)
    refine ⟨b, y1, ?_⟩
    rw [y2]
    refine ⟨fun z => ⟨he, fun q hq => ?_⟩, fun z q hq => ?_⟩
    · rw [hTE _ (by omega), hTE _ (by omega), ← x6 q hq]; exact z q (by omega)
    · rw [x6 q (by omega), ← hTE _ (by omega), ← hTE _ (by omega)]; exact z.2 q (by omega)
  · rw [if_neg (fun z => he ((nI_eq (by omega) (by omega)).mp z))]
    exact ⟨false, rfl, ⟨fun z => absurd z (by decide), fun z => absurd z.1 he⟩⟩
/-- the first of the class's rows that is so named -/
theorem find_loop {n L T : Nat} {g2 g gt gp : Gs} {B : Nat → Nat} {k r0 c t : Nat} (hn : 20000 ≤ n) (hS : ScR n g2 L B g T) (hL : L ≤ 3000) (hTE : ∀ p, p < L → gIA g 5 p = gIA gt 0 p) (h : ∀ i, i < c → Nd T g gt gp k (r0 + i) i) (hr : r0 + c ≤ 60) (ht : t < T) (hkt : tk g t = 2) : ∀ (d f q : Nat), q + d = c → d < f → (∀ i, i < q → ¬ Sm g (rtk g k i) t) → ∃ v q', L_X4_find n f gp gt (nI (ta g t)) (nI (te g t - ta g t)) (nI r0) (nI c) (nI q) = some v ∧ q' ≤ c ∧ (∀ i, i < q' → ¬ Sm g (rtk g k i) t) ∧ ((q' < c ∧ Sm g (rtk g k q') t ∧ v = nI q') ∨ (q' = c ∧ v = -1)) := by
  intro d
  induction d with
  | zero =>
    intro f q h1 h2 h3
    obtain ⟨f, rfl⟩ : ∃ x, f = x + 1 := ⟨f - 1, by omega⟩
    refine ⟨-1, c, ?_, Nat.le_refl _, by rw [show c = q by omega]; exact h3, .inr ⟨rfl, rfl⟩⟩
    show h_X4_find_3 n (L_X4_find n f) gp gt _ _ _ (nI c) (nI q) = _
    unfold h_X4_find_3
    rw [if_pos (nI_le (show c ≤ q by omega) (by omega))]
  | succ d ih =>
    intro f q h1 h2 h3
    obtain ⟨f, rfl⟩ : ∃ x, f = x + 1 := ⟨f - 1, by omega⟩
    show ∃ v q', h_X4_find_3 n (L_X4_find n f) gp gt _ _ (nI r0) (nI c) (nI q) = some v ∧ _
    unfold h_X4_find_3
    obtain ⟨b, b1, b2⟩ := named_ok hn hS hL hTE (h q (by omega)) (by omega) ht hkt
    rw [if_neg (show ¬ nI c ≤ nI q from nI_ge (b := c) (by omega) (by omega)), nI_add, bnd_s b1, nI_1]
    by_cases hb : b = true
    · rw [if_neg (fun z => by rw [sgB_iff0.mp z] at hb; exact absurd hb (by decide))]
      exact ⟨_, q, rfl, by omega, h3, .inl ⟨by omega, b2.mp hb, rfl⟩⟩
    · rw [if_pos (sgB_iff0.mpr (by cases b <;> simp_all))]
      exact ih f (q + 1) (by omega) (by omega) (fun i hi => by
        by_cases hi' : i = q
        · rw [hi']; exact fun z => hb (b2.mpr z)
        · exact h3 i (by omega))
theorem find_ok {n L T : Nat} {g2 g gt gp : Gs} {B : Nat → Nat} {k r0 c t : Nat} (hn : 20000 ≤ n) (hS : ScR n g2 L B g T) (hL : L ≤ 3000) (hTE : ∀ p, p < L → gIA g 5 p = gIA gt 0 p) (h : ∀ i, i < c → Nd T g gt gp k (r0 + i) i) (hr : r0 + c ≤ 60) (ht : t < T) (hkt : tk g t = 2) : ∃ v q', f_X4_find n gp gt (nI (ta g t)) (nI (te g t - ta g t)) (nI r0) (nI c) = some v ∧ q' ≤ c ∧ (∀ i, i < q' → ¬ Sm g (rtk g k i) t) ∧ ((q' < c ∧ Sm g (rtk g k q') t ∧ v = nI q') ∨ (q' = c ∧ v = -1)) := find_loop hn hS hL hTE h hr ht hkt c n 0 (by omega) (by omega) (fun i hi => by omega)
