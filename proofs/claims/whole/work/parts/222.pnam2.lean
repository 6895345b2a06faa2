/-! names: told rows on both sides -/
/-- rows of told NAMEs -/
def Rn (T : Nat) (g : Gs) (k c : Nat) : Prop := ∀ i, i < c → gIA g k i = nI (rtk g k i) ∧ rtk g k i < T ∧ tk g (rtk g k i) = 2
theorem Nd.rn {T : Nat} {g gt gp : Gs} {k row i : Nat} (hT : T ≤ 3001) (h : Nd T g gt gp k row i) : gIA g k i = nI (rtk g k i) ∧ rtk g k i < T ∧ tk g (rtk g k i) = 2 := by
  obtain ⟨t, x1, x2, x3, _⟩ := h
  have e : rtk g k i = t := by unfold rtk; rw [x1, nI_clamp (by omega)]
  rw [e]; exact ⟨x1, x2, x3⟩
theorem ta_lt {n L T : Nat} {g2 G : Gs} {B : Nat → Nat} (hS : ScR n g2 L B G T) {a b : Nat} (h : a < b) (hb : b < T) : ta G a < ta G b := by
  have l := hS.len (show a + 1 < T by omega)
  have m := ta_mono hS (show a + 1 ≤ b by omega) hb
  omega
theorem rowOf_37 {n L T : Nat} {g2 g : Gs} {B : Nat → Nat} {c t : Nat} (hn : 20000 ≤ n) (hS : ScR n g2 L B g T) (hL : L ≤ 3000) (h : Rn T g 37 c) (hc : c ≤ 400) (ht : t < T) (hkt : tk g t = 2) : ∃ q', f_X12_rowOf__0a37 n g (nI c) (nI t) = some (nI q') ∧ q' ≤ c ∧ (∀ i, i < q' → ¬ Sm g (rtk g 37 i) t) ∧ (q' < c → Sm g (rtk g 37 q') t) := by
  have lp : ∀ (d f q : Nat), q + d = c → d < f → (∀ i, i < q → ¬ Sm g (rtk g 37 i) t) → ∃ q', L_X12_rowOf__0a37 n f g (nI c) (nI t) (nI q) = some (nI q') ∧ q' ≤ c ∧ (∀ i, i < q' → ¬ Sm g (rtk g 37 i) t) ∧ (q' < c → Sm g (rtk g 37 q') t) := by
    intro d
    induction d with
    | zero =>
      intro f q h1 h2 h3
      obtain ⟨f, rfl⟩ : ∃ x, f = x + 1 := ⟨f - 1, by omega⟩
      refine ⟨q, ?_, by omega, h3, fun z => by omega⟩
      show h_X12_rowOf__0a37_3 n (L_X12_rowOf__0a37 n f) g (nI c) (nI t) (nI q) = _
      unfold h_X12_rowOf__0a37_3
      rw [if_pos (nI_le (show c ≤ q by omega) (by omega))]
    | succ d ih =>
      intro f q h1 h2 h3
      obtain ⟨f, rfl⟩ : ∃ x, f = x + 1 := ⟨f - 1, by omega⟩
      show ∃ q', h_X12_rowOf__0a37_3 n (L_X12_rowOf__0a37 n f) g (nI c) (nI t) (nI q) = some (nI q') ∧ _
      unfold h_X12_rowOf__0a37_3
      obtain ⟨r1, r2, r3⟩ := h q (by omega)
      obtain ⟨b, b1, b2⟩ := alike_ok hn hS hL r2 ht r3 hkt
      rw [if_neg (show ¬ nI c ≤ nI q from nI_ge (b := c) (by omega) (by omega)), grd_t (inB_nI (by omega) (by decide)), nI_clamp (show q < 2 ^ 31 by omega), r1, bnd_s b1, nI_1]
      by_cases hb : b = true
      · rw [if_neg (fun z => by rw [sgB_iff0.mp z] at hb; exact absurd hb (by decide))]
        exact ⟨q, rfl, by omega, h3, fun _ => b2.mp hb⟩
      · rw [if_pos (sgB_iff0.mpr (by cases b <;> simp_all))]
        exact ih f (q + 1) (by omega) (by omega) (fun i hi => by
          by_cases hi' : i = q
          · rw [hi']; exact fun z => hb (b2.mpr z)
          · exact h3 i (by omega))
  exact lp c n 0 (by omega) (by omega) (fun i hi => by omega)
theorem rowOf_53 {n L T : Nat} {g2 g : Gs} {B : Nat → Nat} {c t : Nat} (hn : 20000 ≤ n) (hS : ScR n g2 L B g T) (hL : L ≤ 3000) (h : Rn T g 53 c) (hc : c ≤ 400) (ht : t < T) (hkt : tk g t = 2) : ∃ q', f_X12_rowOf__0a53 n g (nI c) (nI t) = some (nI q') ∧ q' ≤ c ∧ (∀ i, i < q' → ¬ Sm g (rtk g 53 i) t) ∧ (q' < c → Sm g (rtk g 53 q') t) := by
  have lp : ∀ (d f q : Nat), q + d = c → d < f → (∀ i, i < q → ¬ Sm g (rtk g 53 i) t) → ∃ q', L_X12_rowOf__0a53 n f g (nI c) (nI t) (nI q) = some (nI q') ∧ q' ≤ c ∧ (∀ i, i < q' → ¬ Sm g (rtk g 53 i) t) ∧ (q' < c → Sm g (rtk g 53 q') t) := by
    intro d
    induction d with
    | zero =>
      intro f q h1 h2 h3
      obtain ⟨f, rfl⟩ : ∃ x, f = x + 1 := ⟨f - 1, by omega⟩
      refine ⟨q, ?_, by omega, h3, fun z => by omega⟩
      show h_X12_rowOf__0a53_3 n (L_X12_rowOf__0a53 n f) g (nI c) (nI t) (nI q) = _
      unfold h_X12_rowOf__0a53_3
      rw [if_pos (nI_le (show c ≤ q by omega) (by omega))]
    | succ d ih =>
      intro f q h1 h2 h3
      obtain ⟨f, rfl⟩ : ∃ x, f = x + 1 := ⟨f - 1, by omega⟩
      show ∃ q', h_X12_rowOf__0a53_3 n (L_X12_rowOf__0a53 n f) g (nI c) (nI t) (nI q) = some (nI q') ∧ _
      unfold h_X12_rowOf__0a53_3
      obtain ⟨r1, r2, r3⟩ := h q (by omega)
      obtain ⟨b, b1, b2⟩ := alike_ok hn hS hL r2 ht r3 hkt
      rw [if_neg (show ¬ nI c ≤ nI q from nI_ge (b := c) (by omega) (by omega)), grd_t (inB_nI (by omega) (by decide)), nI_clamp (show q < 2 ^ 31 by omega), r1, bnd_s b1, nI_1]
      by_cases hb : b = true
      · rw [if_neg (fun z => by rw [sgB_iff0.mp z] at hb; exact absurd hb (by decide))]
        exact ⟨q, rfl, by omega, h3, fun _ => b2.mp hb⟩
      · rw [if_pos (sgB_iff0.mpr (by cases b <;> simp_all))]
        exact ih f (q + 1) (by omega) (by omega) (fun i hi => by
          by_cases hi' : i = q
          · rw [hi']; exact fun z => hb (b2.mpr z)
          · exact h3 i (by omega))
  exact lp c n 0 (by omega) (by omega) (fun i hi => by omega)
theorem told_37 {n L T : Nat} {g2 g : Gs} {B : Nat → Nat} {c t : Nat} (hn : 20000 ≤ n) (hS : ScR n g2 L B g T) (hL : L ≤ 3000) (h : Rn T g 37 c) (hc : c ≤ 400) (hcs : gI g 33 = nI c) (ht : t < T) (hkt : tk g t = 2) : ∀ (d f q : Nat) (b : Bool), q + d = c → d < f → ∃ b' : Bool, (L_X12_told n f).1 g (nI t) (sgB b) (nI q) = (L_X12_told n (f - d - 1)).2.1 g (nI t) (sgB b') 0 ∧ (b' = true ↔ (b = true ∨ ∃ i, q ≤ i ∧ i < c ∧ rtk g 37 i < t ∧ Sm g (rtk g 37 i) t)) := by
  have hT := hS.2.2.1
  intro d
  induction d with
  | zero =>
    intro f q b h1 h2
    obtain ⟨f, rfl⟩ : ∃ x, f = x + 1 := ⟨f - 1, by omega⟩
    refine ⟨b, ?_, ⟨fun z => .inl z, fun z => z.elim id (fun ⟨i, i1, i2, _⟩ => by omega)⟩⟩
    show h_X12_told_4 n (L_X12_told n f) g (nI t) (sgB b) (nI q) = _
    unfold h_X12_told_4
    rw [hcs, if_pos (nI_le (show c ≤ q by omega) (by omega))]
    rfl
  | succ d ih =>
    intro f q b h1 h2
    obtain ⟨f, rfl⟩ : ∃ x, f = x + 1 := ⟨f - 1, by omega⟩
    have ef : f + 1 - (d + 1) - 1 = f - d - 1 := by omega
    show ∃ b', h_X12_told_4 n (L_X12_told n f) g (nI t) (sgB b) (nI q) = (L_X12_told n (f + 1 - (d + 1) - 1)).2.1 g (nI t) (sgB b') 0 ∧ _
    rw [ef]
    unfold h_X12_told_4 b_X12_told_44 b_X12_told_40 b_X12_told_45
    rw [hcs, if_neg (show ¬ nI c ≤ nI q from nI_ge (b := c) (by omega) (by omega)), nI_1]
    obtain ⟨r1, r2, r3⟩ := h q (by omega)
    by_cases hb : b = true
    · rw [hb, if_neg (show ¬ sgB true = 0 by decide)]
      obtain ⟨b', x1, x2⟩ := ih f (q + 1) true (by omega) (by omega)
      exact ⟨b', x1, by rw [x2]; exact ⟨fun _ => .inl rfl, fun _ => .inl rfl⟩⟩
    · have hb0 : b = false := by cases b <;> simp_all
      rw [hb0, if_pos (show sgB false = 0 from rfl), grd_t (inB_nI (by omega) (by decide)), nI_clamp (show q < 2 ^ 31 by omega), r1]
      by_cases hlt : rtk g 37 q < t
      · rw [if_neg (show ¬ nI t ≤ nI (rtk g 37 q) from nI_ge (b := t) hlt (by omega)), grd_t (inB_nI (by omega) (by decide))]
        obtain ⟨e, e1, e2⟩ := alike_ok hn hS hL r2 ht r3 hkt
        rw [bnd_s e1]
        by_cases he : e = true
        · rw [if_neg (fun z => by rw [sgB_iff0.mp z] at he; exact absurd he (by decide))]
          obtain ⟨b', x1, x2⟩ := ih f (q + 1) true (by omega) (by omega)
          exact ⟨b', x1, by rw [x2]; exact ⟨fun _ => .inr ⟨q, by omega, by omega, hlt, e2.mp he⟩, fun _ => .inl rfl⟩⟩
        · rw [if_pos (sgB_iff0.mpr (by cases e <;> simp_all))]
          obtain ⟨b', x1, x2⟩ := ih f (q + 1) false (by omega) (by omega)
          have hq1 : ∀ i, q ≤ i → Sm g (rtk g 37 i) t → q + 1 ≤ i := fun i i1 i4 => by
            by_cases hi : i = q
            · rw [hi] at i4; exact absurd (e2.mpr i4) he
            · omega
          exact ⟨b', x1, by rw [x2]; exact ⟨fun z => z.elim (fun z => absurd z (by decide)) (fun ⟨i, i1, i2, i3⟩ => .inr ⟨i, by omega, i2, i3⟩), fun z => z.elim (fun z => absurd z (by decide)) (fun ⟨i, i1, i2, i3, i4⟩ => .inr ⟨i, hq1 i i1 i4, i2, i3, i4⟩)⟩⟩
      · rw [if_pos (show nI t ≤ nI (rtk g 37 q) from nI_le (by omega) (by omega))]
        obtain ⟨b', x1, x2⟩ := ih f (q + 1) false (by omega) (by omega)
        have hq1 : ∀ i, q ≤ i → rtk g 37 i < t → q + 1 ≤ i := fun i i1 i3 => by
          by_cases hi : i = q
          · rw [hi] at i3; exact absurd i3 hlt
          · omega
        exact ⟨b', x1, by rw [x2]; exact ⟨fun z => z.elim (fun z => absurd z (by decide)) (fun ⟨i, i1, i2, i3⟩ => .inr ⟨i, by omega, i2, i3⟩), fun z => z.elim (fun z => absurd z (by decide)) (fun ⟨i, i1, i2, i3, i4⟩ => .inr ⟨i, hq1 i i1 i3, i2, i3, i4⟩)⟩⟩
theorem told_48 {n L T : Nat} {g2 g : Gs} {B : Nat → Nat} {c t : Nat} (hn : 20000 ≤ n) (hS : ScR n g2 L B g T) (hL : L ≤ 3000) (h : Rn T g 48 c) (hc : c ≤ 400) (hcs : gI g 34 = nI c) (ht : t < T) (hkt : tk g t = 2) : ∀ (d f q : Nat) (b : Bool), q + d = c → d < f → ∃ b' : Bool, (L_X12_told n f).2.1 g (nI t) (sgB b) (nI q) = (L_X12_told n (f - d - 1)).2.2 g (nI t) (sgB b') 0 ∧ (b' = true ↔ (b = true ∨ ∃ i, q ≤ i ∧ i < c ∧ rtk g 48 i < t ∧ Sm g (rtk g 48 i) t)) := by
  have hT := hS.2.2.1
  intro d
  induction d with
  | zero =>
    intro f q b h1 h2
    obtain ⟨f, rfl⟩ : ∃ x, f = x + 1 := ⟨f - 1, by omega⟩
    refine ⟨b, ?_, ⟨fun z => .inl z, fun z => z.elim id (fun ⟨i, i1, i2, _⟩ => by omega)⟩⟩
    show h_X12_told_54 n (L_X12_told n f) g (nI t) (sgB b) (nI q) = _
    unfold h_X12_told_54
    rw [hcs, if_pos (nI_le (show c ≤ q by omega) (by omega))]
    rfl
  | succ d ih =>
    intro f q b h1 h2
    obtain ⟨f, rfl⟩ : ∃ x, f = x + 1 := ⟨f - 1, by omega⟩
    have ef : f + 1 - (d + 1) - 1 = f - d - 1 := by omega
    show ∃ b', h_X12_told_54 n (L_X12_told n f) g (nI t) (sgB b) (nI q) = (L_X12_told n (f + 1 - (d + 1) - 1)).2.2 g (nI t) (sgB b') 0 ∧ _
    rw [ef]
    unfold h_X12_told_54 b_X12_told_94 b_X12_told_90 b_X12_told_95
    rw [hcs, if_neg (show ¬ nI c ≤ nI q from nI_ge (b := c) (by omega) (by omega)), nI_1]
    obtain ⟨r1, r2, r3⟩ := h q (by omega)
    by_cases hb : b = true
    · rw [hb, if_neg (show ¬ sgB true = 0 by decide)]
      obtain ⟨b', x1, x2⟩ := ih f (q + 1) true (by omega) (by omega)
      exact ⟨b', x1, by rw [x2]; exact ⟨fun _ => .inl rfl, fun _ => .inl rfl⟩⟩
    · have hb0 : b = false := by cases b <;> simp_all
      rw [hb0, if_pos (show sgB false = 0 from rfl), grd_t (inB_nI (by omega) (by decide)), nI_clamp (show q < 2 ^ 31 by omega), r1]
      by_cases hlt : rtk g 48 q < t
      · rw [if_neg (show ¬ nI t ≤ nI (rtk g 48 q) from nI_ge (b := t) hlt (by omega)), grd_t (inB_nI (by omega) (by decide))]
        obtain ⟨e, e1, e2⟩ := alike_ok hn hS hL r2 ht r3 hkt
        rw [bnd_s e1]
        by_cases he : e = true
        · rw [if_neg (fun z => by rw [sgB_iff0.mp z] at he; exact absurd he (by decide))]
          obtain ⟨b', x1, x2⟩ := ih f (q + 1) true (by omega) (by omega)
          exact ⟨b', x1, by rw [x2]; exact ⟨fun _ => .inr ⟨q, by omega, by omega, hlt, e2.mp he⟩, fun _ => .inl rfl⟩⟩
        · rw [if_pos (sgB_iff0.mpr (by cases e <;> simp_all))]
          obtain ⟨b', x1, x2⟩ := ih f (q + 1) false (by omega) (by omega)
          have hq1 : ∀ i, q ≤ i → Sm g (rtk g 48 i) t → q + 1 ≤ i := fun i i1 i4 => by
            by_cases hi : i = q
            · rw [hi] at i4; exact absurd (e2.mpr i4) he
            · omega
          exact ⟨b', x1, by rw [x2]; exact ⟨fun z => z.elim (fun z => absurd z (by decide)) (fun ⟨i, i1, i2, i3⟩ => .inr ⟨i, by omega, i2, i3⟩), fun z => z.elim (fun z => absurd z (by decide)) (fun ⟨i, i1, i2, i3, i4⟩ => .inr ⟨i, hq1 i i1 i4, i2, i3, i4⟩)⟩⟩
      · rw [if_pos (show nI t ≤ nI (rtk g 48 q) from nI_le (by omega) (by omega))]
        obtain ⟨b', x1, x2⟩ := ih f (q + 1) false (by omega) (by omega)
        have hq1 : ∀ i, q ≤ i → rtk g 48 i < t → q + 1 ≤ i := fun i i1 i3 => by
          by_cases hi : i = q
          · rw [hi] at i3; exact absurd i3 hlt
          · omega
        exact ⟨b', x1, by rw [x2]; exact ⟨fun z => z.elim (fun z => absurd z (by decide)) (fun ⟨i, i1, i2, i3⟩ => .inr ⟨i, by omega, i2, i3⟩), fun z => z.elim (fun z => absurd z (by decide)) (fun ⟨i, i1, i2, i3, i4⟩ => .inr ⟨i, hq1 i i1 i3, i2, i3, i4⟩)⟩⟩
theorem told_53 {n L T : Nat} {g2 g : Gs} {B : Nat → Nat} {c t : Nat} (hn : 20000 ≤ n) (hS : ScR n g2 L B g T) (hL : L ≤ 3000) (h : Rn T g 53 c) (hc : c ≤ 400) (hcs : gI g 35 = nI c) (ht : t < T) (hkt : tk g t = 2) : ∀ (d f q : Nat) (b : Bool), q + d = c → d < f → ∃ b' : Bool, (L_X12_told n f).2.2 g (nI t) (sgB b) (nI q) = some (sgB b') ∧ (b' = true ↔ (b = true ∨ ∃ i, q ≤ i ∧ i < c ∧ rtk g 53 i < t ∧ Sm g (rtk g 53 i) t)) := by
  have hT := hS.2.2.1
  intro d
  induction d with
  | zero =>
    intro f q b h1 h2
    obtain ⟨f, rfl⟩ : ∃ x, f = x + 1 := ⟨f - 1, by omega⟩
    refine ⟨b, ?_, ⟨fun z => .inl z, fun z => z.elim id (fun ⟨i, i1, i2, _⟩ => by omega)⟩⟩
    show h_X12_told_104 n (L_X12_told n f) g (nI t) (sgB b) (nI q) = _
    unfold h_X12_told_104
    rw [hcs, if_pos (nI_le (show c ≤ q by omega) (by omega)), grd_t (sgB_z b)]
    
  | succ d ih =>
    intro f q b h1 h2
    obtain ⟨f, rfl⟩ : ∃ x, f = x + 1 := ⟨f - 1, by omega⟩
    have ef : f + 1 - (d + 1) - 1 = f - d - 1 := by omega
    show ∃ b', h_X12_told_104 n (L_X12_told n f) g (nI t) (sgB b) (nI q) = some (sgB b') ∧ _
    
    unfold h_X12_told_104 b_X12_told_144 b_X12_told_140 b_X12_told_145
    rw [hcs, if_neg (show ¬ nI c ≤ nI q from nI_ge (b := c) (by omega) (by omega)), nI_1]
    obtain ⟨r1, r2, r3⟩ := h q (by omega)
    by_cases hb : b = true
    · rw [hb, if_neg (show ¬ sgB true = 0 by decide)]
      obtain ⟨b', x1, x2⟩ := ih f (q + 1) true (by omega) (by omega)
      exact ⟨b', x1, by rw [x2]; exact ⟨fun _ => .inl rfl, fun _ => .inl rfl⟩⟩
    · have hb0 : b = false := by cases b <;> simp_all
      rw [hb0, if_pos (show sgB false = 0 from rfl), grd_t (inB_nI (by omega) (by decide)), nI_clamp (show q < 2 ^ 31 by omega), r1]
      by_cases hlt : rtk g 53 q < t
      · rw [if_neg (show ¬ nI t ≤ nI (rtk g 53 q) from nI_ge (b := t) hlt (by omega)), grd_t (inB_nI (by omega) (by decide))]
        obtain ⟨e, e1, e2⟩ := alike_ok hn hS hL r2 ht r3 hkt
        rw [bnd_s e1]
        by_cases he : e = true
        · rw [if_neg (fun z => by rw [sgB_iff0.mp z] at he; exact absurd he (by decide))]
          obtain ⟨b', x1, x2⟩ := ih f (q + 1) true (by omega) (by omega)
          exact ⟨b', x1, by rw [x2]; exact ⟨fun _ => .inr ⟨q, by omega, by omega, hlt, e2.mp he⟩, fun _ => .inl rfl⟩⟩
        · rw [if_pos (sgB_iff0.mpr (by cases e <;> simp_all))]
          obtain ⟨b', x1, x2⟩ := ih f (q + 1) false (by omega) (by omega)
          have hq1 : ∀ i, q ≤ i → Sm g (rtk g 53 i) t → q + 1 ≤ i := fun i i1 i4 => by
            by_cases hi : i = q
            · rw [hi] at i4; exact absurd (e2.mpr i4) he
            · omega
          exact ⟨b', x1, by rw [x2]; exact ⟨fun z => z.elim (fun z => absurd z (by decide)) (fun ⟨i, i1, i2, i3⟩ => .inr ⟨i, by omega, i2, i3⟩), fun z => z.elim (fun z => absurd z (by decide)) (fun ⟨i, i1, i2, i3, i4⟩ => .inr ⟨i, hq1 i i1 i4, i2, i3, i4⟩)⟩⟩
      · rw [if_pos (show nI t ≤ nI (rtk g 53 q) from nI_le (by omega) (by omega))]
        obtain ⟨b', x1, x2⟩ := ih f (q + 1) false (by omega) (by omega)
        have hq1 : ∀ i, q ≤ i → rtk g 53 i < t → q + 1 ≤ i := fun i i1 i3 => by
          by_cases hi : i = q
          · rw [hi] at i3; exact absurd i3 hlt
          · omega
        exact ⟨b', x1, by rw [x2]; exact ⟨fun z => z.elim (fun z => absurd z (by decide)) (fun ⟨i, i1, i2, i3⟩ => .inr ⟨i, by omega, i2, i3⟩), fun z => z.elim (fun z => absurd z (by decide)) (fun ⟨i, i1, i2, i3, i4⟩ => .inr ⟨i, hq1 i i1 i3, i2, i3, i4⟩)⟩⟩
/-- a NAME of a row told ahead of t is the same -/
def TWk (g : Gs) (k c t : Nat) : Prop := ∃ i, i < c ∧ rtk g k i < t ∧ Sm g (rtk g k i) t
def TW (g : Gs) (th be ca t : Nat) : Prop := TWk g 37 th t ∨ TWk g 48 be t ∨ TWk g 53 ca t
theorem told_ok {n L T : Nat} {g2 g : Gs} {B : Nat → Nat} {th be ca t : Nat} (hn : 20000 ≤ n) (hS : ScR n g2 L B g T) (hL : L ≤ 3000) (h1 : Rn T g 37 th) (h2 : Rn T g 48 be) (h3 : Rn T g 53 ca) (hc : th ≤ 400 ∧ be ≤ 400 ∧ ca ≤ 400) (hcn : gI g 33 = nI th ∧ gI g 34 = nI be ∧ gI g 35 = nI ca) (ht : t < T) (hkt : tk g t = 2) : ∃ b : Bool, f_X12_told n g (nI t) = some (sgB b) ∧ (b = true ↔ TW g th be ca t) := by
  obtain ⟨b1, x1, x2⟩ := told_37 hn hS hL h1 hc.1 hcn.1 ht hkt th n 0 false (by omega) (by omega)
  obtain ⟨b2, y1, y2⟩ := told_48 hn hS hL h2 hc.2.1 hcn.2.1 ht hkt be (n - th - 1) 0 b1 (by omega) (by omega)
  obtain ⟨b3, z1, z2⟩ := told_53 hn hS hL h3 hc.2.2 hcn.2.2 ht hkt ca (n - th - 1 - be - 1) 0 b2 (by omega) (by omega)
  refine ⟨b3, ?_, ?_⟩
  · unfold f_X12_told
    rw [show (L_X12_told n n).1 g (nI t) 0 0 = _ from x1, show (L_X12_told n (n - th - 1)).2.1 g (nI t) (sgB b1) 0 = _ from y1]
    exact z1
  · rw [z2, y2, x2]
    unfold TW TWk
    constructor
    · rintro ((((h | ⟨i, _, i2, i3⟩)) | ⟨i, _, i2, i3⟩) | ⟨i, _, i2, i3⟩)
      · exact absurd h (by decide)
      · exact .inl ⟨i, i2, i3⟩
      · exact .inr (.inl ⟨i, i2, i3⟩)
      · exact .inr (.inr ⟨i, i2, i3⟩)
    · rintro (⟨i, i2, i3⟩ | ⟨i, i2, i3⟩ | ⟨i, i2, i3⟩)
      · exact .inl (.inl (.inr ⟨i, by omega, i2, i3⟩))
      · exact .inl (.inr ⟨i, by omega, i2, i3⟩)
      · exact .inr ⟨i, by omega, i2, i3⟩
/-- the class: is a row's NAME told ahead in another group -/
theorem ahead_ok {n L T : Nat} {g2 g gt gp gN : Gs} {B : Nat → Nat} {k r0 c k1 row i t : Nat} (hn : 20000 ≤ n) (hS : ScR n g2 L B g T) (hL : L ≤ 3000) (hTE : ∀ p, p < L → gIA g 5 p = gIA gt 0 p) (h : ∀ i, i < c → Nd T g gt gp k (r0 + i) i) (hI : Inc g k c) (hr : r0 + c ≤ 60) (hrow : Nd T g gt gp k1 row i) (hr2 : row < 60) (ht : rtk g k1 i = t) : ∃ b : Bool, f_X2_isToldAhead n gN gt gp (nI row) (nI r0) (nI c) = some (sgB b) ∧ (b = true ↔ TWk g k c t) := by
  have hT := hS.2.2.1
  obtain ⟨u, x1, x2, x3, x4, x5, x6⟩ := hrow
  have eu : u = t := by rw [← ht]; unfold rtk; rw [x1, nI_clamp (by omega)]
  rw [eu] at x2 x3 x4 x5
  obtain ⟨v, q', f1, f2, f3, f4⟩ := find_ok hn hS hL hTE h hr x2 x3
  have cr : (nI row).toNatClampNeg = row := nI_clamp (by omega)
  unfold f_X2_isToldAhead
  rw [grd_t (inB_nI hr2 (by decide)), grd_t (inB_nI hr2 (by decide)), cr, x4, x5, bnd_s f1]
  rcases f4 with ⟨f4, f5, f6⟩ | ⟨f4, f5⟩
  · obtain ⟨w, w1, w2, w3, w4, w5, w6⟩ := h q' f4
    have ew : rtk g k q' = w := by unfold rtk; rw [w1, nI_clamp (by omega)]
    have l1 := (len10 hS x2 x3).2.2
    have l2 := (len10 hS w2 w3).2.2
    rw [f6, if_neg (nI_ne_m1 (by omega)), nI_add, grd_t (inB_nI (by omega) (by decide)), nI_clamp (show r0 + q' < 2 ^ 31 by omega), w4]
    by_cases hlt : w < t
    · have := ta_lt hS hlt x2
      rw [if_neg (nI_ge (b := ta g t) this (by omega))]
      exact ⟨true, rfl, ⟨fun _ => ⟨q', f4, by rw [ew]; exact hlt, f5⟩, fun _ => rfl⟩⟩
    · have : ta g t ≤ ta g w := ta_mono hS (by omega) w2
      rw [if_pos (nI_le this (by omega))]
      refine ⟨false, rfl, ⟨fun z => absurd z (by decide), fun ⟨i, i1, i2, i3⟩ => ?_⟩⟩
      by_cases hi : i < q'
      · exact absurd i3 (f3 i hi)
      · by_cases hi2 : i = q'
        · rw [hi2, ew] at i2; exact absurd i2 hlt
        · have := hI q' i (by omega) i1
          rw [ew] at this; omega
  · rw [f5, if_pos rfl]
    exact ⟨false, rfl, ⟨fun z => absurd z (by decide), fun ⟨i, i1, i2, i3⟩ => absurd i3 (f3 i (by omega))⟩⟩
/-- the least place of wrong NAMEs so far -/
def NF (g gN : Gs) (V : Nat → Prop) : Prop := (gI gN 1 = -1 ∧ ∀ t, ¬ V t) ∨ ∃ t, V t ∧ gI gN 1 = nI (ta g t) ∧ ta g t < 2 ^ 31 ∧ ∀ t', V t' → ta g t ≤ ta g t'
theorem NF.iff {g gN : Gs} {V V' : Nat → Prop} (h : NF g gN V) (hv : ∀ t, V t ↔ V' t) : NF g gN V' := by
  rcases h with ⟨h1, h2⟩ | ⟨t, h1, h2, h3, h4⟩
  · exact .inl ⟨h1, fun t z => h2 t ((hv t).mpr z)⟩
  · exact .inr ⟨t, (hv t).mp h1, h2, h3, fun t' z => h4 t' ((hv t').mpr z)⟩
theorem NF.add {g gN : Gs} {V : Nat → Prop} (h : NF g gN V) {t : Nat} (ht : ta g t < 2 ^ 31) : ∃ gN', f_X2_refuse gN (nI (ta g t)) = some gN' ∧ NF g gN' (fun u => V u ∨ u = t) ∧ Fr [1] gN gN' := by
  unfold f_X2_refuse b_X2_refuse_16
  rcases h with ⟨h1, h2⟩ | ⟨u, h1, h2, h3, h4⟩
  · rw [if_pos h1]
    exact ⟨_, rfl, .inr ⟨t, .inr rfl, rfl, ht, fun t' z => z.elim (fun z => absurd z (h2 t')) (fun z => by rw [z]; exact Nat.le_refl _)⟩, Fr.sI (by decide) _ _⟩
  · rw [if_neg (by rw [h2]; exact nI_ne_m1 h3), h2]
    by_cases hle : ta g u ≤ ta g t
    · rw [if_pos (nI_le hle ht)]
      exact ⟨_, rfl, .inr ⟨u, .inl h1, h2, h3, fun t' z => z.elim (h4 t') (fun z => by rw [z]; exact hle)⟩, Fr.refl _ _⟩
    · rw [if_neg (nI_ge (b := ta g u) (by omega) h3)]
      exact ⟨_, rfl, .inr ⟨t, .inr rfl, rfl, ht, fun t' z => z.elim (fun z => by have := h4 t' z; omega) (fun z => by rw [z]; exact Nat.le_refl _)⟩, Fr.sI (by decide) _ _⟩
theorem compare_ok {n L T : Nat} {g2 g gt gp : Gs} {B : Nat → Nat} {th be ca k r0 c : Nat} (hn : 20000 ≤ n) (hS : ScR n g2 L B g T) (hL : L ≤ 3000) (hTE : ∀ p, p < L → gIA g 5 p = gIA gt 0 p) (n1 : ∀ i, i < th → Nd T g gt gp 37 i i) (n2 : ∀ b, b < be → Nd T g gt gp 48 (40 + b) b) (n3 : ∀ q, q < ca → Nd T g gt gp 53 (52 + q) q) (i1 : Inc g 37 th) (i2 : Inc g 48 be) (i3 : Inc g 53 ca) (hc : th ≤ 40 ∧ be ≤ 12 ∧ ca ≤ 8) (hgp : gI gp 4 = nI th ∧ gI gp 5 = nI be ∧ gI gp 6 = nI ca) (hk : ∀ i, i < c → Nd T g gt gp k (r0 + i) i) (hr : r0 + c ≤ 60) : ∀ (d f q : Nat) (gN : Gs) (V : Nat → Prop), q + d = c → d < f → NF g gN V → ∃ gN', L_X2_compareAll n f gN gt gp (nI r0) (nI c) (nI (r0 + q)) = some gN' ∧ NF g gN' (fun t => V t ∨ ∃ i, q ≤ i ∧ i < c ∧ rtk g k i = t ∧ TW g th be ca t) ∧ Fr [1] gN gN' := by
  intro d
  induction d with
  | zero =>
    intro f q gN V h1 h2 h3
    obtain ⟨f, rfl⟩ : ∃ x, f = x + 1 := ⟨f - 1, by omega⟩
    refine ⟨gN, ?_, h3.iff (fun t => ⟨fun z => .inl z, fun z => z.elim id (fun ⟨i, i1, i2, _⟩ => by omega)⟩), Fr.refl _ _⟩
    show h_X2_compareAll_3 n (L_X2_compareAll n f) gN gt gp (nI r0) (nI c) (nI (r0 + q)) = _
    unfold h_X2_compareAll_3
    rw [nI_add, if_pos (nI_le (show r0 + c ≤ r0 + q by omega) (by omega))]
  | succ d ih =>
    intro f q gN V h1 h2 h3
    obtain ⟨f, rfl⟩ : ∃ x, f = x + 1 := ⟨f - 1, by omega⟩
    have hT := hS.2.2.1
    have hq := hk q (by omega)
    obtain ⟨b1, x1, x2⟩ := ahead_ok (gN := gN) (r0 := 0) (c := th) hn hS hL hTE (fun i hi => by rw [Nat.zero_add]; exact n1 i hi) i1 (by omega) hq (by omega) rfl
    obtain ⟨b2, y1, y2⟩ := ahead_ok (gN := gN) (r0 := 40) (c := be) hn hS hL hTE n2 i2 (by omega) hq (by omega) rfl
    obtain ⟨b3, z1, z2⟩ := ahead_ok (gN := gN) (r0 := 52) (c := ca) hn hS hL hTE n3 i3 (by omega) hq (by omega) rfl
    have hrn := hq.rn hT
    have e58 : b_X2_compareAll_58 n (L_X2_compareAll n f) gN gt gp (nI r0) (nI c) (nI (r0 + q)) = bnd (f_X2_refuse gN (nI (ta g (rtk g k q)))) (fun q_4 => L_X2_compareAll n f q_4 gt gp (nI r0) (nI c) (nI (r0 + (q + 1)))) := by
      obtain ⟨u, w1, w2, w3, w4, w5, w6⟩ := hq
      have eu : rtk g k q = u := by unfold rtk; rw [w1, nI_clamp (by omega)]
      unfold b_X2_compareAll_58 b_X2_compareAll_69
      rw [grd_t (inB_nI (by omega) (by decide)), nI_clamp (show r0 + q < 2 ^ 31 by omega), w4, eu, nI_1]; rfl
    have htl : ta g (rtk g k q) < 2 ^ 31 := by have := (len10 hS hrn.2.1 hrn.2.2).2.2; omega
    have wrong : TW g th be ca (rtk g k q) → ∃ gN', b_X2_compareAll_58 n (L_X2_compareAll n f) gN gt gp (nI r0) (nI c) (nI (r0 + q)) = some gN' ∧ NF g gN' (fun t => V t ∨ ∃ i, q ≤ i ∧ i < c ∧ rtk g k i = t ∧ TW g th be ca t) ∧ Fr [1] gN gN' := by
      intro hw
      obtain ⟨gA, a1, a2, a3⟩ := h3.add htl
      obtain ⟨gB, c1, c2, c3⟩ := ih f (q + 1) gA _ (by omega) (by omega) a2
      refine ⟨gB, by rw [e58, bnd_s a1]; exact c1, c2.iff (fun t => ⟨?_, ?_⟩), a3.trans c3⟩
      · rintro ((h | h) | ⟨i, i1, i2, i3⟩)
        · exact .inl h
        · exact .inr ⟨q, by omega, by omega, h.symm, by rw [h]; exact hw⟩
        · exact .inr ⟨i, by omega, i2, i3⟩
      · rintro (h | ⟨i, i1, i2, i3, i4⟩)
        · exact .inl (.inl h)
        · by_cases hi : i = q
          · rw [hi] at i3; exact .inl (.inr i3.symm)
          · exact .inr ⟨i, by omega, i2, i3, i4⟩
    show ∃ gN', h_X2_compareAll_3 n (L_X2_compareAll n f) gN gt gp (nI r0) (nI c) (nI (r0 + q)) = some gN' ∧ _
    unfold h_X2_compareAll_3
    rw [nI_add, if_neg (show ¬ nI (r0 + c) ≤ nI (r0 + q) from nI_ge (b := r0 + c) (by omega) (by omega)), hgp.1, hgp.2.1, hgp.2.2, bnd_s (show f_X2_isToldAhead n gN gt gp (nI (r0 + q)) 0 (nI th) = _ from x1)]
    by_cases hb1 : b1 = true
    · rw [if_neg (fun z => by rw [sgB_iff0.mp z] at hb1; exact absurd hb1 (by decide))]
      exact wrong (.inl (x2.mp hb1))
    · rw [if_pos (sgB_iff0.mpr (by cases b1 <;> simp_all)), bnd_s (show f_X2_isToldAhead n gN gt gp (nI (r0 + q)) 40 (nI be) = _ from y1)]
      by_cases hb2 : b2 = true
      · rw [if_neg (fun z => by rw [sgB_iff0.mp z] at hb2; exact absurd hb2 (by decide))]
        exact wrong (.inr (.inl (y2.mp hb2)))
      · rw [if_pos (sgB_iff0.mpr (by cases b2 <;> simp_all)), bnd_s (show f_X2_isToldAhead n gN gt gp (nI (r0 + q)) 52 (nI ca) = _ from z1)]
        by_cases hb3 : b3 = true
        · rw [if_neg (fun z => by rw [sgB_iff0.mp z] at hb3; exact absurd hb3 (by decide))]
          exact wrong (.inr (.inr (z2.mp hb3)))
        · rw [if_pos (sgB_iff0.mpr (by cases b3 <;> simp_all))]
          unfold b_X2_compareAll_69
          rw [nI_1]
          obtain ⟨gB, c1, c2, c3⟩ := ih f (q + 1) gN V (by omega) (by omega) h3
          refine ⟨gB, c1, c2.iff (fun t => ⟨?_, ?_⟩), c3⟩
          · rintro (h | ⟨i, i1, i2, i3⟩)
            · exact .inl h
            · exact .inr ⟨i, by omega, i2, i3⟩
          · rintro (h | ⟨i, i1, i2, i3, i4⟩)
            · exact .inl h
            · refine .inr ⟨i, ?_, i2, i3, i4⟩
              by_cases hi : i = q
              · rw [hi] at i3
                rw [← i3] at i4
                rcases i4 with z | z | z
                · exact absurd (x2.mpr z) hb1
                · exact absurd (y2.mpr z) hb2
                · exact absurd (z2.mpr z) hb3
              · omega
