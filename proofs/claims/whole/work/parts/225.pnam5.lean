/-! names: both sides of the whole of it -/
theorem compare_all {n L T : Nat} {g2 g gt gp : Gs} {B : Nat → Nat} {th be ca k r0 c : Nat} (hn : 20000 ≤ n) (hS : ScR n g2 L B g T) (hL : L ≤ 3000) (hTE : ∀ p, p < L → gIA g 5 p = gIA gt 0 p) (n1 : ∀ i, i < th → Nd T g gt gp 37 i i) (n2 : ∀ b, b < be → Nd T g gt gp 48 (40 + b) b) (n3 : ∀ q, q < ca → Nd T g gt gp 53 (52 + q) q) (i1 : Inc g 37 th) (i2 : Inc g 48 be) (i3 : Inc g 53 ca) (hc : th ≤ 40 ∧ be ≤ 12 ∧ ca ≤ 8) (hgp : gI gp 4 = nI th ∧ gI gp 5 = nI be ∧ gI gp 6 = nI ca) (hk : ∀ i, i < c → Nd T g gt gp k (r0 + i) i) (hr : r0 + c ≤ 60) {gN : Gs} {V : Nat → Prop} (hV : NF g gN V) : ∃ gN', f_X2_compareAll n gN gt gp (nI r0) (nI c) = some gN' ∧ NF g gN' (fun t => V t ∨ ∃ i, i < c ∧ rtk g k i = t ∧ TW g th be ca t) ∧ Fr [1] gN gN' := by
  obtain ⟨gN', a1, a2, a3⟩ := compare_ok (k := k) hn hS hL hTE n1 n2 n3 i1 i2 i3 hc hgp hk hr c n 0 gN V (by omega) (by omega) hV
  exact ⟨gN', a1, a2.iff (fun t => ⟨fun y => y.imp id (fun ⟨i, _, z⟩ => ⟨i, z⟩), fun y => y.imp id (fun ⟨i, z⟩ => ⟨i, Nat.zero_le _, z⟩)⟩), a3⟩
theorem names_both {n L T : Nat} {g2 g gt gp gc : Gs} {B : Nat → Nat} {E : Nat → Nat × Nat × Nat} {j th be ca f A M : Nat} {FA : Nat → Nat} (hn : 20000 ≤ n) (hS : ScR n g2 L B g T) (hL : L ≤ 3000) (hTE : ∀ p, p < L → gIA g 5 p = gIA gt 0 p) (hP : PN T g gt gp gc j th be ca f A M E FA) (hj : j < T) (hc : th ≤ 40 ∧ be ≤ 12 ∧ ca ≤ 8) (hcn : gI g 33 = nI th ∧ gI g 34 = nI be ∧ gI g 35 = nI ca) (hgp : gI gp 4 = nI th ∧ gI gp 5 = nI be ∧ gI gp 6 = nI ca) (h27 : gI g 27 = nI M) (hM : M ≤ 3000) (hf : f ≤ 92) (h18 : gI gc 18 = nI f ∧ gI gc 8 = nI A) (hA : A ≤ 840) (hCE : ∀ i, i < A → CE g gc i (E i)) (gN : Gs) :
    ∃ b g' v gN' gc', f_X12_means n g = some (b, g') ∧ f_X2_firstFault n gN gt gp gc = some (v, gN', gc') ∧ Fr [15, 21, 22] g g' ∧ (∀ q, q < 2000 → gIA g' 15 q = gIA g 15 q) ∧ Fr [5] gc gc' ∧ Fr [1] gN gN' ∧
    ((b = 0 ∧ gI g' 21 = 3 ∧ gI g' 22 = v ∧ ∃ t, t < T ∧ v = nI (ta g t)) ∨
     (b = 1 ∧ v = -1 ∧ Fr [15] g g' ∧ (∀ a, ¬ opN (E a).1 → gIA g' 15 (2000 + a) = gIA g 15 (2000 + a) ∧ gIA gc' 5 a = gIA gc 5 a) ∧
      ∀ F a, F < f → FA F ≤ a → a < FA (F + 1) → opN (E a).1 → ∃ k, Rs g gc E th ca F a k ∧ gIA g' 15 (2000 + a) = nI k ∧ gIA gc' 5 a = nI k)) := by
  have hP0 := hP
  obtain ⟨⟨f1, f2, f3⟩, ⟨n1, n2, n3, i1, i2, i3⟩, m1, m2, m3, m4, m5, m6⟩ := hP
  have hT := hS.2.2.1
  -- the reference
  obtain ⟨b, g', a1, a2, a3, a4⟩ := means_loop hn hS hL hP0 hj hc hcn h27 hM hA hCE M n 0 g (by omega) (by omega) (Fr.refl _ _) (fun _ _ => rfl) (fun _ _ => rfl) (fun m' h => by omega) (fun m' h => by omega)
  -- the class
  have c0 : NF g (sI gN 1 (-1 : Int32)) (fun _ => False) := .inl ⟨rfl, fun _ h => h⟩
  obtain ⟨gN1, d1, d2, d3⟩ := compare_all (k := 37) (r0 := 0) (c := th) hn hS hL hTE n1 n2 n3 i1 i2 i3 hc hgp (fun i hi => by rw [Nat.zero_add]; exact n1 i hi) (by omega) c0
  obtain ⟨gN2, d4, d5, d6⟩ := compare_all (k := 48) (r0 := 40) (c := be) hn hS hL hTE n1 n2 n3 i1 i2 i3 hc hgp n2 (by omega) d2
  obtain ⟨gN3, d7, d8, d9⟩ := compare_all (k := 53) (r0 := 52) (c := ca) hn hS hL hTE n1 n2 n3 i1 i2 i3 hc hgp n3 (by omega) d5
  obtain ⟨gN4, gc', r1, r2, r3, r4, r5, r6⟩ := resolve_all hn hS hL hTE hP0 hj hc hgp hf h18 hA hCE f n 0 gN3 gc _ (by omega) (by omega) d8 (Fr.refl _ _) (fun _ _ => rfl)
  have eF : f_X2_firstFault n gN gt gp gc = some (gI gN4 1, gN4, gc') := by
    unfold f_X2_firstFault
    rw [hgp.1, hgp.2.1, hgp.2.2]
    rw [show f_X2_compareAll n (sI gN 1 (-1 : Int32)) gt gp (0 : Int32) (nI th) = some gN1 from d1, bnd_s rfl, show f_X2_compareAll n gN1 gt gp (40 : Int32) (nI be) = some gN2 from d4, bnd_s rfl, show f_X2_compareAll n gN2 gt gp (52 : Int32) (nI ca) = some gN3 from d7, bnd_s rfl]
    unfold f_X2_resolve
    rw [show (L_X2_resolve n n).1 gN3 gt gp gc (0 : Int32) = some (gN4, gc') from r1, bnd_s rfl]
  -- wrong NAMEs on both sides
  have tI : ∀ {x : Nat}, x < T → (nI x).toNatClampNeg = x := fun hx => nI_clamp (by omega)
  have told : ∀ {q c : Nat}, (∀ i, i < c → ∃ m, m < M ∧ gIA g 28 m = 0 ∧ gIA g q i = nI (nt g m)) → ∀ {i}, i < c → ∃ m, m < M ∧ gIA g 28 m = 0 ∧ rtk g q i = nt g m := by
    intro q c h i hi
    obtain ⟨m, x1, x2, x3⟩ := h i hi
    exact ⟨m, x1, x2, by unfold rtk; rw [x3]; exact tI (by have := (m1 m x1).2.1; omega)⟩
  have neq : ∀ {m m'}, m < M → m' < M → nt g m = nt g m' → m = m' := by
    intro m m' h1 h2 h3
    by_cases hlt : m < m'
    · have := m2 m m' hlt h2; omega
    · by_cases hgt : m' < m
      · have := m2 m' m hgt h1; omega
      · omega
  have hV : ∀ t, (((((False ∨ ∃ i, i < th ∧ rtk g 37 i = t ∧ TW g th be ca t) ∨ ∃ i, i < be ∧ rtk g 48 i = t ∧ TW g th be ca t) ∨ ∃ i, i < ca ∧ rtk g 53 i = t ∧ TW g th be ca t)) ∨ ∃ F' a, 0 ≤ F' ∧ F' < f ∧ FA F' ≤ a ∧ a < FA (F' + 1) ∧ opN (E a).1 ∧ (E a).2.2 = t ∧ Uns g gc E th ca F' a) ↔ ∃ m, m < M ∧ nt g m = t ∧ Wrg g gc E FA th be ca f m := by
    intro t
    constructor
    · rintro ((((h | ⟨i, x1, x2, x3⟩) | ⟨i, x1, x2, x3⟩) | ⟨i, x1, x2, x3⟩) | ⟨F, a, x0, x1, x2, x3, x4, x5, x6⟩)
      · exact h.elim
      · obtain ⟨m, y1, y2, y3⟩ := told m4 x1
        exact ⟨m, y1, by omega, .inl ⟨y2, by rw [← y3, x2]; exact x3⟩⟩
      · obtain ⟨m, y1, y2, y3⟩ := told m5 x1
        exact ⟨m, y1, by omega, .inl ⟨y2, by rw [← y3, x2]; exact x3⟩⟩
      · obtain ⟨m, y1, y2, y3⟩ := told m6 x1
        exact ⟨m, y1, by omega, .inl ⟨y2, by rw [← y3, x2]; exact x3⟩⟩
      · obtain ⟨m, y1, y2, y3, y4⟩ := m3 F a x1 x2 x3 x4
        exact ⟨m, y1, by omega, .inr ⟨y4, F, a, ⟨x1, x2, x3, x4, y2.symm, y3⟩, x6⟩⟩
    · rintro ⟨m, x1, x2, ⟨x3, x4⟩ | ⟨x3, F, a, ⟨y1, y2, y3, y4, y5, y6⟩, x4⟩⟩
      · rw [x2] at x4
        rcases (m1 m x1).2.2 with ⟨_, ⟨i, z1, z2⟩ | ⟨i, z1, z2⟩ | ⟨i, z1, z2⟩⟩ | ⟨F, a, x, y, z1, z2, z3, z4, z5, z6, z7, _⟩
        · exact .inl (.inl (.inl (.inr ⟨i, z1, by unfold rtk; rw [z2, tI (by have := (m1 m x1).2.1; omega)]; exact x2, x4⟩)))
        · exact .inl (.inl (.inr ⟨i, z1, by unfold rtk; rw [z2, tI (by have := (m1 m x1).2.1; omega)]; exact x2, x4⟩))
        · exact .inl (.inr ⟨i, z1, by unfold rtk; rw [z2, tI (by have := (m1 m x1).2.1; omega)]; exact x2, x4⟩)
        · rw [x3] at z7
          split at z7 <;> exact absurd z7 (by decide)
      · exact .inr ⟨F, a, Nat.zero_le _, y1, y2, y3, y4, by omega, x4⟩
  have r2' := r2.iff hV
  have hN1 : Fr [1] gN gN4 := ((((Fr.sI (by decide) _ _).trans d3).trans d6).trans d9).trans r4
  refine ⟨b, g', gI gN4 1, gN4, gc', a1, eF, a2, a3, r3, hN1, ?_⟩
  rcases a4 with ⟨b1, b2, m0, b3, b4, b5, b6⟩ | ⟨b1, b2, b3, b4, b5⟩
  · rcases r2' with ⟨y1, y2⟩ | ⟨t, ⟨m', z1, z2, z3⟩, y2, y3, y4⟩
    · exact absurd ⟨m0, b3, rfl, b4⟩ (y2 (nt g m0))
    · have h0 : m0 ≤ m' := by
        by_cases h : m' < m0
        · exact absurd z3 (b5 m' h)
        · omega
      have hT0 : nt g m0 < T := by have := (m1 m0 b3).2.1; omega
      have hT1 : nt g m' < T := by have := (m1 m' z1).2.1; omega
      have e1 : nt g m0 ≤ nt g m' := by
        by_cases h : m0 = m'
        · rw [h]; exact Nat.le_refl _
        · exact Nat.le_of_lt (m2 m0 m' (by omega) z1)
      have e2 := ta_mono hS e1 hT1
      have e3 := y4 (nt g m0) ⟨m0, b3, rfl, b4⟩
      rw [← z2] at e3 y2
      refine .inl ⟨b1, b2, ?_, nt g m0, hT0, ?_⟩
      · rw [b6, y2, show ta g (nt g m0) = ta g (nt g m') by omega]
      · rw [y2, show ta g (nt g m0) = ta g (nt g m') by omega]
  · have hno : ∀ t, ¬ ∃ m, m < M ∧ nt g m = t ∧ Wrg g gc E FA th be ca f m := fun t ⟨m, x1, _, x2⟩ => b3 m x1 x2
    have hv : gI gN4 1 = -1 := by
      rcases r2' with ⟨y1, y2⟩ | ⟨t, z, _⟩
      · exact y1
      · exact absurd z (hno t)
    refine .inr ⟨b1, hv, b2, fun a ha => ⟨b4 a ha, r5 a (.inr ha)⟩, fun F a x1 x2 x3 x4 => ?_⟩
    obtain ⟨m, y1, y2, y3, y4⟩ := m3 F a x1 x2 x3 x4
    obtain ⟨k, k1, k2⟩ := b5 m y1 F a ⟨x1, x2, x3, x4, y2.symm, y3⟩
    rcases r6 F a (Nat.zero_le _) x1 x2 x3 x4 with hU | ⟨k', l1, l2⟩
    · exact absurd k1.2.1 (hU k k1.1)
    · have ek : k' = k := by
        by_cases h1 : k < k'
        · exact absurd k1.2.1 (l1.2.2 k h1)
        · by_cases h2 : k' < k
          · exact absurd l1.2.1 (k1.2.2 k' h2)
          · omega
      exact ⟨k, k1, k2, by rw [l2, ek]⟩
