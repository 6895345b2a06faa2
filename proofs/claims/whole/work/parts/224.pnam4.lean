/-! names: the same fault on both sides, or the same meanings -/
theorem FA_mono {FA : Nat → Nat} {f : Nat} (h : ∀ F, F < f → FA F ≤ FA (F + 1)) : ∀ {F F' : Nat}, F ≤ F' → F' ≤ f → FA F ≤ FA F' := by
  intro F F' h1 h2
  induction F' with
  | zero => rw [show F = 0 by omega]; exact Nat.le_refl _
  | succ F' ih =>
    by_cases hh : F = F' + 1
    · rw [hh]; exact Nat.le_refl _
    · have := ih (by omega) (by omega)
      have := h F' (by omega)
      omega
theorem min_lt {a b : Nat} (ha : a < 2 ^ 31) (hb : b < 2 ^ 31) : (if nI a < nI b then nI a else nI b) = nI (min a b) := by
  by_cases h : a < b
  · rw [if_pos (nI_lt h hb), Nat.min_eq_left (by omega)]
  · rw [if_neg (nI_nlt (by omega) ha), Nat.min_eq_right (by omega)]
theorem resolve_all {n L T : Nat} {g2 g gt gp gc : Gs} {B : Nat → Nat} {E : Nat → Nat × Nat × Nat} {j th be ca f A M : Nat} {FA : Nat → Nat} (hn : 20000 ≤ n) (hS : ScR n g2 L B g T) (hL : L ≤ 3000) (hTE : ∀ p, p < L → gIA g 5 p = gIA gt 0 p) (hP : PN T g gt gp gc j th be ca f A M E FA) (hj : j < T) (hc : th ≤ 40 ∧ be ≤ 12 ∧ ca ≤ 8) (hgp : gI gp 4 = nI th ∧ gI gp 5 = nI be ∧ gI gp 6 = nI ca) (hf : f ≤ 92) (h18 : gI gc 18 = nI f ∧ gI gc 8 = nI A) (hA : A ≤ 840) (hCE : ∀ i, i < A → CE g gc i (E i)) : ∀ (d k F : Nat) (gN gx : Gs) (V : Nat → Prop), F + d = f → 2 * d + (A - FA F) + 2 ≤ k → NF g gN V → Fr [5] gc gx → (∀ a, FA F ≤ a → gIA gx 5 a = gIA gc 5 a) → ∃ gN' gx', (L_X2_resolve n k).1 gN gt gp gx (nI F) = some (gN', gx') ∧ NF g gN' (fun t => V t ∨ ∃ F' a, F ≤ F' ∧ F' < f ∧ FA F' ≤ a ∧ a < FA (F' + 1) ∧ opN (E a).1 ∧ (E a).2.2 = t ∧ Uns g gc E th ca F' a) ∧ Fr [5] gc gx' ∧ Fr [1] gN gN' ∧ (∀ a, (a < FA F ∨ ¬ opN (E a).1) → gIA gx' 5 a = gIA gx 5 a) ∧ (∀ F' a, F ≤ F' → F' < f → FA F' ≤ a → a < FA (F' + 1) → opN (E a).1 → Uns g gc E th ca F' a ∨ ∃ k, Rs g gc E th ca F' a k ∧ gIA gx' 5 a = nI k) := by
  obtain ⟨⟨f1, f2, f3⟩, ⟨n1, n2, n3, i1, i2, i3⟩, m1, m2, m3, m4, m5, m6⟩ := hP
  have mono : ∀ {F F' : Nat}, F ≤ F' → F' ≤ f → FA F ≤ FA F' := FA_mono (fun F hF => (f3 F hF).2.2.1)
  intro d
  induction d with
  | zero =>
    intro k F gN gx V h1 h2 h3 h4 h5
    obtain ⟨k, rfl⟩ : ∃ x, k = x + 1 := ⟨k - 1, by omega⟩
    refine ⟨gN, gx, ?_, h3.iff (fun t => ⟨fun y => .inl y, fun y => y.elim id (fun ⟨i, a, i1, i2, _⟩ => by omega)⟩), h4, Fr.refl _ _, fun _ _ => rfl, fun F' a a1 a2 => by omega⟩
    show h_X2_resolve_2 n (L_X2_resolve n k) gN gt gp gx (nI F) = _
    unfold h_X2_resolve_2
    rw [(h4 18 (by decide)).1, h18.1, if_pos (nI_le (show f ≤ F by omega) (by omega))]
  | succ d ih =>
    intro k F gN gx V h1 h2 h3 h4 h5
    obtain ⟨k, rfl⟩ : ∃ x, k = x + 1 := ⟨k - 1, by omega⟩
    have hF : F < f := by omega
    obtain ⟨r1, r2, r3, r4, mm, r5, _⟩ := f3 F hF
    have cF : (nI F).toNatClampNeg = F := nI_clamp (by omega)
    have bF : inB (nI F) 92 = true := inB_nI (by omega) (by decide)
    -- an entry with a NAME and its row
    have hrow : ∀ a, FA F ≤ a → a < FA (F + 1) → opN (E a).1 → (E a).2.2 < T ∧ ∃ x y, x ≤ 40 ∧ y ≤ 8 ∧ gIA gc 15 F = nI x ∧ gIA gc 16 F = nI y := by
      intro a a1 a2 a3
      obtain ⟨m, y1, y2, y3, y4⟩ := m3 F a hF a1 a2 a3
      obtain ⟨z1, z2, z3⟩ := m1 m y1
      refine ⟨by omega, ?_⟩
      rcases z3 with ⟨z, _⟩ | ⟨F', a', x, y, x1, x2, x3, x4, x5, x6, x7, x8, x9, x10, x11, x12⟩
      · exact absurd z y4
      · have ea : a' = a := by
          have := x6.symm.trans y3
          have := (nI_eq (by have := (f3 F' x1).2.2.2.1; omega) (by omega)).mp this
          omega
        have eF : F' = F := by
          by_cases hlt : F' < F
          · have := mono (show F' + 1 ≤ F by omega) (by omega); omega
          · by_cases hgt : F < F'
            · have := mono (show F + 1 ≤ F' by omega) (by omega); omega
            · omega
        rw [eF] at x10 x11
        exact ⟨x, y, x8, x9, x10, x11⟩
    have hx : ∀ a, FA F ≤ a → a < FA (F + 1) → opN (E a).1 → (E a).2.2 < T ∧ (if (E a).1 = 64 then (if (gI gp 6) < (gIA gc 16 F) then (gI gp 6) else (gIA gc 16 F)) else (if (gI gp 4) < (gIA gc 15 F) then (gI gp 4) else (gIA gc 15 F))) = nI (lim gc E th ca F a) := by
      intro a a1 a2 a3
      obtain ⟨w1, x, y, w2, w3, w4, w5⟩ := hrow a a1 a2 a3
      refine ⟨w1, ?_⟩
      have e15 : rtk gc 15 F = x := by unfold rtk; rw [w4, nI_clamp (by omega)]
      have e16 : rtk gc 16 F = y := by unfold rtk; rw [w5, nI_clamp (by omega)]
      unfold lim
      rw [e15, e16, w4, w5, hgp.1, hgp.2.2]
      by_cases c64 : (E a).1 = 64
      · rw [if_pos c64, if_pos c64, min_lt (by omega) (by omega)]
      · rw [if_neg c64, if_neg c64, min_lt (by omega) (by omega)]
    obtain ⟨gN1, gx1, y1, y2, y3, y4, y5, y6⟩ := resolve_in (f0 := FA F) (z := FA (F + 1)) (A := A) hn hS hL hTE n1 n3 ⟨hc.1, hc.2.2⟩ ⟨hF, hf⟩ h18 r4 hA r2 (fun a a1 a2 => r5.op a a1 a2) hCE hx (FA (F + 1) - FA F) k (FA F) gN gx V (Nat.le_refl _) (by omega) (by omega) h3 h4 (fun a a1 _ => h5 a a1)
    obtain ⟨gN', gx', z1, z2, z3, z4, z5, z6⟩ := ih (k - (FA (F + 1) - FA F) - 1) (F + 1) gN1 gx1 _ (by omega) (by omega) y2 y3 (fun a a1 => by rw [y5 a (.inr (.inl a1))]; exact h5 a (by omega))
    refine ⟨gN', gx', ?_, z2.iff (fun t => ⟨?_, ?_⟩), z3, y4.trans z4, fun a ha => ?_, fun F' a a1 a2 a3 a4 a5 => ?_⟩
    · have eb : f_X0_beginOf gx (nI F) = some (nI (FA F)) := by
        rw [beginOf_fr h4 (by decide)]
        exact begin_of hF hf h18.1 r1
      show h_X2_resolve_2 n (L_X2_resolve n k) gN gt gp gx (nI F) = _
      unfold h_X2_resolve_2
      rw [(h4 18 (by decide)).1, h18.1, if_neg (show ¬ nI f ≤ nI F from nI_ge (b := f) hF (by omega)), grd_t bF, grd_t bF, bnd_s eb, cF, (h4 15 (by decide)).2.2.2.1, (h4 16 (by decide)).2.2.2.1, y1]
      exact z1
    · rintro ((h | ⟨a, a1, a2, a3⟩) | ⟨F', a, a1, a2, a3⟩)
      · exact .inl h
      · exact .inr ⟨F, a, Nat.le_refl _, hF, a1, a2, a3⟩
      · exact .inr ⟨F', a, by omega, a2, a3⟩
    · rintro (h | ⟨F', a, a1, a2, a3, a4, a5⟩)
      · exact .inl (.inl h)
      · by_cases hh : F' = F
        · rw [hh] at a3 a4 a5
          exact .inl (.inr ⟨a, a3, a4, a5⟩)
        · exact .inr ⟨F', a, by omega, a2, a3, a4, a5⟩
    · rw [z5 a (by rcases ha with h | h; exact .inl (by omega); exact .inr h), y5 a (by rcases ha with h | h; exact .inl h; exact .inr (.inr h))]
    · by_cases hh : F' = F
      · rw [hh] at a3 a4 ⊢
        rcases y6 a a3 a4 a5 with h | ⟨q, q1, q2⟩
        · exact .inl h
        · exact .inr ⟨q, q1, by rw [z5 a (.inl a4)]; exact q2⟩
      · exact z6 F' a (by omega) a2 a3 a4 a5
/-- row m of the table of names stands for entry a of formula F -/
def NUe (g : Gs) (E : Nat → Nat × Nat × Nat) (FA : Nat → Nat) (f m F a : Nat) : Prop := F < f ∧ FA F ≤ a ∧ a < FA (F + 1) ∧ opN (E a).1 ∧ (E a).2.2 = nt g m ∧ gIA g 32 m = nI (2000 + a)
def Wrg (g gc : Gs) (E : Nat → Nat × Nat × Nat) (FA : Nat → Nat) (th be ca f m : Nat) : Prop := (gIA g 28 m = 0 ∧ TW g th be ca (nt g m)) ∨ (¬ gIA g 28 m = 0 ∧ ∃ F a, NUe g E FA f m F a ∧ Uns g gc E th ca F a)
theorem means_loop {n L T : Nat} {g2 g gt gp gc : Gs} {B : Nat → Nat} {E : Nat → Nat × Nat × Nat} {j th be ca f A M : Nat} {FA : Nat → Nat} (hn : 20000 ≤ n) (hS : ScR n g2 L B g T) (hL : L ≤ 3000) (hP : PN T g gt gp gc j th be ca f A M E FA) (hj : j < T) (hc : th ≤ 40 ∧ be ≤ 12 ∧ ca ≤ 8) (hcn : gI g 33 = nI th ∧ gI g 34 = nI be ∧ gI g 35 = nI ca) (h27 : gI g 27 = nI M) (hM : M ≤ 3000) (hA : A ≤ 840) (hCE : ∀ i, i < A → CE g gc i (E i)) : ∀ (d k m : Nat) (gx : Gs), m + d = M → d < k → Fr [15] g gx → (∀ q, q < 2000 → gIA gx 15 q = gIA g 15 q) → (∀ a, ¬ opN (E a).1 → gIA gx 15 (2000 + a) = gIA g 15 (2000 + a)) → (∀ m', m' < m → ¬ Wrg g gc E FA th be ca f m') → (∀ m', m' < m → ∀ F a, NUe g E FA f m' F a → ∃ k, Rs g gc E th ca F a k ∧ gIA gx 15 (2000 + a) = nI k) → ∃ b g', L_X12_means n k gx (nI m) = some (b, g') ∧ Fr [15, 21, 22] g g' ∧ (∀ q, q < 2000 → gIA g' 15 q = gIA g 15 q) ∧ ((b = 0 ∧ gI g' 21 = 3 ∧ ∃ m0, m0 < M ∧ Wrg g gc E FA th be ca f m0 ∧ (∀ m', m' < m0 → ¬ Wrg g gc E FA th be ca f m') ∧ gI g' 22 = nI (ta g (nt g m0))) ∨ (b = 1 ∧ Fr [15] g g' ∧ (∀ m', m' < M → ¬ Wrg g gc E FA th be ca f m') ∧ (∀ a, ¬ opN (E a).1 → gIA g' 15 (2000 + a) = gIA g 15 (2000 + a)) ∧ ∀ m', m' < M → ∀ F a, NUe g E FA f m' F a → ∃ k, Rs g gc E th ca F a k ∧ gIA g' 15 (2000 + a) = nI k)) := by
  obtain ⟨⟨f1, f2, f3⟩, ⟨n1, n2, n3, i1, i2, i3⟩, m1, m2, m3, m4, m5, m6⟩ := hP
  have hT := hS.2.2.1
  have mono : ∀ {F F' : Nat}, F ≤ F' → F' ≤ f → FA F ≤ FA F' := FA_mono (fun F hF => (f3 F hF).2.2.1)
  have R1 : Rn T g 37 th := fun i hi => (n1 i hi).rn hT
  have R2 : Rn T g 48 be := fun i hi => (n2 i hi).rn hT
  have R3 : Rn T g 53 ca := fun i hi => (n3 i hi).rn hT
  intro d
  induction d with
  | zero =>
    intro k m gx h1 h2 h3 h4 h5 h6 h7
    obtain ⟨k, rfl⟩ : ∃ x, k = x + 1 := ⟨k - 1, by omega⟩
    have hm : m = M := by omega
    refine ⟨1, gx, ?_, h3.mono (by decide), h4, .inr ⟨rfl, h3, fun m' hm' => h6 m' (by omega), h5, fun m' hm' => h7 m' (by omega)⟩⟩
    show h_X12_means_2 n (L_X12_means n k) gx (nI m) = _
    unfold h_X12_means_2
    rw [(h3 27 (by decide)).1, h27, if_pos (nI_le (show M ≤ m by omega) (by omega))]
  | succ d ih =>
    intro k m gx h1 h2 h3 h4 h5 h6 h7
    obtain ⟨k, rfl⟩ : ∃ x, k = x + 1 := ⟨k - 1, by omega⟩
    have hm : m < M := by omega
    obtain ⟨y1, y2, y3⟩ := m1 m hm
    have hX : nTk [15] := by decide
    have et := tok_same h3 hX
    have hSx := hS.base h3 hX
    have sl : ∀ q, q ≠ 15 → gIA gx q = gIA g q := fun q hq => (h3 q (by simp; exact hq)).2.2.2.1
    have smx : ∀ t u, Sm gx t u ↔ Sm g t u := fun t u => by unfold Sm; rw [et.2.1, et.2.2.1, sl 5 (by decide)]
    have rtx : ∀ q i, q ≠ 15 → rtk gx q i = rtk g q i := fun q i hq => by unfold rtk; rw [sl q hq]
    have Rx : ∀ {q c}, q ≠ 15 → Rn T g q c → Rn T gx q c := fun {q c} hq h i hi => by rw [sl q hq, rtx q i hq, et.1]; exact h i hi
    have bm : inB (nI m) 3001 = true := inB_nI (by omega) (by decide)
    have cm : (nI m).toNatClampNeg = m := nI_clamp (by omega)
    have htT : nt g m < T := by omega
    -- a wrong NAME ends it
    have bad : Wrg g gc E FA th be ca f m → ∀ {F : Option (Int32 × Gs)}, F = grd (inB (nI (nt g m)) 3001) (bnd (f_X12_fault gx 3 (gIA gx 10 (nI (nt g m)).toNatClampNeg)) (fun q_8 => grd (zB q_8.1) (some (q_8.1, q_8.2)))) → ∃ b g', F = some (b, g') ∧ Fr [15, 21, 22] g g' ∧ (∀ q, q < 2000 → gIA g' 15 q = gIA g 15 q) ∧ ((b = 0 ∧ gI g' 21 = 3 ∧ ∃ m0, m0 < M ∧ Wrg g gc E FA th be ca f m0 ∧ (∀ m', m' < m0 → ¬ Wrg g gc E FA th be ca f m') ∧ gI g' 22 = nI (ta g (nt g m0))) ∨ (b = 1 ∧ Fr [15] g g' ∧ (∀ m', m' < M → ¬ Wrg g gc E FA th be ca f m') ∧ (∀ a, ¬ opN (E a).1 → gIA g' 15 (2000 + a) = gIA g 15 (2000 + a)) ∧ ∀ m', m' < M → ∀ F a, NUe g E FA f m' F a → ∃ k, Rs g gc E th ca F a k ∧ gIA g' 15 (2000 + a) = nI k)) := by
      intro hw F hF
      refine ⟨0, sI (sI gx 21 3) 22 (nI (ta g (nt g m))), ?_, ((h3.mono (by decide)).trans (Fr.sI (by decide) _ _)).trans (Fr.sI (by decide) _ _), h4, .inl ⟨rfl, rfl, m, hm, hw, h6, rfl⟩⟩
      rw [hF, grd_t (inB_nI (by omega) (by decide)), nI_clamp (show nt g m < 2 ^ 31 by omega), sl 10 (by decide), (hS.tok htT).2.1]
      rfl
    show ∃ b g', h_X12_means_2 n (L_X12_means n k) gx (nI m) = some (b, g') ∧ _
    unfold h_X12_means_2
    rw [(h3 27 (by decide)).1, h27, if_neg (show ¬ nI M ≤ nI m from nI_ge (b := M) hm (by omega)), grd_t bm, grd_t bm, cm, sl 28 (by decide), sl 29 (by decide), y1]
    by_cases k0 : gIA g 28 m = 0
    · -- a told NAME
      have hkt : tk g (nt g m) = 2 := by
        rcases y3 with ⟨_, ⟨i, i1, i2⟩ | ⟨i, i1, i2⟩ | ⟨i, i1, i2⟩⟩ | ⟨F, a, x, y, x1, x2, x3, x4, x5, x6, x7, _⟩
        · have := R1 i i1; rw [show rtk g 37 i = nt g m by unfold rtk; rw [i2, nI_clamp (by omega)]] at this; exact this.2.2
        · have := R2 i i1; rw [show rtk g 48 i = nt g m by unfold rtk; rw [i2, nI_clamp (by omega)]] at this; exact this.2.2
        · have := R3 i i1; rw [show rtk g 53 i = nt g m by unfold rtk; rw [i2, nI_clamp (by omega)]] at this; exact this.2.2
        · rw [k0] at x7
          split at x7 <;> exact absurd x7 (by decide)
      obtain ⟨b, b1, b2⟩ := told_ok (t := nt g m) hn hSx hL (Rx (by decide) R1) (Rx (by decide) R2) (Rx (by decide) R3) ⟨by omega, by omega, by omega⟩ ⟨((h3 33 (by decide)).1).trans hcn.1, ((h3 34 (by decide)).1).trans hcn.2.1, ((h3 35 (by decide)).1).trans hcn.2.2⟩ htT (by rw [et.1]; exact hkt)
      have tw : TW gx th be ca (nt g m) ↔ TW g th be ca (nt g m) := by
        unfold TW TWk
        simp only [smx, rtx 37 _ (by decide), rtx 48 _ (by decide), rtx 53 _ (by decide)]
      rw [if_pos k0, bnd_s b1]
      unfold b_X12_means_163
      by_cases hb : b = true
      · rw [if_neg (fun z => by rw [sgB_iff0.mp z] at hb; exact absurd hb (by decide))]
        exact bad (.inl ⟨k0, tw.mp (b2.mp hb)⟩) rfl
      · rw [if_pos (sgB_iff0.mpr (by cases b <;> simp_all)), nI_1]
        refine ih k (m + 1) gx (by omega) (by omega) h3 h4 h5 (fun m' hm' => ?_) (fun m' hm' F a hu => ?_)
        · by_cases h : m' = m
          · rw [h]
            rintro (⟨_, z⟩ | ⟨z, _⟩)
            · exact hb (b2.mpr (tw.mpr z))
            · exact z k0
          · exact h6 m' (by omega)
        · by_cases h : m' = m
          · rw [h] at hu
            -- a told row stands for no entry
            obtain ⟨u1, u2, u3, u4, u5, u6⟩ := hu
            obtain ⟨m', v1, v2, v3, v4⟩ := m3 F a u1 u2 u3 u4
            have : m' = m := by
              by_cases hlt : m' < m
              · have := m2 m' m hlt hm; omega
              · by_cases hgt : m < m'
                · have := m2 m m' hgt v1; omega
                · omega
            rw [this] at v4; exact absurd k0 v4
          · exact h7 m' (by omega) F a hu
    · rw [if_neg k0]
      rcases y3 with ⟨z, _⟩ | ⟨F, a, x, y, x1, x2, x3, x4, x5, x6, x7, x8, x9, x10, x11, x12⟩
      · exact absurd z k0
      have hue : NUe g E FA f m F a := ⟨x1, x2, x3, x4, x5, x6⟩
      have haA : a < A := by have := (f3 F x1).2.2.2.1; omega
      have hkt : tk g (nt g m) = 2 := by rw [← x5]; exact ((hCE a haA).2.2.2.2.1 x4).2.2
      have uniq : ∀ {F' a'}, NUe g E FA f m F' a' → F' = F ∧ a' = a := by
        intro F' a' ⟨u1, u2, u3, u4, u5, u6⟩
        have ea : a' = a := by
          have := u6.symm.trans x6
          have := (nI_eq (by have := (f3 F' u1).2.2.2.1; omega) (by omega)).mp this
          omega
        refine ⟨?_, ea⟩
        by_cases hlt : F' < F
        · have := mono (show F' + 1 ≤ F by omega) (by omega); omega
        · by_cases hgt : F < F'
          · have := mono (show F + 1 ≤ F' by omega) (by omega); omega
          · omega
      have e15 : rtk gc 15 F = x := by unfold rtk; rw [x10, nI_clamp (by omega)]
      have e16 : rtk gc 16 F = y := by unfold rtk; rw [x11, nI_clamp (by omega)]
      -- one way for things and cams
      have go : ∀ (q c most : Nat), q ≠ 15 → kof E a = q → lim gc E th ca F a = min c most → c ≤ 40 → (∀ i, i < c → (∃ q', q' ≤ c)) → ∀ (q' : Nat), q' ≤ c → (∀ i, i < q' → ¬ Sm gx (rtk gx q i) (nt g m)) → (q' < c → Sm gx (rtk gx q q') (nt g m)) → ∀ (lm : Int32), (lm = 9999 ∧ c ≤ most ∨ lm = nI most ∧ most ≤ 40) → ∀ {F' : Option (Int32 × Gs)}, F' = (if nI q' = nI c then b_X12_means_140 n (L_X12_means n k) gx (nI m) (nI (nt g m)) (nI q') else (if nI q' < lm then b_X12_means_145 n (L_X12_means n k) gx (nI m) (nI (nt g m)) (nI q') 0 else b_X12_means_140 n (L_X12_means n k) gx (nI m) (nI (nt g m)) (nI q'))) → ∃ b g', F' = some (b, g') ∧ Fr [15, 21, 22] g g' ∧ (∀ q, q < 2000 → gIA g' 15 q = gIA g 15 q) ∧ ((b = 0 ∧ gI g' 21 = 3 ∧ ∃ m0, m0 < M ∧ Wrg g gc E FA th be ca f m0 ∧ (∀ m', m' < m0 → ¬ Wrg g gc E FA th be ca f m') ∧ gI g' 22 = nI (ta g (nt g m0))) ∨ (b = 1 ∧ Fr [15] g g' ∧ (∀ m', m' < M → ¬ Wrg g gc E FA th be ca f m') ∧ (∀ a, ¬ opN (E a).1 → gIA g' 15 (2000 + a) = gIA g 15 (2000 + a)) ∧ ∀ m', m' < M → ∀ F a, NUe g E FA f m' F a → ∃ k, Rs g gc E th ca F a k ∧ gIA g' 15 (2000 + a) = nI k)) := by
        intro q c most hq15 hkof hlim hc40 _ q' hq' s1 s2 lm hlm F' hF'
        have s1' : ∀ i, i < q' → ¬ Sm g (rtk g q i) (nt g m) := fun i hi => by have := s1 i hi; rw [rtx q i hq15, smx] at this; exact this
        have s2' : q' < c → Sm g (rtk g q q') (nt g m) := fun hi => by have := s2 hi; rw [rtx q q' hq15, smx] at this; exact this
        have e140 : b_X12_means_140 n (L_X12_means n k) gx (nI m) (nI (nt g m)) (nI q') = grd (inB (nI (nt g m)) 3001) (bnd (f_X12_fault gx 3 (gIA gx 10 (nI (nt g m)).toNatClampNeg)) (fun q_8 => grd (zB q_8.1) (some (q_8.1, q_8.2)))) := by
          unfold b_X12_means_140 b_X12_means_145 b_X12_means_163
          rw [if_neg (show ¬ (1 : Int32) = 0 by decide), if_neg (show ¬ (1 : Int32) = 0 by decide)]
        have wrong : min c most ≤ q' → Wrg g gc E FA th be ca f m := fun h => .inr ⟨k0, F, a, hue, fun i hi => by rw [hkof, x5]; rw [hlim] at hi; exact s1' i (by omega)⟩
        by_cases hqc : q' = c
        · rw [if_pos (by rw [hqc]), e140] at hF'
          exact bad (wrong (by omega)) hF'
        · rw [if_neg (fun z => hqc ((nI_eq (by omega) (by omega)).mp z))] at hF'
          have hlt : nI q' < lm ↔ q' < most := by
            rcases hlm with ⟨z1, z2⟩ | ⟨z1, z2⟩
            · rw [z1]
              exact ⟨fun _ => by omega, fun _ => nI_lt (b := 9999) (by omega) (by decide)⟩
            · rw [z1]
              exact ⟨fun z => Decidable.byContradiction fun y => nI_nlt (a := q') (b := most) (by omega) (by omega) z, fun z => nI_lt z (by omega)⟩
          by_cases hqm : q' < most
          · rw [if_pos (hlt.mpr hqm)] at hF'
            have e145 : b_X12_means_145 n (L_X12_means n k) gx (nI m) (nI (nt g m)) (nI q') 0 = L_X12_means n k (sIA gx 15 (upd (gIA gx 15) (2000 + a) (nI q'))) (nI (m + 1)) := by
              unfold b_X12_means_145 b_X12_means_163
              rw [if_pos (show (0 : Int32) = 0 from rfl), grd_t bm, cm, sl 32 (by decide), x6, grd_t (inB_nI (show 2000 + a < 8000 by omega) (by decide)), nI_clamp (show 2000 + a < 2 ^ 31 by omega), if_pos (show (0 : Int32) = 0 from rfl), nI_1]
            rw [e145] at hF'
            rw [hF']
            have hRs : Rs g gc E th ca F a q' := ⟨by rw [hlim]; omega, by rw [hkof, x5]; exact s2' (by omega), fun i hi => by rw [hkof, x5]; exact s1' i hi⟩
            refine ih k (m + 1) (sIA gx 15 (upd (gIA gx 15) (2000 + a) (nI q'))) (by omega) (by omega) (h3.trans (Fr.sIA (by decide) _ _)) (fun q hq => ?_) (fun a' ha' => ?_) (fun m' hm' => ?_) (fun m' hm' F'' a'' hu => ?_)
            · show upd (gIA gx 15) (2000 + a) _ q = _; rw [pk_un (by omega)]; exact h4 q hq
            · show upd (gIA gx 15) (2000 + a) _ (2000 + a') = _
              have hne : a' ≠ a := fun z => ha' (by rw [z]; exact x4)
              rw [pk_un (by omega)]; exact h5 a' ha'
            · by_cases h : m' = m
              · rw [h]
                rintro (⟨z, _⟩ | ⟨_, F'', a'', hu, hU⟩)
                · exact k0 z
                · obtain ⟨e1, e2⟩ := uniq hu
                  rw [e1, e2] at hU
                  exact hU q' hRs.1 hRs.2.1
              · exact h6 m' (by omega)
            · by_cases h : m' = m
              · rw [h] at hu
                obtain ⟨e1, e2⟩ := uniq hu
                rw [e1, e2]
                exact ⟨q', hRs, by show upd (gIA gx 15) (2000 + a) _ (2000 + a) = _; rw [pk_us]⟩
              · obtain ⟨k', w1, w2⟩ := h7 m' (by omega) F'' a'' hu
                have hne : a'' ≠ a := by
                  intro z
                  have t1 := hu.2.2.2.2.1
                  rw [z, x5] at t1
                  have := m2 m' m (by omega) hm
                  omega
                exact ⟨k', w1, by show upd (gIA gx 15) (2000 + a) _ (2000 + a'') = _; rw [pk_un (by omega)]; exact w2⟩
          · rw [if_neg (fun z => hqm (hlt.mp z)), e140] at hF'
            exact bad (wrong (by omega)) hF'
      rw [grd_t bm]
      by_cases c64 : (E a).1 = 64
      · have h28 : gIA g 28 m = 2 := by rw [x7, if_pos c64]
        rw [h28, if_neg (show ¬ (2 : Int32) = 1 by decide)]
        unfold b_X12_means_52 b_X12_means_88 b_X12_means_110 b_X12_means_130
        rw [if_pos (show (0 : Int32) = 0 from rfl), (h3 35 (by decide)).1, hcn.2.2]
        obtain ⟨q', r1, r2, r3, r4⟩ := rowOf_53 (t := nt g m) hn hSx hL (Rx (by decide) R3) (by omega) htT (by rw [et.1]; exact hkt)
        rw [bnd_s r1, if_pos (show (0 : Int32) = 0 from rfl), grd_t bm, cm, if_pos (show (0 : Int32) = 0 from rfl), sl 31 (by decide)]
        refine go 53 ca y (by decide) (by unfold kof; rw [if_pos c64]) (by unfold lim; rw [if_pos c64, e16]) (by omega) (fun i hi => ⟨0, by omega⟩) q' r2 r3 r4 (gIA g 31 m) (by
          rcases x12 with ⟨z1, z2, z3, z4⟩ | ⟨z1, z2⟩
          · exact .inl ⟨z2, by omega⟩
          · exact .inr ⟨z2, by omega⟩) rfl
      · have h28 : gIA g 28 m = 1 := by rw [x7, if_neg c64]
        rw [h28, if_pos (show (1 : Int32) = 1 from rfl)]
        unfold b_X12_means_52 b_X12_means_88 b_X12_means_110 b_X12_means_130
        rw [if_neg (show ¬ (1 : Int32) = 0 by decide), (h3 33 (by decide)).1, hcn.1]
        obtain ⟨q', r1, r2, r3, r4⟩ := rowOf_37 (t := nt g m) hn hSx hL (Rx (by decide) R1) (by omega) htT (by rw [et.1]; exact hkt)
        rw [bnd_s r1, if_neg (show ¬ (1 : Int32) = 0 by decide), grd_t bm, cm, if_neg (show ¬ (1 : Int32) = 0 by decide), sl 30 (by decide)]
        refine go 37 th x (by decide) (by unfold kof; rw [if_neg c64]) (by unfold lim; rw [if_neg c64, e15]) (by omega) (fun i hi => ⟨0, by omega⟩) q' r2 r3 r4 (gIA g 30 m) (by
          rcases x12 with ⟨z1, z2, z3, z4⟩ | ⟨z1, z2⟩
          · exact .inl ⟨z1, by omega⟩
          · exact .inr ⟨z1, by omega⟩) rfl
