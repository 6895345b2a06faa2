/-! a plan's names and sorts on both sides -/
/-- the reference's entries that are no jumps -/
def rcU (g : Gs) : Nat → Nat
  | 0 => 0
  | k + 1 => rcU g k + (if gIA g 14 (2000 + k) = 13 ∨ gIA g 14 (2000 + k) = 15 ∨ gIA g 14 (2000 + k) = 17 ∨ gIA g 14 (2000 + k) = 18 then 0 else 1)
theorem ro_jump (o : Nat) : (nI (ro o) = (13 : Int32) ∨ nI (ro o) = (15 : Int32) ∨ nI (ro o) = (17 : Int32) ∨ nI (ro o) = (18 : Int32)) ↔ (67 ≤ o ∧ o ≤ 70) := by
  by_cases h : o < 71
  · have H : ∀ o, o < 71 → ((nI (ro o) = (13 : Int32) ∨ nI (ro o) = (15 : Int32) ∨ nI (ro o) = (17 : Int32) ∨ nI (ro o) = (18 : Int32)) ↔ (67 ≤ o ∧ o ≤ 70)) := by decide +kernel
    exact H o h
  · have : ro o = 12 := by
      unfold ro
      rw [if_neg (by omega), if_neg (by omega), if_neg (by omega), if_neg (by omega), if_neg (by omega), if_neg (by omega), if_neg (by omega), if_neg (by omega), if_neg (by omega), if_neg (by omega), if_neg (by omega), if_neg (by omega), if_neg (by omega), if_neg (by omega), if_neg (by omega), if_neg (by omega), if_neg (by omega), if_neg (by omega)]
    rw [this]
    exact ⟨fun z => absurd z (by decide), fun z => by omega⟩
theorem ecn_rc {G g : Gs} {E : Nat → Nat × Nat × Nat} : ∀ {A : Nat}, (∀ i, i < A → RE G g i (E i)) → ecn E 0 A = rcU g A := by
  intro A
  induction A with
  | zero => intro _; rfl
  | succ A ih =>
    intro h
    rw [ecn_add (b := A) (by omega) (by omega), ih (fun i hi => h i (by omega))]
    show rcU g A + ecn E A (A + 1) = rcU g A + (if gIA g 14 (2000 + A) = 13 ∨ gIA g 14 (2000 + A) = 15 ∨ gIA g 14 (2000 + A) = 17 ∨ gIA g 14 (2000 + A) = 18 then 0 else 1)
    rw [(h A (by omega)).1]
    congr 1
    unfold ecn
    rw [show A + 1 - A = 0 + 1 by omega]
    show cnU E A 0 + (if 67 ≤ (E (A + 0)).1 ∧ (E (A + 0)).1 ≤ 70 then 0 else 1) = _
    rw [Nat.add_zero, show cnU E A 0 = 0 from rfl, Nat.zero_add]
    by_cases c : 67 ≤ (E A).1 ∧ (E A).1 ≤ 70
    · rw [if_pos c, if_pos ((ro_jump _).mpr c)]
    · rw [if_neg c, if_neg (fun z => c ((ro_jump _).mp z))]
/-- a plan that is settled alike -/
def PJ (n th be ca f A M : Nat) (g g1 gT gp gc gc1 : Gs) (FA tn fn : Nat → Nat) : Prop := ∃ g' gT' gc' srt, f_X12_judges n g1 = some (1, g') ∧ f_X8_firstFault n gT gp gc1 = some (-1, gT', gc') ∧ Cg 0 0 0 g1 gT gc1 g' gT' gc' ∧ (∀ i, i < th → srt i ≤ 7 ∧ gIA gp 7 i = nI (srt i) ∧ gIA g 38 i = nI (srt i)) ∧ (∀ x, x < f → FS g' gp gc' srt (min th (rtk gc 15 x)) ca x (FA x) (FA (x + 1))) ∧ (∀ k', k' < th + be → tn (k' + 1) = tn k' + 1 → gIA g' 46 (tn k') = gIA gc' 17 (fn k') ∧ (fn (k' + 1) = fn k' + 2 → gIA g' 47 (tn k') = gIA gc' 17 (fn k' + 1)))
theorem plan_judged {n hQ hP L T : Nat} {g2 gt : Gs} {B : Nat → Nat} {g gr gs gp gc : Gs} {j th be ca N A M f ce : Nat} {E : Nat → Nat × Nat × Nat} {FA tn fn rkk : Nat → Nat} (hn : 20000 ≤ n) (hTE : ∀ p, p < L → gIA g 5 p = gIA gt 0 p) (hM : MR n hQ hP L T g2 gt B g gr gs gc j N A M f E) (hcn : gI g 33 = nI th ∧ gI g 34 = nI be ∧ gI g 35 = nI ca) (hgp : gI gp 4 = nI th ∧ gI gp 5 = nI be ∧ gI gp 6 = nI ca) (h10 : gI gc 10 = 0) (hc : th ≤ 40 ∧ be ≤ 12 ∧ ca ≤ 8) (hP : PN T g gt gp gc j th be ca f A M E FA) (hI : PI g gp gc th be f FA M tn fn rkk) (hRC : rcU g A ≤ 500) (gN : Gs) :
    ∃ b1 g1 v1 gN' gc1, f_X12_means n g = some (b1, g1) ∧ f_X2_firstFault n gN gt gp gc = some (v1, gN', gc1) ∧ Fr [15, 21, 22] g g1 ∧ (∀ q, q < 2000 → gIA g1 15 q = gIA g 15 q) ∧ Fr [5] gc gc1 ∧ Fr [1] gN gN' ∧
    ((b1 = 0 ∧ gI g1 21 = 3 ∧ ∃ x, x < 2 ^ 31 ∧ v1 = nI x ∧ gI g1 22 = nI x) ∨
     (b1 = 1 ∧ v1 = -1 ∧ Fr [15] g g1 ∧ ∀ gT, (∃ x g' gT' gc', x < 2 ^ 31 ∧ f_X12_judges n g1 = some (0, g') ∧ f_X8_firstFault n gT gp gc1 = some (nI x, gT', gc') ∧ gI g' 21 = 4 ∧ gI g' 22 = nI x ∧ Fr [16, 21, 22, 46, 47, 57, 58, 59] g1 g' ∧ (∀ q, q < 2000 → gIA g' 16 q = gIA g1 16 q) ∧ Fr [0, 1] gT gT' ∧ Fr [2, 3, 4, 17] gc1 gc') ∨ PJ n th be ca f A M g g1 gT gp gc gc1 FA tn fn)) := by
  obtain ⟨⟨s1, s2, s3⟩, ⟨a1, a2, a3, a4, a5⟩, c1, _, _, _, ⟨q1, q2, q3⟩, ⟨r1, r2, r3⟩, o1⟩ := hM
  obtain ⟨o2, o3, o4⟩ := o1 h10
  have hT := s1.2.2.1
  have hL : L ≤ 3000 := s2.1.1
  have hPF := hP.1
  obtain ⟨b1, g1, v1, gN', gc1, x1, x2, x3, x4, x5, x6, x7⟩ := names_both hn s1 hL hTE hP s3 hc hcn hgp a5 (by omega) q3 ⟨q2, o3⟩ (by omega) o4 gN
  refine ⟨b1, g1, v1, gN', gc1, x1, x2, x3, x4, x5, x6, ?_⟩
  rcases x7 with ⟨y1, y2, y3, t, y4, y5⟩ | ⟨y1, y2, y3, y4, y5⟩
  · have := (s1.tok y4).2.2.2.2
    exact .inl ⟨y1, y2, ta g t, by omega, y5, by rw [y3, y5]⟩
  · refine .inr ⟨y1, y2, y3, fun gT => ?_⟩
    have hsd : ∀ F, F < f → min th (rtk gc 15 F) ≤ th ∧ ∀ q, FA F ≤ q → q < FA (F + 1) → Sd g1 gc1 gp (min th (rtk gc 15 F)) ca q (E q) := by
      intro F hF
      refine ⟨Nat.min_le_left _ _, fun q h1 h2 => ?_⟩
      have hqA : q < A := by have := (hPF.2.2 F hF).2.2.2.1; omega
      refine sd_of (c1 q hqA) (o4 q hqA) y3 x5 (fun z => y4 q z) (fun z => ?_)
      obtain ⟨k, k1, k2, k3⟩ := y5 F q hF h1 h2 z
      refine ⟨k, ?_, k2, k3⟩
      have kl := k1.1
      unfold lim at kl
      by_cases c : (E q).1 = 64
      · rw [if_pos c] at kl ⊢; omega
      · rw [if_neg c] at kl ⊢; exact kl
    have hPF1 : FA 0 = 0 ∧ FA f = A ∧ ∀ F, F < f → gIA gc1 11 F = nI (FA F) ∧ gIA gc1 12 F = nI (FA (F + 1)) ∧ FA F ≤ FA (F + 1) ∧ FA (F + 1) ≤ A ∧ ∃ mm, Eg E mm (FA F) (FA (F + 1)) ∧ ∃ z, z ≤ 3000 ∧ gIA gc1 14 F = nI z := by
      rw [(x5 11 (by decide)).2.2.2.1, (x5 12 (by decide)).2.2.2.1, (x5 14 (by decide)).2.2.2.1]; exact hPF
    rcases sorts_both (gT := gT) (mn := fun F => min th (rtk gc 15 F)) hn ⟨hc.1, hc.2.1⟩ (show M ≤ 3000 by omega) q3 (by omega) hPF1 (by rw [ecn_rc c1]; exact hRC) ⟨((x5 18 (by decide)).1).trans q2, ((x5 8 (by decide)).1).trans o3, hgp.1⟩ (((y3 33 (by decide)).1).trans hcn.1) (((y3 34 (by decide)).1).trans hcn.2.1) (hI.same y3 x5 (by decide) (by decide)) hsd with ⟨v, g', gT', gc', w1, w2, w3, w4, w5, w6, w7, w8, w9⟩ | ⟨g', gT', gc', srt, w1, w2, w3, w4, w5, w6⟩
    · have hx : ∃ x, x < 2 ^ 31 ∧ v = nI x := by
        rcases w5 with ⟨i, i1, i2⟩ | ⟨F, i1, i2⟩
        · have e1 := (o4 i i1).2.1
          refine ⟨ta g (E i).2.1, ?_, by rw [i2, (x5 1 (by decide)).2.2.2.1, e1]⟩
          exact (gIA g 10 (E i).2.1).toNatClampNeg_lt
        · obtain ⟨_, _, _, _, mm, _, z, z1, z2⟩ := hPF1.2.2 F i1
          exact ⟨z, by omega, i2.trans z2⟩
      obtain ⟨x, hx1, hx2⟩ := hx
      exact .inl ⟨x, g', gT', gc', hx1, w1, by rw [← hx2]; exact w2, w3, by rw [← hx2]; exact w4, w6, w7, w8, w9⟩
    · refine .inr ⟨g', gT', gc', srt, w1, w2, w3, fun i hi => ?_, w5, w6⟩
      have := w4 i hi
      rw [(y3 38 (by decide)).2.2.2.1] at this
      exact this
