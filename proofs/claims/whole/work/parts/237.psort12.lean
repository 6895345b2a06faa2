/-! sorts: one thing, one bell -/
/-- both refuse a plan's sorts -/
def JF (A f : Nat) (g gT gc : Gs) (r : Option (Int32 × Gs)) (c : Option (Int32 × Gs × Gs)) : Prop := ∃ v g' gT' gc', r = some (0, g') ∧ c = some (v, gT', gc') ∧ gI g' 21 = 4 ∧ gI g' 22 = v ∧ ((∃ i, i < A ∧ v = gIA gc 1 i) ∨ ∃ F, F < f ∧ v = gIA gc 14 F) ∧ Fr [16, 21, 22, 46, 47, 57, 58, 59] g g' ∧ (∀ q, q < 2000 → gIA g' 16 q = gIA g 16 q) ∧ Fr [0, 1] gT gT' ∧ Fr [2, 3, 4, 17] gc gc'
theorem JF.after {A f a F i : Nat} {g gT gc g1 gT1 gc1 : Gs} {r : Option (Int32 × Gs)} {c : Option (Int32 × Gs × Gs)} (h : JF A f g1 gT1 gc1 r c) (hc : Cg a F i g gT gc g1 gT1 gc1) : JF A f g gT gc r c := by
  obtain ⟨v, g', gT', gc', h1, h2, h3, h4, h5, h6, h7, h8, h9⟩ := h
  refine ⟨v, g', gT', gc', h1, h2, h3, h4, ?_, (hc.1.mono (by decide)).trans h6, fun q hq => (h7 q hq).trans (hc.2.2.2.1 q hq), hc.2.1.trans h8, hc.2.2.1.trans h9⟩
  rw [(hc.2.2.1 1 (by decide)).2.2.2.1, (hc.2.2.1 14 (by decide)).2.2.2.1] at h5
  exact h5
/-- what holds before formula F, entry a being its first -/
def JH (n th be ca f A a : Nat) (g gp gc : Gs) (E : Nat → Nat × Nat × Nat) (FA srt mn : Nat → Nat) : Prop := 20000 ≤ n ∧ f ≤ 92 ∧ A ≤ 840 ∧ FA f = A ∧ (∀ F F', F ≤ F' → F' ≤ f → FA F ≤ FA F') ∧ (∀ F, F < f → ∃ m d, d ≤ 400 ∧ EgD E m (FA F) (FA (F + 1)) d) ∧ gI gc 18 = nI f ∧ (∀ F, F < f → f_X0_beginOf gc (nI F) = some (nI (FA F)) ∧ f_X0_endOf gc (nI F) = some (nI (FA (F + 1)))) ∧ (gI g 33 = nI th ∧ gI g 34 = nI be ∧ gI g 59 = 1) ∧ SO g gp srt th ∧ ∀ F, F < f → mn F ≤ th ∧ ∀ q, a ≤ q → FA F ≤ q → q < FA (F + 1) → Sd g gc gp (mn F) ca q (E q)
theorem JH.keep {n th be ca f A a z : Nat} {g gp gc g' gc' : Gs} {E : Nat → Nat × Nat × Nat} {FA srt mn : Nat → Nat} (h : JH n th be ca f A a g gp gc E FA srt mn) (h1 : Fr [16, 46, 47, 57, 58] g g') (h2 : Fr [2, 3, 4, 17] gc gc') (hq : ∀ q, z ≤ q → q < A → Rq g gc g' gc' q) (ha : a ≤ z) : JH n th be ca f A z g' gp gc' E FA srt mn := by
  obtain ⟨a1, a2, a3, a4, a5, a6, a7, a8, a9, a10, a11⟩ := h
  refine ⟨a1, a2, a3, a4, a5, a6, ((h2 18 (by decide)).1).trans a7, ?_, ⟨((h1 33 (by decide)).1).trans a9.1, ((h1 34 (by decide)).1).trans a9.2.1, ((h1 59 (by decide)).1).trans a9.2.2⟩, a10.keep h1 (by decide), fun F hF => ⟨(a11 F hF).1, fun q q1 q2 q3 => ((a11 F hF).2 q (by omega) q2 q3).rows (Sx.of h1 h2 (by decide) (by decide)) (hq q q1 (Nat.lt_of_lt_of_le q3 (by rw [← a4]; exact a5 (F + 1) f (by omega) (Nat.le_refl _))))⟩⟩
  rw [beginOf_fr h2 (by decide), endOf_fr h2 (by decide)]; exact a8
theorem SO.less {g gp : Gs} {srt : Nat → Nat} {many many' : Nat} (h : SO g gp srt many) (hm : many' ≤ many) : SO g gp srt many' := ⟨Nat.le_trans hm h.1, fun a ha => h.2 a (Nat.lt_of_lt_of_le ha hm)⟩
/-- one formula of an item -/
theorem jd_formula {n th be ca f A F w fm i : Nat} {g gT gp gc : Gs} {E : Nat → Nat × Nat × Nat} {FA srt mn : Nat → Nat} (h : JH n th be ca f A (FA F) g gp gc E FA srt mn) (hF : F < f) (hw : w ≤ 7) (h13 : Wt gp gc F w) (hfm : A - FA F + 2 ≤ fm) :
    (∃ g', f_X12_fits n g (nI (2000 + FA F)) (nI (2000 + FA (F + 1))) (nI w) (gIA gc 14 F) = some (0, g') ∧ JF A f g gT gc (some (0, g')) ((L_X8_firstFault n fm).1 gT gp gc (nI F)) ∧ Fr [16, 21, 22, 57, 58] g g') ∨
    (∃ t g' gT' gc' fm', fm ≤ fm' + (FA (F + 1) - FA F) + 2 ∧ f_X12_fits n g (nI (2000 + FA F)) (nI (2000 + FA (F + 1))) (nI w) (gIA gc 14 F) = some (1, g') ∧ (L_X8_firstFault n fm).1 gT gp gc (nI F) = (L_X8_firstFault n fm').1 gT' gp gc' (nI (F + 1)) ∧ gIA g' 57 0 = nI t ∧ gIA gc' 17 F = nI t ∧ Cg (FA F) F i g gT gc g' gT' gc' ∧ Fr [16, 57, 58] g g' ∧ FS g' gp gc' srt (mn F) ca F (FA F) (FA (F + 1)) ∧ JH n th be ca f A (FA (F + 1)) g' gp gc' E FA srt mn) := by
  obtain ⟨a1, a2, a3, a4, a5, a6, a7, a8, a9, a10, a11⟩ := id h
  obtain ⟨m, d, hd, hE⟩ := a6 F hF
  have hz : FA (F + 1) ≤ A := by rw [← a4]; exact a5 (F + 1) f (by omega) (Nat.le_refl _)
  have haz := hE.lt.1
  rcases plan_formula (gT := gT) (w := w) (fm := fm) a1 hF a2 a7 (show FA (F + 1) ≤ 840 by omega) hE hd (by omega) (a8 F hF).1 (a8 F hF).2 (a10.less (a11 F hF).1) (fun q q1 q2 => (a11 F hF).2 q q1 q1 q2) hw h13 with ⟨v, g', gT', gc', x1, x2, x3, x4, x5, x6, x7, x8, x9⟩ | ⟨t, d', g', gT', gc', fm', x1, x2, x3, x4, x5, x6, x7, x8, x9, x10⟩
  · refine .inl ⟨g', x1, ⟨v, g', gT', gc', rfl, x2, x3, x4, ?_, x6.mono (by decide), x7, x8, x9⟩, x6⟩
    rcases x5 with ⟨q, q1, q2, q3⟩ | x5
    · exact .inl ⟨q, by omega, q3⟩
    · exact .inr ⟨F, hF, x5⟩
  · have hcg : Cg (FA F) F i g gT gc g' gT' gc' := Cg.of x8
    refine .inr ⟨t, g', gT', gc', fm', x1, x4, x7, x6, x9, hcg, x8.1, ⟨t, d', m, w, x2, hw, by omega, x9, x5, ?_, x10⟩, h.keep (x8.1.mono (by decide)) x8.2.2.1 (fun q q1 q2 => x8.2.2.2.2.1 q (by omega)) (by omega)⟩
    unfold Wt at *
    rw [(x8.2.2.1 13 (by decide)).2.2.2.1]; exact h13
theorem Cg.s46 {a F i : Nat} {g gT gc : Gs} {x : Int32} : Cg a F i g gT gc (sIA g 46 (upd (gIA g 46) i x)) gT gc := ⟨Fr.sIA (by decide) _ _, Fr.refl _ _, Fr.refl _ _, fun _ _ => rfl, fun _ _ => ⟨rfl, rfl, rfl, rfl⟩, fun _ _ => rfl, fun y hy => ⟨by show upd (gIA g 46) i x y = _; rw [pk_un (by omega)], rfl⟩⟩
theorem Cg.s47 {a F i : Nat} {g gT gc : Gs} {x : Int32} : Cg a F i g gT gc (sIA g 47 (upd (gIA g 47) i x)) gT gc := ⟨Fr.sIA (by decide) _ _, Fr.refl _ _, Fr.refl _ _, fun _ _ => rfl, fun _ _ => ⟨rfl, rfl, rfl, rfl⟩, fun _ _ => rfl, fun y hy => ⟨rfl, by show upd (gIA g 47) i x y = _; rw [pk_un (by omega)]⟩⟩
/-- the reference stops at once -/
theorem jd_stop {n fr : Nat} {g : Gs} {x y : Int32} : L_X12_judges n (fr + 1) g 0 x y = some (0, sI g 59 0) := by
  show h_X12_judges_11 n (L_X12_judges n fr) g 0 x y = _
  unfold h_X12_judges_11 b_X12_judges_197
  rw [if_pos rfl]; rfl
theorem jf_stop {A f n fr : Nat} {g gT gc gX : Gs} {x y : Int32} {c : Option (Int32 × Gs × Gs)} (h : JF A f g gT gc (some (0, gX)) c) : JF A f g gT gc (L_X12_judges n (fr + 1) gX 0 x y) c := by
  obtain ⟨v, g', gT', gc', h1, h2, h3, h4, h5, h6, h7, h8, h9⟩ := h
  have e : gX = g' := congrArg Prod.snd (Option.some.inj h1)
  rw [jd_stop, e]
  exact ⟨v, sI g' 59 0, gT', gc', rfl, h2, h3, h4, h5, h6.trans (Fr.sI (by decide) _ _), h7, h8, h9⟩
/-- a bell's formula -/
theorem jd_bell {n th be ca f A F fm fr b i : Nat} {g gT gp gc : Gs} {E : Nat → Nat × Nat × Nat} {FA srt mn : Nat → Nat} (h : JH n th be ca f A (FA F) g gp gc E FA srt mn) (hF : F < f) (hb : b < 12) (h49 : gIA g 49 b = nI (2000 + FA F)) (h50 : gIA g 50 b = nI (2000 + FA (F + 1))) (h13 : gIA gc 13 F = nI (40 + b)) (h14 : gIA gc 14 F = gIA g 51 b) (hfm : A - FA F + 2 ≤ fm) {v2 : Int32} :
    JF A f g gT gc (b_X12_judges_167 n (L_X12_judges n (fr + 1)) g v2 (nI b)) ((L_X8_firstFault n fm).1 gT gp gc (nI F)) ∨
    ∃ g' gT' gc' fm', fm ≤ fm' + (FA (F + 1) - FA F) + 2 ∧ b_X12_judges_167 n (L_X12_judges n (fr + 1)) g v2 (nI b) = L_X12_judges n (fr + 1) g' 1 v2 (nI (b + 1)) ∧ (L_X8_firstFault n fm).1 gT gp gc (nI F) = (L_X8_firstFault n fm').1 gT' gp gc' (nI (F + 1)) ∧ Cg (FA F) F i g gT gc g' gT' gc' ∧ FS g' gp gc' srt (mn F) ca F (FA F) (FA (F + 1)) ∧ JH n th be ca f A (FA (F + 1)) g' gp gc' E FA srt mn := by
  have bb : inB (nI b) 400 = true := inB_nI (by omega) (by decide)
  have cb : (nI b).toNatClampNeg = b := nI_clamp (by omega)
  have e : b_X12_judges_167 n (L_X12_judges n (fr + 1)) g v2 (nI b) = bnd (f_X12_fits n g (nI (2000 + FA F)) (nI (2000 + FA (F + 1))) (nI 0) (gIA gc 14 F)) (fun q_22 => L_X12_judges n (fr + 1) q_22.2 q_22.1 v2 (nI (b + 1))) := by
    unfold b_X12_judges_167
    rw [grd_t bb, grd_t bb, grd_t bb, cb, h49, h50, ← h14, nI_1]; rfl
  rw [e]
  rcases jd_formula (gT := gT) (fm := fm) (i := i) h hF (show 0 ≤ 7 by decide) (.inr ⟨rfl, b, hb, h13⟩) hfm with ⟨g', x1, x2, x3⟩ | ⟨t, g', gT', gc', fm', x1, x2, x3, x4, x5, x6, x7, x8, x9⟩
  · rw [bnd_s x1]; exact .inl (jf_stop x2)
  · rw [bnd_s x2]; exact .inr ⟨g', gT', gc', fm', x1, rfl, x3, x6, x8, x9⟩
/-- a thing's formulas -/
theorem jd_thing {n th be ca f A F fm fr i s p : Nat} {g gT gp gc : Gs} {E : Nat → Nat × Nat × Nat} {FA srt mn : Nat → Nat} (h : JH n th be ca f A (FA F) g gp gc E FA srt mn) (hF : F + p < f) (hi : i < 40) (hs : s ≤ 7) (hp : p ≤ 1) (h38 : gIA g 38 i = nI s) (h7 : gIA gp 7 i = nI s) (h39 : gIA g 39 i = nI p) (h40 : gIA g 40 i = nI (2000 + FA F)) (h41 : gIA g 41 i = nI (2000 + FA (F + 1))) (h42 : gIA g 42 i = nI (2000 + FA (F + 1 + p))) (h13 : gIA gc 13 F = nI i) (h14 : gIA gc 14 F = gIA g 43 i) (h1 : p = 1 → gIA gc 13 (F + 1) = nI i ∧ gIA gc 14 (F + 1) = gIA g 44 i) (hfm : A - FA F + 2 * (p + 1) ≤ fm) {v3 : Int32} :
    JF A f g gT gc (b_X12_judges_62 n (L_X12_judges n (fr + 1)) g (nI i) v3) ((L_X8_firstFault n fm).1 gT gp gc (nI F)) ∨
    ∃ g' gT' gc' fm', fm ≤ fm' + (FA (F + 1 + p) - FA F) + 2 * (p + 1) ∧ b_X12_judges_62 n (L_X12_judges n (fr + 1)) g (nI i) v3 = L_X12_judges n (fr + 1) g' 1 (nI (i + 1)) v3 ∧ (L_X8_firstFault n fm).1 gT gp gc (nI F) = (L_X8_firstFault n fm').1 gT' gp gc' (nI (F + 1 + p)) ∧ Cg (FA F) F i g gT gc g' gT' gc' ∧ (∀ x, F ≤ x → x < F + 1 + p → FS g' gp gc' srt (mn x) ca x (FA x) (FA (x + 1))) ∧ gIA g' 46 i = gIA gc' 17 F ∧ (p = 1 → gIA g' 47 i = gIA gc' 17 (F + 1)) ∧ JH n th be ca f A (FA (F + 1 + p)) g' gp gc' E FA srt mn := by
  have bi : inB (nI i) 400 = true := inB_nI (by omega) (by decide)
  have ci : (nI i).toNatClampNeg = i := nI_clamp (by omega)
  have z1 : ¬ (1 : Int32) = 0 := by decide
  have hmono := h.2.2.2.2.1
  have e : b_X12_judges_62 n (L_X12_judges n (fr + 1)) g (nI i) v3 = bnd (f_X12_fits n g (nI (2000 + FA F)) (nI (2000 + FA (F + 1))) (nI s) (gIA gc 14 F)) (fun q_6 => if q_6.1 = 0 then (b_X12_judges_107 n (L_X12_judges n (fr + 1)) q_6.2 q_6.1 (nI i) v3) else (b_X12_judges_107 n (L_X12_judges n (fr + 1)) (sIA q_6.2 46 (upd (gIA q_6.2 46) i (gIA q_6.2 57 0))) q_6.1 (nI i) v3)) := by
    unfold b_X12_judges_62
    rw [grd_t bi, grd_t bi, grd_t bi, grd_t bi, ci, h40, h41, h38, ← h14]
    simp only [grd_t bi, grd_t (show inB (0 : Int32) 400 = true by decide)]
    rfl
  rw [e]
  rcases jd_formula (gT := gT) (fm := fm) (i := i) h (show F < f by omega) hs (.inl ⟨i, hi, h13, h7⟩) (by omega) with ⟨g', x1, x2, x3⟩ | ⟨t, g1, gT1, gc1, fm1, x1, x2, x3, x4, x5, x6, x7, x8, x9⟩
  · rw [bnd_s x1]
    refine .inl ?_
    show JF A f g gT gc (b_X12_judges_107 n (L_X12_judges n (fr + 1)) g' 0 (nI i) v3) _
    unfold b_X12_judges_107 b_X12_judges_161
    rw [if_pos rfl]
    exact jf_stop x2
  · rw [bnd_s x2]
    show JF A f g gT gc (b_X12_judges_107 n (L_X12_judges n (fr + 1)) (sIA g1 46 (upd (gIA g1 46) i (gIA g1 57 0))) 1 (nI i) v3) _ ∨ ∃ g' gT' gc' fm', _ ∧ b_X12_judges_107 n (L_X12_judges n (fr + 1)) (sIA g1 46 (upd (gIA g1 46) i (gIA g1 57 0))) 1 (nI i) v3 = _ ∧ _
    have f46 : Fr [16, 46, 47, 57, 58] g (sIA g1 46 (upd (gIA g1 46) i (gIA g1 57 0))) := (x7.mono (by decide)).trans (Fr.sIA (by decide) _ _)
    have cg1 : Cg (FA F) F i g gT gc (sIA g1 46 (upd (gIA g1 46) i (gIA g1 57 0))) gT1 gc1 := x6.trans Cg.s46 (Nat.le_refl _) (Nat.le_refl _) (Nat.le_refl _)
    have a46 : gIA (sIA g1 46 (upd (gIA g1 46) i (gIA g1 57 0))) 46 i = gIA gc1 17 F := by
      show upd (gIA g1 46) i (gIA g1 57 0) i = _
      rw [pk_us, x4, x5]
    have jh1 : JH n th be ca f A (FA (F + 1)) (sIA g1 46 (upd (gIA g1 46) i (gIA g1 57 0))) gp gc1 E FA srt mn := x9.keep (Fr.sIA (by decide) _ _) (Fr.refl _ _) (fun q _ _ => ⟨rfl, rfl, rfl, rfl⟩) (Nat.le_refl _)
    have fs1 : FS (sIA g1 46 (upd (gIA g1 46) i (gIA g1 57 0))) gp gc1 srt (mn F) ca F (FA F) (FA (F + 1)) := x8.keep (a' := FA (F + 1)) (F' := F + 1) (i' := i) (gT := gT) (Cg.s46) (by omega) (Nat.le_refl _)
    have g39 : gIA (sIA g1 46 (upd (gIA g1 46) i (gIA g1 57 0))) 39 i = nI p := by rw [(f46 39 (by decide)).2.2.2.1]; exact h39
    unfold b_X12_judges_107 b_X12_judges_161
    rw [if_neg z1, grd_t bi, ci, g39]
    by_cases hp0 : p = 0
    · subst hp0
      rw [if_pos (show nI 0 = (0 : Int32) from rfl), nI_1]
      refine .inr ⟨_, gT1, gc1, fm1, by omega, rfl, x3, cg1, fun x y1 y2 => ?_, a46, fun z => absurd z (by decide), jh1⟩
      rw [show x = F by omega]; exact fs1
    · have hp1 : p = 1 := by omega
      subst hp1
      rw [if_neg (show ¬ nI 1 = (0 : Int32) by decide), grd_t bi, grd_t bi, grd_t bi, grd_t bi, (f46 41 (by decide)).2.2.2.1, (f46 42 (by decide)).2.2.2.1, (f46 38 (by decide)).2.2.2.1, (f46 44 (by decide)).2.2.2.1, h41, h42, h38]
      obtain ⟨w1, w2⟩ := h1 rfl
      have k13 : gIA gc1 13 (F + 1) = nI i := by rw [(x6.2.2.1 13 (by decide)).2.2.2.1]; exact w1
      have k14 : gIA gc1 14 (F + 1) = gIA g 44 i := by rw [(x6.2.2.1 14 (by decide)).2.2.2.1]; exact w2
      have m1 := hmono F (F + 1) (by omega) (by omega)
      have m2 := hmono (F + 1) (F + 1 + 1) (by omega) (by omega)
      have m3 : FA (F + 1) ≤ A := by rw [← h.2.2.2.1]; exact hmono (F + 1) f (by omega) (Nat.le_refl _)
      rw [← k14]
      rcases jd_formula (gT := gT1) (fm := fm1) (i := i) jh1 (show F + 1 < f by omega) hs (.inl ⟨i, hi, k13, h7⟩) (by omega) with ⟨g', y1, y2, y3⟩ | ⟨t', g2, gT2, gc2, fm2, y1, y2, y3, y4, y5, y6, y7, y8, y9⟩
      · rw [bnd_s y1, grd_t (show inB (0 : Int32) 400 = true by decide), grd_t bi, x3]
        refine .inl (JF.after ?_ cg1)
        obtain ⟨v, gA, gB, gC, z1, z2, z3, z4, z5, z6, z7, z8, z9⟩ := y2
        have ee : g' = gA := congrArg Prod.snd (Option.some.inj z1)
        rw [show L_X12_judges n (fr + 1) (sIA g' 47 (upd (gIA g' 47) i (gIA g' 57 (0 : Int32).toNatClampNeg))) 0 (nI i + 1) v3 = _ from jd_stop, ee]
        exact ⟨v, _, gB, gC, rfl, z2, z3, z4, z5, (z6.trans (Fr.sIA (by decide) _ _)).trans (Fr.sI (by decide) _ _), z7, z8, z9⟩
      · rw [bnd_s y2, grd_t (show inB (0 : Int32) 400 = true by decide), grd_t bi, nI_1]
        have c47 : Cg (FA (F + 1)) (F + 1) i g2 gT2 gc2 (sIA g2 47 (upd (gIA g2 47) i (gIA g2 57 0))) gT2 gc2 := Cg.s47
        have cg2 := y6.trans c47 (Nat.le_refl _) (Nat.le_refl _) (Nat.le_refl _)
        have e46 : gIA g2 46 = gIA (sIA g1 46 (upd (gIA g1 46) i (gIA g1 57 0))) 46 := (y7 46 (by decide)).2.2.2.1
        refine .inr ⟨_, gT2, gc2, fm2, by omega, rfl, x3.trans y3, cg1.trans cg2 m1 (by omega) (Nat.le_refl _), fun x q1 q2 => ?_, ?_, fun _ => ?_, y9.keep (Fr.sIA (by decide) _ _) (Fr.refl _ _) (fun q _ _ => ⟨rfl, rfl, rfl, rfl⟩) (Nat.le_refl _)⟩
        · by_cases hx : x = F
          · rw [hx]; exact fs1.keep cg2 (by omega) (Nat.le_refl _)
          · rw [show x = F + 1 by omega]
            exact y8.keep (a' := FA (F + 1 + 1)) (F' := F + 1 + 1) (i' := i) (gT := gT) Cg.s47 (by omega) (Nat.le_refl _)
        · show gIA g2 46 i = gIA gc2 17 F
          rw [e46, a46, y6.2.2.2.2.2.1 F (by omega)]
        · show upd (gIA g2 47) i (gIA g2 57 0) i = _
          rw [pk_us, y4, y5]
