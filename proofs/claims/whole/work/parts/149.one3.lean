/-! truths compared, sorts cast, teeth, questions -/
theorem cmp_eq (a b : Int64) : ∃ c, f_J13_compare_74951 a b = some c ∧ (c = 0 ↔ a = b) := by
  unfold f_J13_compare_74951
  by_cases h : b ≤ a
  · rw [if_pos h]
    by_cases e : a = b
    · rw [if_pos e]; exact ⟨0, rfl, fun _ => e, fun _ => rfl⟩
    · rw [if_neg e]; exact ⟨1, rfl, fun z => absurd z (by decide), fun z => absurd z e⟩
  · rw [if_neg h]
    exact ⟨-1, rfl, fun z => absurd z (by decide), fun z => absurd (z ▸ Int64.le_refl a) h⟩
theorem work_tt {n : Nat} {g gm g2 : Gs} {T K : Nat} (e : Bool) (hK : K < 8000) (hT : gI g 93 = nI (T + 2)) (hTm : gI gm 4 = nI (T + 2)) (hT2 : T + 2 ≤ 400) (h16 : gIA g 16 K = nI 0) (h15 : gIA g 15 K = if e = true then 189 else 161) (ha : VR 0 (gLA g 92 T) (gLA gm 2 T) (gDA gm 3 T)) (hb : VR 0 (gLA g 92 (T + 1)) (gLA gm 2 (T + 1)) (gDA gm 3 (T + 1))) : Out g gm T K 0 (f_X12_joins n g (nI K)) (f_X1_workTwo n gm g2 (if e = true then 59 else 60) (nI 0) (nI 0) (nI 0)) := by
  have bK : inB (nI K) 8000 = true := inB_nI hK (by decide)
  have cK : (nI K).toNatClampNeg = K := nI_clamp (by omega)
  have e1 : gI g 93 - (1 : Int32) = nI (T + 1) := by rw [hT]; exact nI_pred (T + 1)
  have e2 : nI (T + 1) - (1 : Int32) = nI T := nI_pred T
  rw [VR.whole (by decide)] at ha hb
  have c62 := cls_two (n := n) (g2 := g2) (o' := if e = true then 59 else 60) hTm hT2 (bec_same (t := 0) (by omega)) (bec_same (t := 0) (by omega)) hTm (by decide)
  have hx : ∃ x : Int64, f_X12_joins n g (nI K) = some (1, sLA (sI g 93 (nI (T + 1))) 92 (vp_updL (gLA (sI g 93 (nI (T + 1))) 92) T x)) ∧ f_X1_workTwo n gm g2 (if e = true then 59 else 60) (nI 0) (nI 0) (nI 0) = some (sLA (sI gm 4 (nI (T + 1))) 2 (vp_updL (gLA (sI gm 4 (nI (T + 1))) 2) T x)) := by
    rw [c62]
    unfold f_X12_joins
    rw [grd_t bK, grd_t bK, grd_t bK, cK, e1, e2, grd_t (inB_nI (by omega) (by decide)), grd_t (inB_nI (by omega) (by decide)), h16, h15, nI_clamp (by omega), nI_clamp (by omega), if_pos (show nI 0 >>> ((3 : Int32) &&& 31) = 0 by decide), ha, hb]
    obtain ⟨c, c1, c2⟩ := cmp_eq (gLA gm 2 T) (gLA gm 2 (T + 1))
    unfold b_X1_workTwo_62
    rw [if_neg (show ¬ (if e = true then (59 : Int32) else 60) < (55 : Int32) by cases e <;> decide), if_neg (show ¬ (60 : Int32) < (if e = true then (59 : Int32) else 60) by cases e <;> decide), if_pos (show (0 : Nat) ≤ 5 by decide), if_pos rfl, grd_t (inB_nI (by omega) (by decide)), grd_t (inB_nI (by omega) (by decide)), nI_clamp (by omega), nI_clamp (by omega)]
    rw [bnd_s (show f_J13_compare_74951 (gLA (sI gm 4 (nI (T + 1))) 2 T) (gLA (sI gm 4 (nI (T + 1))) 2 (T + 1)) = some c from c1)]
    unfold b_X12_joins_88 b_X12_joins_100 b_X12_joins_108 b_X1_workTwo_118 b_X1_workTwo_140 f_X1_holds
    have bT : inB (nI T) 400 = true := inB_nI (by omega) (by decide)
    have bT5 : inB (nI T) 512 = true := inB_nI (by omega) (by decide)
    have cT : (nI T).toNatClampNeg = T := nI_clamp (by omega)
    rw [bT, bT5, cT]
    cases e with
    | true =>
      by_cases h : gLA gm 2 T = gLA gm 2 (T + 1)
      · rw [if_pos h, c2.mpr h]
        exact ⟨1, rfl, rfl⟩
      · rw [if_neg h]
        refine ⟨0, rfl, ?_⟩
        have hc : ¬ c = 0 := fun z => h (c2.mp z)
        simp [hc, bnd, grd]
    | false =>
      by_cases h : gLA gm 2 T = gLA gm 2 (T + 1)
      · rw [if_pos h, c2.mpr h]
        exact ⟨0, rfl, rfl⟩
      · rw [if_neg h]
        refine ⟨1, rfl, ?_⟩
        have hc : ¬ c = 0 := fun z => h (c2.mp z)
        simp [hc, bnd, grd]
  obtain ⟨x, x1, x2⟩ := hx
  refine Out2.out (.inl ⟨x, _, _, x1, Sc.refl _, x2, (VR.whole (by decide)).mpr ?_, fun h => absurd h (by decide), rfl, rfl, ?_, ?_⟩)
  · exact pk_uLs.symm
  · intro j hj
    exact ⟨pk_uLn (by omega), rfl⟩
  · exact (Fr.sI (by decide) gm _).trans (Fr.sLA (by decide) _ _)
/-- a sort cast -/
theorem work_cast {n : Nat} {g gm : Gs} {T K s t : Nat} (hn : 65 ≤ n) (hK : K < 8000) (hT : gI g 93 = nI (T + 1)) (hT2 : T + 1 ≤ 400) (hTm : gI gm 4 = nI (T + 1)) (h14 : gIA g 14 K = 9) (h15 : gIA g 15 K = nI t) (h16 : gIA g 16 K = nI s) (hst : (s = 0 ∧ t = 0) ∨ (1 ≤ s ∧ 1 ≤ t)) (hs : s ≤ 7) (ht : t ≤ 7) (h5 : gI gm 5 = 0) (ha : VR s (gLA g 92 T) (gLA gm 2 T) (gDA gm 3 T)) (hi : VI s (gLA g 92 T)) : Out g gm T K t (f_X12_done n g (nI K)) (f_X1_workOne gm 66 (nI s) (nI t)) := by
  have o66 : ∀ gm1, f_X1_become gm (nI T) (nI s) (nI t) = some gm1 → f_X1_workOne gm 66 (nI s) (nI t) = some gm1 := by
    intro gm1 h
    rw [one_top hT2 hTm (by decide) h, if_neg (by decide), if_neg (by decide), if_neg (by decide), if_neg (by decide), if_neg (by decide)]
  rw [done_9 hK hT hT2 h14, h15, h16]
  have plain : ¬ (s = 7 ∧ t = 6) → ∀ q : Int64 × Gs, (if nI t = (6 : Int32) then (if nI s = (7 : Int32) then (if q.1 = (9223372036854775807 : Int64) then (some (0, sI (sI q.2 95 3) 96 (gIA q.2 17 K))) else (b_X12_done_403 n q.2 q.1)) else (b_X12_done_403 n q.2 q.1)) else (b_X12_done_403 n q.2 q.1)) = b_X12_done_403 n q.2 q.1 := by
    intro h q
    by_cases c : t = 6
    · by_cases c' : s = 7
      · exact absurd ⟨c', c⟩ h
      · rw [if_neg (show ¬ nI s = (7 : Int32) from fun z => c' ((nI_eq (b := 7) (by omega) (by decide)).mp z))]
        split <;> rfl
    · rw [if_neg (show ¬ nI t = (6 : Int32) from fun z => c ((nI_eq (b := 6) (by omega) (by decide)).mp z))]
  rcases hst with ⟨rfl, rfl⟩ | ⟨s1, t1⟩
  · have eb : f_X12_become n g (gLA g 92 T) (nI 0) (nI 0) = some (gLA g 92 T, g) := by unfold f_X12_become; exact if_pos rfl
    rw [bnd_s eb, plain (by decide), o66 _ (bec_same (by omega))]
    exact out_403 hT hT2 hTm (Sc.refl g) Mr.refl rfl ha hi
  · by_cases h76 : s = 7 ∧ t = 6
    · obtain ⟨rfl, rfl⟩ := h76
      obtain ⟨r, g', b1, b2, b3⟩ := become_val (n := n) (g := g) (t := 6) hn (by decide) (by decide) (by decide) (by decide) (by decide) ha
      obtain ⟨gm', c1, c2, c3⟩ := cls_become (g := gm) (row := T) (t := 6) (by omega) (by decide) (by decide) (by decide) (by decide) (by decide) rfl rfl ha
      rw [if_pos ⟨rfl, rfl⟩] at c3
      rw [bnd_s b1, o66 _ c1, if_pos (show nI 6 = (6 : Int32) from rfl), if_pos (show nI 7 = (7 : Int32) from rfl)]
      dsimp only
      rcases b3 with b3 | ⟨-, -, b3, b, b4⟩
      · obtain ⟨sg, u, f1, f2⟩ := VR.six.mp b3
        rw [if_neg f1.ne_over]
        have fin : fin64 (cb 7 6 (gLA gm 2 T) (gDA gm 3 T)).2.toInt64 = true := Dv.fin64 (x := (cb 7 6 (gLA gm 2 T) (gDA gm 3 T)).2.toInt64) f2
        rw [if_pos fin] at c3
        exact out_403 hT hT2 hTm b2 c2 (c3.trans h5.symm) b3 (fun h => absurd h (by decide))
      · rw [if_pos b3]
        rw [if_neg (show ¬ fin64 (cb 7 6 (gLA gm 2 T) (gDA gm 3 T)).2.toInt64 = true by rw [not_fin_inf b4]; decide)] at c3
        right
        refine ⟨_, gm', rfl, rfl, ((b2.fr.mono (by decide)).trans (Fr.sI (by decide) _ _)).trans (Fr.sI (by decide) _ _), c2.2.2.2.mono (by decide), ?_, ?_, ?_⟩
        · rw [c3]; decide
        · rw [c3]; rfl
        · show gIA g' 17 K = gIA g 17 K
          rw [b2.2.2.2.1]
    · obtain ⟨r, g', gm', w', d', b1, b2, b3, b4, b5, b6, b7⟩ := bec_two (n := n) (g := g) (t := t) hn (show T < 512 by omega) s1 hs t1 ht h76 rfl rfl ha hi
      rw [bnd_s b1, plain h76, o66 _ b3]
      exact out_403 hT hT2 hTm b2 b4 b5 b6 b7
/-- the second part of a question -/
theorem work_ask3 {n : Nat} {g gm : Gs} {T K s t : Nat} (hn : 65 ≤ n) (hK : K < 8000) (hT : gI g 93 = nI (T + 1)) (hT2 : T + 1 ≤ 400) (hTm : gI gm 4 = nI (T + 1)) (h14 : gIA g 14 K = 19) (h16 : gIA g 16 K = nI (8 * s + t)) (hst : (s = 0 ∧ t = 0) ∨ (1 ≤ s ∧ 1 ≤ t)) (hs : s ≤ 7) (ht : t ≤ 7) (h76 : ¬ (s = 7 ∧ t = 6)) (ha : VR s (gLA g 92 T) (gLA gm 2 T) (gDA gm 3 T)) (hi : VI s (gLA g 92 T)) : Out g gm T K t (f_X12_done n g (nI K)) (f_X1_become gm (nI T) (nI s) (nI t)) := by
  rw [done_19 hK hT hT2 h14 h16 hs ht]
  rcases hst with ⟨rfl, rfl⟩ | ⟨s1, t1⟩
  · have eb : f_X12_become n g (gLA g 92 T) (nI 0) (nI 0) = some (gLA g 92 T, g) := by unfold f_X12_become; exact if_pos rfl
    rw [bnd_s eb, bec_same (by omega)]
    exact out_403 hT hT2 hTm (Sc.refl g) Mr.refl rfl ha hi
  · obtain ⟨r, g', gm', w', d', b1, b2, b3, b4, b5, b6, b7⟩ := bec_two (n := n) (g := g) (t := t) hn (show T < 512 by omega) s1 hs t1 ht h76 rfl rfl ha hi
    rw [bnd_s b1, b3]
    exact out_403 hT hT2 hTm b2 b4 b5 b6 b7
