/-! + - * / % of reals on both sides -/
theorem Fl.ne_over {r : Int64} {s : Bool} {u : Nat} (h : Fl r s u) : ¬ r = (9223372036854775807 : Int64) := by
  obtain ⟨c, k, -, h2, h3, -, h5⟩ := h
  intro z
  rw [z, show uL (9223372036854775807 : Int64) = 9223372036854775807 from rfl] at h5
  cases s with
  | false => rw [if_neg (by decide)] at h5; omega
  | true => rw [if_pos rfl] at h5; omega
theorem VR.real {t : Nat} {v w : Int64} {d : UInt64} (ht : t = 6 ∨ t = 7) (h : VR t v w d) : ∃ s u, Dv d s u ∧ (t = 6 → Fl v s u) ∧ (t = 7 → v.toUInt64 = d) := by
  rcases ht with rfl | rfl
  · obtain ⟨s, u, h1, h2⟩ := VR.six.mp h
    exact ⟨s, u, h2, fun _ => h1, fun z => absurd z (by decide)⟩
  · obtain ⟨h1, s, u, h2⟩ := VR.seven.mp h
    exact ⟨s, u, h2, fun z => absurd z (by decide), fun _ => h1⟩
theorem become77 {n : Nat} {g : Gs} {x : Int64} : f_X12_become n g x 7 7 = some (x, g) := by
  unfold f_X12_become
  exact if_pos rfl
theorem counts_r {n : Nat} {g gm g2 : Gs} {K T t : Nat} {o o' : Int32} {a b wa wb : Int64} {da db : UInt64} (hn : 3000 ≤ n) (hTb : Tb g2) (hK : K < 8000) (hT : gI g 93 = nI (T + 1)) (hT2 : T < 400) (hp : OP o o') (ht : t = 6 ∨ t = 7) (ha : VR t a wa da) (hb : VR t b wb db) :
    (∃ r g' q, f_X12_counts n g (nI K) o a b (nI t) = some (1, sLA g' 92 (vp_updL (gLA g' 92) T r)) ∧ Sc g g' ∧ f_X1_workReals n gm g2 o' (nI t) da db = some (q, gm) ∧ ∀ w, VR t r w q) ∨
    (∃ (kind : Int32) (g' : Gs) (q : UInt64), kind ≠ 0 ∧ f_X12_counts n g (nI K) o a b (nI t) = some (0, sI (sI g' 95 kind) 96 (gIA g 17 K)) ∧ Sc g g' ∧ f_X1_workReals n gm g2 o' (nI t) da db = some (q, sI gm 5 kind)) := by
  obtain ⟨s1, u, dA, a6, a7⟩ := VR.real ht ha
  obtain ⟨s2, v, dB, b6, b7⟩ := VR.real ht hb
  have ir := isReal67 ht
  have iz : f_X12_isZero b (nI t) = some (sgB (decide (v = 0))) := by
    rcases ht with rfl | rfl
    · exact isZero6 (b6 rfl)
    · exact isZero7 (by rw [b7 rfl]; exact dB)
  have st : ∀ g' : Gs, Sc g g' → ∀ r, b_X12_counts_261 n g' r = some (1, sLA g' 92 (vp_updL (gLA g' 92) T r)) := by
    intro g' hg r
    unfold b_X12_counts_261
    have e : gI g' 93 - (1 : Int32) = nI T := by rw [hg.1 93 (by decide) (by decide), hT]; exact nI_pred T
    rw [e, grd_t (inB_nI hT2 (by decide)), nI_clamp (by omega)]
  have jam : ∀ (g' : Gs) (kind : Int32), Sc g g' → (grd (inB (nI K) 8000) (bnd (f_X12_jams g' kind (gIA g' 17 (nI K).toNatClampNeg)) (fun q_9 => grd (zB q_9.1) (some (q_9.1, q_9.2))))) = some (0, sI (sI g' 95 kind) 96 (gIA g 17 K)) := by
    intro g' kind hg
    rw [grd_t (inB_nI hK (by decide)), nI_clamp (by omega), hg.2.2.2.1]
    rfl
  -- the two signs that divide jam at 0
  have dz : (o = 47 ∨ o = 37) → v = 0 → (∃ (kind : Int32) (g' : Gs) (q : UInt64), kind ≠ 0 ∧ f_X12_counts n g (nI K) o a b (nI t) = some (0, sI (sI g' 95 kind) 96 (gIA g 17 K)) ∧ Sc g g' ∧ f_X1_workReals n gm g2 o' (nI t) da db = some (q, sI gm 5 kind)) := by
    intro ho hv
    refine ⟨2, g, FP.dconst0, by decide, ?_, Sc.refl g, ?_⟩
    · have e17 : b_X12_counts_17 n g (nI K) o a b (nI t) 1 = some (0, sI (sI g 95 2) 96 (gIA g 17 K)) := by
        unfold b_X12_counts_17
        rw [bnd_s ir, if_neg (by decide), if_neg (by decide), bnd_s iz, decide_eq_true hv, if_neg (by decide), jam g 2 (Sc.refl g)]
      unfold f_X12_counts b_X12_counts_12
      rcases ho with rfl | rfl
      · rw [if_pos rfl, e17]
      · rw [if_neg (by decide), if_pos rfl, e17]
    · have e12 : b_X1_workReals_12 n gm g2 o' (nI t) da db = some (FP.dconst0, sI gm 5 2) := by
        unfold b_X1_workReals_12
        rw [if_pos]
        rw [cv_eq dB.dz dv_zero.dz, hv, Jvm.FP.Core.signed_zero, sg_f]; rfl
      unfold f_X1_workReals
      rcases hp with ⟨h, -⟩ | ⟨h, -⟩ | ⟨h, -⟩ | ⟨-, rfl⟩ | ⟨-, rfl⟩
      · rcases ho with h' | h' <;> (rw [h] at h'; exact absurd h' (by decide))
      · rcases ho with h' | h' <;> (rw [h] at h'; exact absurd h' (by decide))
      · rcases ho with h' | h' <;> (rw [h] at h'; exact absurd h' (by decide))
      · rw [if_pos rfl, e12]
      · rw [if_neg (by decide), if_pos rfl, e12]
  -- behind the test for 0
  have past : (o = 47 ∨ o = 37 → v ≠ 0) → f_X12_counts n g (nI K) o a b (nI t) = b_X12_counts_57 n g (nI K) o a b (nI t) := by
    intro hv
    unfold f_X12_counts b_X12_counts_12 b_X12_counts_17
    by_cases c1 : o = 47
    · rw [if_pos c1, bnd_s ir, if_neg (by decide), if_neg (by decide), bnd_s iz, decide_eq_false (hv (.inl c1)), if_pos (by decide)]
    · rw [if_neg c1]
      by_cases c2 : o = 37
      · rw [if_pos c2, bnd_s ir, if_neg (by decide), if_neg (by decide), bnd_s iz, decide_eq_false (hv (.inr c2)), if_pos (by decide)]
      · rw [if_neg c2, bnd_s ir, if_neg (by decide), if_pos rfl]
  by_cases hdz : (o = 47 ∨ o = 37) ∧ v = 0
  · exact .inr (dz hdz.1 hdz.2)
  · have hv : o = 47 ∨ o = 37 → v ≠ 0 := fun h z => hdz ⟨h, z⟩
    rw [past hv]
    unfold b_X12_counts_57 b_X12_counts_111
    by_cases c37 : o = 37
    · -- the remainder
      have hv0 := hv (.inr c37)
      have ho' : o' = 53 := by
        rcases hp with ⟨h, -⟩ | ⟨h, -⟩ | ⟨h, -⟩ | ⟨h, -⟩ | ⟨-, h⟩
        · rw [c37] at h; exact absurd h (by decide)
        · rw [c37] at h; exact absurd h (by decide)
        · rw [c37] at h; exact absurd h (by decide)
        · rw [c37] at h; exact absurd h (by decide)
        · exact h
      have cls : ∀ q, f_X6_remainder n g2 da db = some q → f_X1_workReals n gm g2 o' (nI t) da db = some (q, gm) := by
        intro q hq
        unfold f_X1_workReals b_X1_workReals_12 b_X1_workReals_26
        rw [ho', if_neg (by decide), if_pos rfl, if_neg, if_neg (by decide), if_neg (by decide), if_neg (by decide), if_pos rfl, bnd_s hq]
        rw [cv_eq dB.dz dv_zero.dz, sg_f]
        exact fun z => hv0 ((Jvm.FP.Core.signed_eq_zero s2 v).mp z)
      left
      rw [if_pos c37]
      rcases ht with rfl | rfl
      · obtain ⟨A, g1, B, g3, R, g4, r, g5, d, e1, e2, e3, e4, e5, e6, w, e7, e8⟩ := rem6 (n := n) (g := g) hn hTb (a6 rfl) dA (b6 rfl) dB hv0
        refine ⟨r, g5, d, ?_, e5, cls d e6, fun w' => VR.six.mpr ⟨s1, w, e7, e8⟩⟩
        have e1' : f_X12_become n g a (nI 6) 7 = some (A, g1) := e1
        have e2' : f_X12_become n g1 b (nI 6) 7 = some (B, g3) := e2
        have e4' : f_X12_become n g4 R 7 (nI 6) = some (r, g5) := e4
        rw [bnd_s e1']
        dsimp only
        rw [bnd_s e2']
        dsimp only
        rw [bnd_s e3]
        dsimp only
        rw [bnd_s e4']
        dsimp only
        rw [if_pos c37]
        exact st g5 e5 r
      · have xA : Dv a.toUInt64 s1 u := by rw [a7 rfl]; exact dA
        have xB : Dv b.toUInt64 s2 v := by rw [b7 rfl]; exact dB
        obtain ⟨R, g4, r1, r2, r3⟩ := f_rem_ref (g := g) hn xA xB hv0
        obtain ⟨d, d1, d2⟩ := f_rem_cls hn hTb dA dB hv0
        refine ⟨R, g4, d, ?_, r2, cls d d1, fun w' => VR.seven.mpr ⟨r3.inj d2, s1, _, d2⟩⟩
        have b77 : ∀ (g : Gs) (x : Int64), f_X12_become n g x (nI 7) 7 = some (x, g) := fun g x => become77
        have b77' : ∀ (g : Gs) (x : Int64), f_X12_become n g x 7 (nI 7) = some (x, g) := fun g x => become77
        rw [bnd_s (b77 _ _)]
        dsimp only
        rw [bnd_s (b77 _ _)]
        dsimp only
        rw [bnd_s r1]
        dsimp only
        rw [bnd_s (b77' _ _)]
        dsimp only
        rw [if_pos c37]
        exact st g4 r2 R
    · rw [if_neg c37]
      have ho4 : o = 43 ∨ o = 45 ∨ o = 42 ∨ o = 47 := by
        rcases hp with ⟨h, -⟩ | ⟨h, -⟩ | ⟨h, -⟩ | ⟨h, -⟩ | ⟨h, -⟩
        · exact .inl h
        · exact .inr (.inl h)
        · exact .inr (.inr (.inl h))
        · exact .inr (.inr (.inr h))
        · exact absurd h c37
      rcases ht with rfl | rfl
      · obtain ⟨r, g', k1, k2, k3, k4⟩ := reckoned6 (n := n) (g := g) (by omega) ho4 (a6 rfl) dA (b6 rfl) dB (fun z => hv (.inl z))
        obtain ⟨z1, z2⟩ := cls_reck (n := n) (gm := gm) (g2 := g2) (t := 6) (z := FP.f2d (fop o (FP.d2f da) (FP.d2f db))) hp c37 (.inl rfl) dA dB (fun z => hv (.inl z)) (by rw [if_pos rfl]) (fun _ => k3)
        have k1' : f_X12_reckoned n g o a b (nI 6) = some (r, g') := k1
        rw [bnd_s k1']
        dsimp only
        rw [if_neg c37]
        rcases k4 with ⟨sg, w, f1, f2⟩ | ⟨f1, sg, f2⟩
        · left
          have f2' : Dv (FP.f2d (fop o (FP.d2f da) (FP.d2f db))).toInt64.toUInt64 sg w := f2
          rw [f2'.fin64, if_pos rfl] at z2
          refine ⟨r, g', _, ?_, k2, z2, fun w' => VR.six.mpr ⟨sg, w, f1, f2⟩⟩
          rw [if_neg f1.ne_over]
          exact st g' k2 r
        · right
          rw [not_fin_inf f2, if_neg (by decide)] at z2
          refine ⟨3, g', _, by decide, ?_, k2, z2⟩
          rw [if_pos f1]
          exact jam g' 3 k2
      · have xA : Jvm.FP.Core.val64 a.toUInt64 ≠ .nan := by rw [a7 rfl]; exact dA.ne_nan
        have xB : Jvm.FP.Core.val64 b.toUInt64 ≠ .nan := by rw [b7 rfl]; exact dB.ne_nan
        obtain ⟨z1, z2⟩ := cls_reck (n := n) (gm := gm) (g2 := g2) (t := 7) (z := dop o da db) hp c37 (.inr rfl) dA dB (fun z => hv (.inl z)) (by rw [if_neg (by decide)]) (fun z => absurd z (by decide))
        have k1 := reckoned7 (n := n) (g := g) (o := o) (a := a) (b := b) xA xB (by rw [a7 rfl, b7 rfl]; exact z1)
        rw [a7 rfl, b7 rfl] at k1
        have k1' : f_X12_reckoned n g o a b (nI 7) = some (orOver (dop o da db), g) := k1
        rw [bnd_s k1']
        dsimp only
        rw [if_neg c37]
        by_cases hf : fin64 (dop o da db).toInt64 = true
        · left
          rw [hf, if_pos rfl] at z2
          have eo : orOver (dop o da db) = (dop o da db).toInt64 := if_pos hf
          have ne : ¬ orOver (dop o da db) = 9223372036854775807 := fun z => by
            have := (orOver_over _).mp z
            rw [hf] at this; cases this
          obtain ⟨sg, w, dd⟩ := fin64_dv hf
          refine ⟨(dop o da db).toInt64, g, _, ?_, Sc.refl g, z2, fun w' => VR.seven.mpr ⟨rfl, sg, w, dd⟩⟩
          rw [if_neg ne, eo]
          exact st g (Sc.refl g) _
        · right
          have hf' : fin64 (dop o da db).toInt64 = false := by simpa using hf
          rw [hf', if_neg (by decide)] at z2
          refine ⟨3, g, _, by decide, ?_, Sc.refl g, z2⟩
          rw [if_pos ((orOver_over _).mpr hf')]
          exact jam g 3 (Sc.refl g)
