/-! the first of the least -/
def FA (S : Nat → Prop) (F : Nat → Nat) (c w b : Nat) : Prop := S b ∧ b < c ∧ F b = w ∧ ∀ c', S c' → c' < c → w ≤ F c' ∧ (c' < b → w < F c')
theorem FA.take {S : Nat → Prop} {F : Nat → Nat} {c w b : Nat} (h : FA S F c w b) (hc : S c) (hlt : F c < w) : FA S F (c + 1) (F c) c := by
  obtain ⟨h1, h2, h3, h4⟩ := h
  refine ⟨hc, by omega, rfl, fun c' hs hl => ?_⟩
  by_cases e : c' = c
  · subst e; exact ⟨Nat.le_refl _, fun z => absurd z (Nat.lt_irrefl _)⟩
  · have := h4 c' hs (by omega)
    exact ⟨by omega, fun _ => by omega⟩
theorem FA.keep {S : Nat → Prop} {F : Nat → Nat} {c w b : Nat} (h : FA S F c w b) (hge : w ≤ F c) : FA S F (c + 1) w b := by
  obtain ⟨h1, h2, h3, h4⟩ := h
  refine ⟨h1, by omega, h3, fun c' hs hl => ?_⟩
  by_cases e : c' = c
  · subst e; exact ⟨hge, fun z => absurd z (by omega)⟩
  · exact h4 c' hs (by omega)
theorem FA.first {S : Nat → Prop} {F : Nat → Nat} {c : Nat} (hc : S c) (hn : ∀ c', S c' → ¬ c' < c) : FA S F (c + 1) (F c) c :=
  ⟨hc, by omega, rfl, fun c' hs hl => by
    have e : c' = c := by have := hn c' hs; omega
    subst e; exact ⟨Nat.le_refl _, fun z => absurd z (Nat.lt_irrefl _)⟩⟩
theorem FA.unique {S : Nat → Prop} {F : Nat → Nat} {c w b w' b' : Nat} (h : FA S F c w b) (h' : FA S F c w' b') : w = w' ∧ b = b' := by
  obtain ⟨h1, h2, h3, h4⟩ := h
  obtain ⟨k1, k2, k3, k4⟩ := h'
  have a := h4 b' k1 k2
  have a2 := k4 b h1 h2
  have e : w = w' := by omega
  refine ⟨e, ?_⟩
  rcases Nat.lt_trichotomy b b' with q | q | q
  · have := a2.2 q; omega
  · exact q
  · have := a.2 q; omega
/-- the best so far: none, or the first of the least -/
def BS (S : Nat → Prop) (F : Nat → Nat) (c : Nat) (x : UInt64) (P : Nat → Prop) : Prop := (x = 13830554455654793216 ∧ ∀ c', S c' → ¬ c' < c) ∨ ∃ w b, Dv x false w ∧ FA S F c w b ∧ P b
theorem BS.skip {S : Nat → Prop} {F : Nat → Nat} {c c2 : Nat} {x : UInt64} {P : Nat → Prop} (h : BS S F c x P) (hle : c ≤ c2) (hn : ∀ c', S c' → c ≤ c' → ¬ c' < c2) : BS S F c2 x P := by
  rcases h with ⟨h1, h2⟩ | ⟨w, b, h1, ⟨f1, f2, f3, f4⟩, h3⟩
  · refine .inl ⟨h1, fun c' hs hl => ?_⟩
    rcases Nat.lt_or_ge c' c with q | q
    · exact h2 c' hs q
    · exact hn c' hs q hl
  · refine .inr ⟨w, b, h1, ⟨f1, by omega, f3, fun c' hs hl => ?_⟩, h3⟩
    rcases Nat.lt_or_ge c' c with q | q
    · exact f4 c' hs q
    · exact absurd hl (hn c' hs q)
theorem dv_m1 : Dv (13830554455654793216 : UInt64) true Jvm.FP.Core.one64 := by
  have h := dv_neg dv_one
  have e : FP.dneg FP.dconst1 = (13830554455654793216 : UInt64) := by decide
  rw [e] at h
  exact h
/-- one more: the choice that both sides make -/
theorem BS.more {S : Nat → Prop} {F : Nat → Nat} {c : Nat} {x far : UInt64} {P : Nat → Prop} (h : BS S F c x P) (hc : S c) (hf : Dv far false (F c)) :
    (((∀ o, Op.cmpValue (FP.dcmp x FP.dconst0) o < 0) ∨ ((∀ o, ¬ Op.cmpValue (FP.dcmp x FP.dconst0) o < 0) ∧ (∀ o, ¬ 0 ≤ Op.cmpValue (FP.dcmp far x) o) ∧ (∀ o, Op.cmpValue (FP.dcmp far x) o < 0))) ∧ ∀ P' : Nat → Prop, P' c → BS S F (c + 1) far P') ∨
    (((∀ o, ¬ Op.cmpValue (FP.dcmp x FP.dconst0) o < 0) ∧ (∀ o, 0 ≤ Op.cmpValue (FP.dcmp far x) o) ∧ (∀ o, ¬ Op.cmpValue (FP.dcmp far x) o < 0)) ∧ BS S F (c + 1) x P) := by
  rcases h with ⟨h1, h2⟩ | ⟨w, b, h1, h2, h3⟩
  · refine .inl ⟨.inl (fun o => ?_), fun P' hp => .inr ⟨F c, c, hf, FA.first hc h2, hp⟩⟩
    subst h1
    rw [cv_lt dv_m1.dz dv_zero.dz, sg_t, sg_f]
    have := Jvm.FP.Core.one64_pos
    omega
  · have n0 : ∀ o, ¬ Op.cmpValue (FP.dcmp x FP.dconst0) o < 0 := fun o => by
      rw [cv_lt h1.dz dv_zero.dz, sg_f, sg_f]; omega
    by_cases c1 : F c < w
    · refine .inl ⟨.inr ⟨n0, fun o => ?_, fun o => ?_⟩, fun P' hp => .inr ⟨F c, c, hf, h2.take hc c1, hp⟩⟩
      · rw [cv_ge hf.dz h1.dz, sg_f, sg_f]; omega
      · rw [cv_lt hf.dz h1.dz, sg_f, sg_f]; omega
    · refine .inr ⟨⟨n0, fun o => ?_, fun o => ?_⟩, .inr ⟨w, b, h1, h2.keep (by omega), h3⟩⟩
      · rw [cv_ge hf.dz h1.dz, sg_f, sg_f]; omega
      · rw [cv_lt hf.dz h1.dz, sg_f, sg_f]; omega
/-! pairs, the class -/
def S2 (lo hi c : Nat) : Prop := lo ≤ c / 1000 ∧ c / 1000 ≤ hi ∧ lo ≤ c % 1000 ∧ c % 1000 ≤ hi
def F2 (a G c : Nat) : Nat := Dd (Pv a (Qv (c / 1000) (c % 1000))) G
def PW (g : Gs) (row b : Nat) : Prop := gIA g 0 row = nI (b / 1000) ∧ gIA g 0 (row + 1) = nI (b % 1000)
/-- only the two wheels behind row may change -/
def Wf (row : Nat) (g g' : Gs) : Prop := Fr [0] g g' ∧ ∀ i, i ≠ row → i ≠ row + 1 → gIA g' 0 i = gIA g 0 i
theorem Wf.refl (row : Nat) (g : Gs) : Wf row g g := ⟨Fr.refl _ _, fun _ _ _ => rfl⟩
theorem Wf.trans {row : Nat} {a b c : Gs} (h : Wf row a b) (h' : Wf row b c) : Wf row a c := ⟨h.1.trans h'.1, fun i h1 h2 => (h'.2 i h1 h2).trans (h.2 i h1 h2)⟩
theorem f_quotient {n m : Nat} (hn : n ≤ 200) (hm : m ≤ 200) (hm4 : 4 ≤ m) : ∃ q, f_X10_quotient (nI n) (nI m) = some q ∧ Dv q false (Qv n m) := by
  have d := dv_quot hn hm hm4
  unfold f_X10_quotient
  rw [if_neg (nI_ne0 (by omega) (by omega)), grd_t d.n64]
  exact ⟨_, rfl, d⟩
theorem pair_in {N lo hi a G row : Nat} {v1 v3 : UInt64} (hlo : 4 ≤ lo) (hhi : hi ≤ 200) (hr : row ≤ 2) (d1 : Dv v1 false a) (ha : a ≤ 50 * Jvm.FP.Core.one64) (d3 : Dv v3 false G) {n : Nat} (hn1 : lo ≤ n) (hn2 : n ≤ hi) : ∀ (d f m : Nat) (g : Gs) (x : UInt64), m + d = hi + 1 → d < f → lo ≤ m → BS (S2 lo hi) (F2 a G) (1000 * n + m) x (PW g row) → ∃ (g' : Gs) (x' : UInt64) (f' : Nat), f ≤ f' + d + 1 ∧ (L_X10_findPair N f).2 g v1 v3 (nI lo) (nI hi) (nI row) x (nI n) (nI m) = (L_X10_findPair N f').1 g' v1 v3 (nI lo) (nI hi) (nI row) x' (nI (n + 1)) ∧ BS (S2 lo hi) (F2 a G) (1000 * n + hi + 1) x' (PW g' row) ∧ Wf row g g'
  | _, 0, _, _, _, _, h, _, _ => absurd h (Nat.not_lt_zero _)
  | 0, f + 1, m, g, x, hm, _, _, hB => by
    refine ⟨g, x, f, by omega, ?_, ?_, Wf.refl _ _⟩
    · show h_X10_findPair_20 N (L_X10_findPair N f) g v1 v3 (nI lo) (nI hi) (nI row) x (nI n) (nI m) = _
      unfold h_X10_findPair_20
      rw [if_pos (nI_lt (by omega) (by omega)), nI_1]
    · rw [show 1000 * n + hi + 1 = 1000 * n + m by omega]; exact hB
  | d + 1, f + 1, m, g, x, hm, hf, hml, hB => by
    obtain ⟨q, q1, q2⟩ := f_quotient (n := n) (m := m) (by omega) (by omega) (by omega)
    have dp := dv_prod d1 q2 ha (qv_le (by omega) (by omega))
    obtain ⟨far, r1, r2⟩ := f_distance dp d3
    have ec : (1000 * n + m) / 1000 = n := by omega
    have em : (1000 * n + m) % 1000 = m := by omega
    have hF : F2 a G (1000 * n + m) = Dd (Pv a (Qv n m)) G := by unfold F2; rw [ec, em]
    rw [← hF] at r2
    have hS : S2 lo hi (1000 * n + m) := by
      unfold S2
      rw [ec, em]; omega
    have body : (L_X10_findPair N (f + 1)).2 g v1 v3 (nI lo) (nI hi) (nI row) x (nI n) (nI m) = (if (Op.cmpValue (FP.dcmp x FP.dconst0) .g) < 0 then (b_X10_findPair_57 N (L_X10_findPair N f) g v1 v3 (nI lo) (nI hi) (nI row) (nI n) (nI m) far) else (if 0 ≤ (Op.cmpValue (FP.dcmp far x) .g) then (b_X10_findPair_81 N (L_X10_findPair N f) g v1 v3 (nI lo) (nI hi) (nI row) x (nI n) (nI m)) else (b_X10_findPair_57 N (L_X10_findPair N f) g v1 v3 (nI lo) (nI hi) (nI row) (nI n) (nI m) far))) := by
      show h_X10_findPair_20 N (L_X10_findPair N f) g v1 v3 (nI lo) (nI hi) (nI row) x (nI n) (nI m) = _
      unfold h_X10_findPair_20
      rw [if_neg (nI_nlt (by omega) (by omega)), bnd_s q1, grd_t dp.n64, bnd_s r1]
    have take : ∃ g1 : Gs, b_X10_findPair_57 N (L_X10_findPair N f) g v1 v3 (nI lo) (nI hi) (nI row) (nI n) (nI m) far = (L_X10_findPair N f).2 g1 v1 v3 (nI lo) (nI hi) (nI row) far (nI n) (nI (m + 1)) ∧ PW g1 row (1000 * n + m) ∧ Wf row g g1 := by
      unfold b_X10_findPair_57 b_X10_findPair_81
      rw [nI_1, grd_t (inB_nI (N := 4) (by omega) (by decide)), grd_t (inB_nI (N := 4) (by omega) (by decide)), nI_clamp (by omega), nI_clamp (by omega), nI_1]
      refine ⟨_, rfl, ⟨?_, ?_⟩, ?_, ?_⟩
      · show upd (upd (gIA g 0) row (nI n)) (row + 1) (nI m) row = _
        rw [pk_un (by omega), pk_us, ec]
      · show upd (upd (gIA g 0) row (nI n)) (row + 1) (nI m) (row + 1) = _
        rw [pk_us, em]
      · exact (Fr.sIA (by decide) _ _).trans (Fr.sIA (by decide) _ _)
      · intro i h1 h2
        show upd (upd (gIA g 0) row (nI n)) (row + 1) (nI m) i = _
        rw [pk_un h2, pk_un h1]
    rw [body]
    rcases hB.more hS r2 with ⟨hd, hP⟩ | ⟨⟨k1, k2, k3⟩, hP⟩
    · obtain ⟨g1, t1, t2, t3⟩ := take
      have hsel : (if (Op.cmpValue (FP.dcmp x FP.dconst0) .g) < 0 then (b_X10_findPair_57 N (L_X10_findPair N f) g v1 v3 (nI lo) (nI hi) (nI row) (nI n) (nI m) far) else (if 0 ≤ (Op.cmpValue (FP.dcmp far x) .g) then (b_X10_findPair_81 N (L_X10_findPair N f) g v1 v3 (nI lo) (nI hi) (nI row) x (nI n) (nI m)) else (b_X10_findPair_57 N (L_X10_findPair N f) g v1 v3 (nI lo) (nI hi) (nI row) (nI n) (nI m) far))) = b_X10_findPair_57 N (L_X10_findPair N f) g v1 v3 (nI lo) (nI hi) (nI row) (nI n) (nI m) far := by
        rcases hd with hd | ⟨e1, e2, -⟩
        · rw [if_pos (hd _)]
        · rw [if_neg (e1 _), if_neg (e2 _)]
      rw [hsel, t1]
      obtain ⟨g2, x2, f2, u1, u2, u3, u4⟩ := pair_in (N := N) hlo hhi hr d1 ha d3 hn1 hn2 d f (m + 1) g1 far (by omega) (by omega) (by omega) (hP _ t2)
      exact ⟨g2, x2, f2, by omega, u2, u3, t3.trans u4⟩
    · rw [if_neg (k1 _), if_pos (k2 _)]
      unfold b_X10_findPair_81
      rw [nI_1]
      obtain ⟨g2, x2, f2, u1, u2, u3, u4⟩ := pair_in (N := N) hlo hhi hr d1 ha d3 hn1 hn2 d f (m + 1) g x (by omega) (by omega) (by omega) hP
      exact ⟨g2, x2, f2, by omega, u2, u3, u4⟩
theorem s2_gap {lo hi n : Nat} (hhi : hi ≤ 200) (hlo : lo ≤ hi) : ∀ c', S2 lo hi c' → 1000 * n + hi + 1 ≤ c' → ¬ c' < 1000 * (n + 1) + lo := by
  intro c' h h1 h2
  unfold S2 at h
  omega
theorem pair_out {N lo hi a G row : Nat} {v1 v3 : UInt64} (hlo : 4 ≤ lo) (hhi : hi ≤ 200) (hw : lo ≤ hi) (hr : row ≤ 2) (d1 : Dv v1 false a) (ha : a ≤ 50 * Jvm.FP.Core.one64) (d3 : Dv v3 false G) (hgap : hi - lo ≤ 30) : ∀ (d f n : Nat) (g : Gs) (x : UInt64), n + d = hi + 1 → d * 40 < f → lo ≤ n → BS (S2 lo hi) (F2 a G) (1000 * n + lo) x (PW g row) → ∃ (g' : Gs) (x' : UInt64), (L_X10_findPair N f).1 g v1 v3 (nI lo) (nI hi) (nI row) x (nI n) = some (x', g') ∧ BS (S2 lo hi) (F2 a G) (1000 * (hi + 1) + lo) x' (PW g' row) ∧ Wf row g g'
  | _, 0, _, _, _, _, h, _, _ => absurd h (Nat.not_lt_zero _)
  | 0, f + 1, n, g, x, hn, _, _, hB => by
    refine ⟨g, x, ?_, ?_, Wf.refl _ _⟩
    · show h_X10_findPair_9 N (L_X10_findPair N f) g v1 v3 (nI lo) (nI hi) (nI row) x (nI n) = _
      unfold h_X10_findPair_9
      rw [if_pos (nI_lt (by omega) (by omega))]
    · rw [show hi + 1 = n by omega]; exact hB
  | d + 1, f + 1, n, g, x, hn, hf, hnl, hB => by
    have e1 : (L_X10_findPair N (f + 1)).1 g v1 v3 (nI lo) (nI hi) (nI row) x (nI n) = (L_X10_findPair N f).2 g v1 v3 (nI lo) (nI hi) (nI row) x (nI n) (nI lo) := by
      show h_X10_findPair_9 N (L_X10_findPair N f) g v1 v3 (nI lo) (nI hi) (nI row) x (nI n) = _
      unfold h_X10_findPair_9
      rw [if_neg (nI_nlt (by omega) (by omega))]
    obtain ⟨g1, x1, f1, u1, u2, u3, u4⟩ := pair_in (N := N) hlo hhi hr d1 ha d3 hnl (by omega) (hi + 1 - lo) f lo g x (by omega) (by omega) (Nat.le_refl _) hB
    obtain ⟨g2, x2, w1, w2, w3⟩ := pair_out (N := N) hlo hhi hw hr d1 ha d3 hgap d f1 (n + 1) g1 x1 (by omega) (by omega) (by omega) (u3.skip (by omega) (s2_gap hhi hw))
    exact ⟨g2, x2, by rw [e1, u2, w1], w2, u4.trans w3⟩
/-- findPair finds the first of the nearest -/
theorem f_findPair {N lo hi a G row : Nat} {v1 v3 : UInt64} {g : Gs} (hN : 2000 ≤ N) (hlo : 4 ≤ lo) (hhi : hi ≤ 200) (hw : lo ≤ hi) (hr : row ≤ 2) (d1 : Dv v1 false a) (ha : a ≤ 50 * Jvm.FP.Core.one64) (d3 : Dv v3 false G) (hgap : hi - lo ≤ 30) : ∃ (g' : Gs) (x' : UInt64) (w b : Nat), f_X10_findPair N g v1 v3 (nI lo) (nI hi) (nI row) = some (x', g') ∧ Dv x' false w ∧ FA (S2 lo hi) (F2 a G) (1000 * (hi + 1) + lo) w b ∧ PW g' row b ∧ Wf row g g' := by
  have h0 : BS (S2 lo hi) (F2 a G) (1000 * lo + lo) (13830554455654793216 : UInt64) (PW g row) := by
    refine .inl ⟨rfl, fun c' h h1 => ?_⟩
    unfold S2 at h
    omega
  obtain ⟨g', x', p1, p2, p3⟩ := pair_out (N := N) hlo hhi hw hr d1 ha d3 hgap (hi + 1 - lo) N lo g _ (by omega) (by omega) (Nat.le_refl _) h0
  rcases p2 with ⟨-, q⟩ | ⟨w, b, q1, q2, q3⟩
  · exfalso
    refine q (1000 * lo + lo) ?_ (by omega)
    unfold S2
    omega
  · exact ⟨g', x', w, b, p1, q1, q2, q3, p3⟩
