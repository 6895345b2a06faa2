/-! sorts: entries of one value -/
/-- what both sides hold at an entry before it is settled -/
def Sd (g gc gp : Gs) (many cams i : Nat) (q : Nat × Nat × Nat) : Prop :=
  gIA gc 0 i = nI q.1 ∧ gIA g 14 (2000 + i) = nI (ro q.1) ∧ gIA gc 1 i = gIA g 17 (2000 + i) ∧
  (q.1 = 3 → ∃ s, s ≤ 7 ∧ gIA g 15 (2000 + i) = nI s ∧ gIA gc 2 i = nI s ∧ VR s (gLA g 18 (2000 + i)) (gLA gc 6 i) (gDA gc 7 i) ∧ VI s (gLA g 18 (2000 + i))) ∧
  ((q.1 = 63 ∨ q.1 = 16) → ∃ a, a < many ∧ gIA gc 5 i = nI a ∧ gIA g 15 (2000 + i) = nI a) ∧
  (q.1 = 64 → ∃ a, a < cams ∧ gIA gc 5 i = nI a ∧ gIA g 15 (2000 + i) = nI a) ∧
  (opT q.1 → ∃ k, k ∈ KS ∧ gIA g 15 (2000 + i) = nI k ∧ kc k = q.1) ∧
  (q.1 = 66 → gIA g 15 (2000 + i) = nI q.2.2 ∧ gIA gc 2 i = nI q.2.2 ∧ q.2.2 ≤ 7) ∧
  (opJ q.1 → q.2.2 ≠ 9999 → gIA g 15 (2000 + i) = nI (2000 + q.2.2 + 1) ∧ gIA gc 5 i = nI q.2.2) ∧
  (q.1 = 44 → gIA g 15 (2000 + i) = nI (2000 + q.2.2) ∧ gIA gc 5 i = nI q.2.2)
def SO (g gp : Gs) (srt : Nat → Nat) (many : Nat) : Prop := many ≤ 40 ∧ ∀ a, a < many → srt a ≤ 7 ∧ (gIA gp 7 a = nI (srt a) ∧ f_X4_sortOf gp (nI a) = some (nI (srt a))) ∧ f_X12_sortOf g (nI a) = some (nI (srt a))
/-- what settling changes: at the entries of P alone -/
def Ch (P : Nat → Prop) (g gT gc g' gT' gc' : Gs) : Prop := Fr [16, 57, 58] g g' ∧ Fr [0, 1] gT gT' ∧ Fr [2, 3, 4] gc gc' ∧ (∀ q, q < 2000 → gIA g' 16 q = gIA g 16 q) ∧ ∀ q, ¬ P q → gIA g' 16 (2000 + q) = gIA g 16 (2000 + q) ∧ gIA gc' 2 q = gIA gc 2 q ∧ gIA gc' 3 q = gIA gc 3 q ∧ gIA gc' 4 q = gIA gc 4 q
theorem Ch.mono {P Q : Nat → Prop} {g gT gc g' gT' gc' : Gs} (h : Ch P g gT gc g' gT' gc') (hpq : ∀ q, P q → Q q) : Ch Q g gT gc g' gT' gc' := ⟨h.1, h.2.1, h.2.2.1, h.2.2.2.1, fun q hq => h.2.2.2.2 q (fun z => hq (hpq q z))⟩
theorem Ch.trans {P : Nat → Prop} {g gT gc g' gT' gc' g'' gT'' gc'' : Gs} (h : Ch P g gT gc g' gT' gc') (h' : Ch P g' gT' gc' g'' gT'' gc'') : Ch P g gT gc g'' gT'' gc'' := by
  obtain ⟨a1, a2, a3, a4, a5⟩ := h
  obtain ⟨b1, b2, b3, b4, b5⟩ := h'
  refine ⟨a1.trans b1, a2.trans b2, a3.trans b3, fun q hq => (b4 q hq).trans (a4 q hq), fun q hq => ?_⟩
  obtain ⟨x1, x2, x3, x4⟩ := a5 q hq
  obtain ⟨y1, y2, y3, y4⟩ := b5 q hq
  exact ⟨y1.trans x1, y2.trans x2, y3.trans x3, y4.trans x4⟩
theorem Sd.keep {P : Nat → Prop} {g gT gc g' gT' gc' gp : Gs} {many cams i : Nat} {q : Nat × Nat × Nat} (h : Sd g gc gp many cams i q) (hc : Ch P g gT gc g' gT' gc') (hi : ¬ P i) : Sd g' gc' gp many cams i q := by
  obtain ⟨a1, a2, a3, a4, a5⟩ := hc
  unfold Sd at *
  rw [(a3 0 (by decide)).2.2.2.1, (a1 14 (by decide)).2.2.2.1, (a3 1 (by decide)).2.2.2.1, (a1 17 (by decide)).2.2.2.1, (a1 15 (by decide)).2.2.2.1, (a5 i hi).2.1, (a3 5 (by decide)).2.2.2.1, (a1 18 (by decide)).2.2.2.2.1, (a3 6 (by decide)).2.2.2.2.1, (a3 7 (by decide)).2.2.2.2.2.1]
  exact h
theorem SO.keep {X : List Nat} {g g' gp : Gs} {srt : Nat → Nat} {many : Nat} (h : SO g gp srt many) (hf : Fr X g g') (hX : 59 ∉ X ∧ 38 ∉ X ∧ 67 ∉ X) : SO g' gp srt many := by
  unfold SO f_X12_sortOf at *
  rw [(hf 59 hX.1).1, (hf 67 hX.2.2).2.2.2.1, (hf 38 hX.2.1).2.2.2.1]
  exact h
/-- both refuse at entry i -/
def SoF (g gT gc : Gs) (i : Nat) (r : Option (Int32 × Gs)) (c : Option (Int32 × Gs × Gs)) : Prop := ∃ g' gT' gc', r = some (0, g') ∧ c = some (0, gT', gc') ∧ gI g' 21 = 4 ∧ gI g' 22 = gIA g 17 (2000 + i) ∧ Fr [16, 21, 22, 57, 58] g g' ∧ (∀ q, q < 2000 → gIA g' 16 q = gIA g 16 q) ∧ Fr [0, 1] gT gT' ∧ Fr [2, 3, 4] gc gc'
theorem so_666 {g : Gs} {K : Nat} (hK : K < 8000) : b_X12_sorted_666 g (nI K) 1 = some (1, g) ∧ b_X12_sorted_666 g (nI K) 0 = some (0, sI (sI g 21 4) 22 (gIA g 17 K)) := by
  constructor
  · unfold b_X12_sorted_666; rw [if_neg (by decide)]
  · unfold b_X12_sorted_666; rw [if_pos rfl, grd_t (inB_nI hK (by decide)), nI_clamp (by omega)]; rfl
/-- values put on -/
theorem so_push {g gT gc gp : Gs} {srt : Nat → Nat} {many cams i T : Nat} {X : Nat → Nat} {q : Nat × Nat × Nat} (h : St g gT T X) (hT : T < 400) (hi : i < 840) (hS : Sd g gc gp many cams i q) (hO : SO g gp srt many) (ho : q.1 = 3 ∨ q.1 = 18 ∨ q.1 = 17 ∨ q.1 = 63 ∨ q.1 = 16) : ∃ t, t ≤ 7 ∧ f_X12_sorted g (nI (2000 + i)) = some (1, giv g T (nI t)) ∧ f_X8_settle gT gp gc (nI i) = some (1, giT gT T (nI t), gc) ∧ Ps g gc srt many (2000 + i) i t := by
  have bK : inB (nI (2000 + i)) 8000 = true := inB_nI (by omega) (by decide)
  have cK : (nI (2000 + i)).toNatClampNeg = 2000 + i := nI_clamp (by omega)
  have bi : inB (nI i) 840 = true := inB_nI hi (by decide)
  have ci : (nI i).toNatClampNeg = i := nI_clamp (by omega)
  obtain ⟨h0, h14, h17, h3, h6, _⟩ := hS
  have hg : ∀ x, f_X12_gives g 0 x = some (giv g T x) := fun x => giv_ok (k := 0) rfl h.1 hT
  have hs : ∀ x, f_X8_give gT x = some (1, giT gT T x) := fun x => giT_ok h.2.1 hT
  have k1 := fun g => (so_666 (g := g) (K := 2000 + i) (by omega)).1
  have st := so_start (v := nI (2000 + i)) h (by omega) rfl rfl
  rcases ho with ho | ho | ho | ho
  · obtain ⟨s, s1, s2, s3, s4, s5⟩ := h3 ho
    rw [ho] at h0 h14
    refine ⟨s, s1, ?_, ?_, .inl ⟨h0, h14, s4, s5⟩⟩
    · rw [st]; unfold b_X12_sorted_66
      rw [grd_t bK, cK, h14, if_pos (show nI (ro 3) = (1 : Int32) from rfl), grd_t bK, s2, bnd_s (hg _), k1]
    · unfold f_X8_settle
      rw [grd_t bi, ci, h0, if_pos (show nI 3 = (3 : Int32) from rfl), grd_t bi, s3, bnd_s (hs _)]
      rfl
  · rw [ho] at h0 h14
    refine ⟨5, by decide, ?_, ?_, .inr (.inl ⟨h0, h14, rfl⟩)⟩
    · rw [st]; unfold b_X12_sorted_66
      rw [grd_t bK, cK, h14, if_neg (show ¬ nI (ro 18) = (1 : Int32) by decide), if_pos (show nI (ro 18) = (2 : Int32) by decide), bnd_s (hg _), k1]; rfl
    · have e : f_X8_settle gT gp gc (nI i) = bnd (f_X8_give gT (5 : Int32)) (fun q_16 => grd (zB q_16.1) (some (q_16.1, q_16.2, gc))) := by
        unfold f_X8_settle
        rw [grd_t bi, ci, h0]; rfl
      rw [e, bnd_s (hs _)]; rfl
  · rw [ho] at h0 h14
    refine ⟨7, by decide, ?_, ?_, .inr (.inr (.inl ⟨h0, h14, rfl⟩))⟩
    · rw [st]; unfold b_X12_sorted_66
      rw [grd_t bK, cK, h14, if_neg (show ¬ nI (ro 17) = (1 : Int32) by decide), if_neg (show ¬ nI (ro 17) = (2 : Int32) by decide), if_pos (show nI (ro 17) = (3 : Int32) by decide), bnd_s (hg _), k1]; rfl
    · have e : f_X8_settle gT gp gc (nI i) = bnd (f_X8_give gT (7 : Int32)) (fun q_16 => grd (zB q_16.1) (some (q_16.1, q_16.2, gc))) := by
        unfold f_X8_settle
        rw [grd_t bi, ci, h0]; rfl
      rw [e, bnd_s (hs _)]; rfl
  · obtain ⟨a, a1, a2, a3⟩ := h6 ho
    obtain ⟨b1, b2, b3⟩ := hO.2 a a1
    have a40 : a < 40 := by have := hO.1; omega
    refine ⟨srt a, b1, ?_, ?_, ?_⟩
    · rw [st]; unfold b_X12_sorted_66
      rw [grd_t bK, cK, h14]
      rcases ho with ho | ho
      · rw [ho, if_neg (show ¬ nI (ro 63) = (1 : Int32) by decide), if_neg (show ¬ nI (ro 63) = (2 : Int32) by decide), if_neg (show ¬ nI (ro 63) = (3 : Int32) by decide), if_pos (show nI (ro 63) = (4 : Int32) by decide), grd_t bK, a3, bnd_s b3, bnd_s (hg _), k1]
      · rw [ho, if_neg (show ¬ nI (ro 16) = (1 : Int32) by decide), if_neg (show ¬ nI (ro 16) = (2 : Int32) by decide), if_neg (show ¬ nI (ro 16) = (3 : Int32) by decide), if_neg (show ¬ nI (ro 16) = (4 : Int32) by decide), if_pos (show nI (ro 16) = (5 : Int32) by decide), grd_t bK, a3, bnd_s b3, bnd_s (hg _), k1]
    · have e : f_X8_settle gT gp gc (nI i) = b_X8_settle_316 gT gp gc (nI i) := by
        unfold f_X8_settle
        rw [grd_t bi, ci, h0]
        rcases ho with ho | ho <;> rw [ho] <;> rfl
      rw [e]; unfold b_X8_settle_316
      rw [grd_t bi, ci, a2, bnd_s b2.2, bnd_s (hs _)]; rfl
    · rcases ho with ho | ho
      · rw [ho] at h0 h14; exact .inr (.inr (.inr (.inl ⟨h0, h14, a, a1, a2, a3, rfl⟩)))
      · rw [ho] at h0 h14; exact .inr (.inr (.inr (.inr ⟨h0, h14, a, a1, a2, a3, rfl⟩)))
/-- one value: what the class does -/
def c3 (gc : Gs) (i s : Nat) : Gs := sIA gc 3 (upd (gIA gc 3) i (nI s))
def c2 (gc : Gs) (i : Nat) (x : Int32) : Gs := sIA gc 2 (upd (gIA gc 2) i x)
theorem one_set {gT gp gc : Gs} {i T s o : Nat} (hi : i < 840) (h1 : gI gT 1 = nI (T + 1)) (hT : T < 400) (hs : gIA gT 0 T = nI s) (h0 : gIA gc 0 i = nI o) (ho : o ∈ [19, 20, 21, 22, 54, 64, 65, 66]) : f_X8_settle gT gp gc (nI i) = bnd (if o = 54 then (if nI s = 0 then some ((1 : Int32), giT (sI gT 1 (nI T)) T 0, c3 gc i s) else some (0, sI gT 1 (nI T), c3 gc i s)) else if o = 64 then (if nI s < 1 then some (0, sI gT 1 (nI T), c2 (c3 gc i s) i 7) else if 4 < nI s then some (0, sI gT 1 (nI T), c2 (c3 gc i s) i 7) else some (1, giT (sI gT 1 (nI T)) T 7, c2 (c3 gc i s) i 7)) else if o = 65 then (if nI s = 0 then some (0, sI gT 1 (nI T), c2 (c3 gc i s) i (if 4 < nI s then nI s else 4)) else some (1, giT (sI gT 1 (nI T)) T (if 4 < nI s then nI s else 4), c2 (c3 gc i s) i (if 4 < nI s then nI s else 4))) else if o = 66 then (if nI s = 0 then b_X8_settleOne_170 (sI gT 1 (nI T)) (c3 gc i s) (nI i) 1 else b_X8_settleOne_170 (sI gT 1 (nI T)) (c3 gc i s) (nI i) 0) else (if nI s = 0 then some (0, sI gT 1 (nI T), c2 (c3 gc i s) i 7) else some (1, giT (sI gT 1 (nI T)) T 7, c2 (c3 gc i s) i 7))) (fun q => if q.1 = 0 then some (0, q.2.1, q.2.2) else some (1, q.2.1, q.2.2)) := by
  have bi : inB (nI i) 840 = true := inB_nI hi (by decide)
  have ci : (nI i).toNatClampNeg = i := nI_clamp (by omega)
  have gv : ∀ x, f_X8_give (sI gT 1 (nI T)) x = some (1, giT (sI gT 1 (nI T)) T x) := fun x => giT_ok rfl hT
  have z1 : ¬ (1 : Int32) = 0 := by decide
  rw [set_one hi h0 ho]
  unfold b_X8_settle_333
  rw [h1, if_neg (show ¬ nI (T + 1) < (1 : Int32) from nI_nlt (b := 1) (by omega) (by omega))]
  congr 1
  unfold f_X8_settleOne
  rw [h1, nI_pred T, grd_t (inB_nI (by omega) (by decide)), grd_t bi, grd_t bi, ci, h0, nI_clamp (show T < 2 ^ 31 by omega), hs]
  have pu : ∀ x, (upd (gIA gc 2) i x) i = x := fun x => pk_us
  simp only [gv, bnd_s rfl, if_neg z1, grd_t bi, pu]
  simp only [List.mem_cons, List.mem_nil_iff, or_false] at ho
  rcases ho with rfl | rfl | rfl | rfl | rfl | rfl | rfl | rfl <;> rfl
