/-! signs of two parts: joins and workTwo -/
theorem bec_both {n : Nat} {g gm : Gs} {row s t : Nat} {v w : Int64} {d : UInt64} (hn : 65 ≤ n) (hr : row < 512) (hs1 : 1 ≤ s) (hs7 : s ≤ 7) (ht1 : 1 ≤ t) (ht7 : t ≤ 7) (h76 : ¬ (s = 7 ∧ t = 6)) (hw : gLA gm 2 row = w) (hd : gDA gm 3 row = d) (h : VR s v w d) : ∃ r g' gm' w' d', f_X12_become n g v (nI s) (nI t) = some (r, g') ∧ Sc g g' ∧ f_X1_become gm (nI row) (nI s) (nI t) = some gm' ∧ Mr row w' d' gm gm' ∧ gI gm' 5 = gI gm 5 ∧ VR t r w' d' := by
  by_cases hst : s = t
  · subst hst
    refine ⟨v, g, gm, w, d, ?_, Sc.refl g, ?_, ⟨hw, hd, fun _ _ => ⟨rfl, rfl⟩, Fr.refl _ _⟩, rfl, h⟩
    · unfold f_X12_become; exact if_pos rfl
    · unfold f_X1_become
      rw [if_neg (nI_pos (by omega)), if_pos rfl]
  · obtain ⟨r, g', b1, b2, b3⟩ := become_val (n := n) (g := g) hn hs1 hs7 ht1 ht7 hst h
    obtain ⟨gm', c1, c2, c3⟩ := cls_become (g := gm) hr hs1 hs7 ht1 ht7 hst hw hd h
    rw [if_neg h76] at c3
    refine ⟨r, g', gm', _, _, b1, b2, c1, c2, c3, ?_⟩
    rcases b3 with b3 | ⟨q1, q2, -⟩
    · exact b3
    · exact absurd ⟨q1, q2⟩ h76
def jn (l r : Nat) : Nat := max 4 (max l r)
theorem joined_eq {l r : Nat} (hl : 1 ≤ l) (hl7 : l ≤ 7) (hr : 1 ≤ r) (hr7 : r ≤ 7) : f_X12_joined (nI l) (nI r) = some (nI (jn l r)) := by
  have h : ∀ l, l < 8 → 1 ≤ l → ∀ r, r < 8 → 1 ≤ r → f_X12_joined (nI l) (nI r) = some (nI (jn l r)) := by decide +kernel
  exact h l (by omega) hl r (by omega) hr
/-! INTs stay in their range -/
def VI (t : Nat) (v : Int64) : Prop := t = 4 → wh 4 v = v
/-- what a sign of two parts comes to on both sides: a value of sort t in row T, or a jam -/
def Out2 (g gm : Gs) (T K t : Nat) (ref : Option (Int32 × Gs)) (cls : Option Gs) : Prop :=
  (∃ (r : Int64) (g' gm' : Gs), ref = some (1, sLA g' 92 (vp_updL (gLA g' 92) T r)) ∧ Sc (sI g 93 (nI (T + 1))) g' ∧ cls = some gm' ∧ VR t r (gLA gm' 2 T) (gDA gm' 3 T) ∧ VI t r ∧ gI gm' 4 = nI (T + 1) ∧ gI gm' 5 = gI gm 5 ∧ (∀ j, j < T → gLA gm' 2 j = gLA gm 2 j ∧ gDA gm' 3 j = gDA gm 3 j) ∧ Fr [2, 3, 4, 5] gm gm') ∨
  (∃ (kind : Int32) (g' gm' : Gs), kind ≠ 0 ∧ ref = some (0, sI (sI g' 95 kind) 96 (gIA g 17 K)) ∧ Sc (sI g 93 (nI (T + 1))) g' ∧ cls = some gm' ∧ gI gm' 5 = kind ∧ Fr [2, 3, 4, 5] gm gm')
theorem joins_ref {n : Nat} {g : Gs} {T K l r : Nat} {s : Int32} (hK : K < 8000) (hT : gI g 93 = nI (T + 2)) (hT2 : T + 2 ≤ 400) (h16 : gIA g 16 K = nI (8 * l + r)) (h15 : gIA g 15 K = s) (hl1 : 1 ≤ l) (hl : l ≤ 7) (hr1 : 1 ≤ r) (hr : r ≤ 7) : f_X12_joins n g (nI K) = b_X12_joins_129 n (sI g 93 (nI (T + 1))) (nI K) s (nI l) (nI r) (gLA g 92 (T + 1)) (gLA g 92 T) (nI (if s = 215 then 7 else jn l r)) := by
  have bK : inB (nI K) 8000 = true := inB_nI hK (by decide)
  have cK : (nI K).toNatClampNeg = K := nI_clamp (by omega)
  have e1 : gI g 93 - (1 : Int32) = nI (T + 1) := by rw [hT]; exact nI_pred (T + 1)
  have e2 : nI (T + 1) - (1 : Int32) = nI T := nI_pred T
  have e3 : nI (8 * l + r) >>> ((3 : Int32) &&& 31) = nI l := by
    rw [pk_shrN (by omega) _ 3 (by decide)]
    congr 1; omega
  have e4 : nI (8 * l + r) &&& (7 : Int32) = nI r := by
    rw [pk_andN (by omega) 3 (by decide)]
    congr 1; omega
  unfold f_X12_joins
  rw [grd_t bK, grd_t bK, grd_t bK, cK, e1, e2, grd_t (inB_nI (by omega) (by decide)), grd_t (inB_nI (by omega) (by decide)), h16, h15, e3, e4, nI_clamp (by omega), nI_clamp (by omega), if_neg (nI_ne0 (by omega) (by omega))]
  by_cases c : s = 215
  · rw [if_pos c, if_pos c]; rfl
  · rw [if_neg c, if_neg c, bnd_s (joined_eq hl1 hl hr1 hr)]
theorem cls_two {n : Nat} {gm g2 : Gs} {T l r t : Nat} {o' : Int32} (hT : gI gm 4 = nI (T + 2)) (hT2 : T + 2 ≤ 400) {gm1 gm2 : Gs} (h1 : f_X1_become gm (nI T) (nI l) (nI t) = some gm1) (h2 : f_X1_become gm1 (nI (T + 1)) (nI r) (nI t) = some gm2) (h4 : gI gm2 4 = nI (T + 2)) (ht : t ≤ 7) : f_X1_workTwo n gm g2 o' (nI l) (nI r) (nI t) = b_X1_workTwo_62 n (sI gm2 4 (nI (T + 1))) g2 o' (nI t) (nI T) (nI (T + 1)) (if t ≤ 5 then 0 else 1) := by
  have e1 : nI (T + 2) - (1 : Int32) = nI (T + 1) := nI_pred (T + 1)
  have e2 : nI (T + 2) - (2 : Int32) = nI T := pk_sub (b := 2) (by omega)
  unfold f_X1_workTwo
  rw [hT, e1, e2, if_pos (nI_pos' (by omega)), bnd_s h1, bnd_s h2, h4, e1]
  by_cases c : t ≤ 5
  · rw [if_pos c, if_pos (show nI t < (6 : Int32) from nI_lt (b := 6) (by omega) (by decide))]
  · rw [if_neg c, if_neg (show ¬ nI t < (6 : Int32) from nI_nlt (b := 6) (by omega) (by omega))]
