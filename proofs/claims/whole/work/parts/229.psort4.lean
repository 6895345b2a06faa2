/-! sorts: entries of two values -/
def c34 (gc : Gs) (i l r : Nat) : Gs := sIA (sIA gc 3 (upd (gIA gc 3) i (nI l))) 4 (upd (gIA gc 4) i (nI r))
theorem c34_fr (gc : Gs) (i l r : Nat) : Fr [2, 3, 4] gc (c34 gc i l r) := (Fr.sIA (by decide) _ _).trans (Fr.sIA (by decide) _ _)
theorem jn_all {l r : Nat} (hl : l ≤ 7) (hr : r ≤ 7) : f_X12_joined (nI l) (nI r) = some (nI (jn l r)) ∧ f_X8_joined (nI l) (nI r) = some (nI (jn l r)) ∧ (8 : Int32) * nI l + nI r = nI (8 * l + r) := by
  have h : ∀ l, l < 8 → ∀ r, r < 8 → f_X12_joined (nI l) (nI r) = some (nI (jn l r)) ∧ f_X8_joined (nI l) (nI r) = some (nI (jn l r)) ∧ (8 : Int32) * nI l + nI r = nI (8 * l + r) := by decide +kernel
  exact h l (by omega) r (by omega)
def jv (l r : Nat) : Int32 := if l = 0 ∧ r = 0 then 0 else nI (jn l r)
theorem two_set {gT gp gc : Gs} {i T l r o : Nat} (hi : i < 840) (h1 : gI gT 1 = nI (T + 2)) (hT : T < 400) (hl : gIA gT 0 T = nI l) (hr : gIA gT 0 (T + 1) = nI r) (l7 : l ≤ 7) (r7 : r ≤ 7) (h0 : gIA gc 0 i = nI o) (ho : o ∈ [23, 24, 25, 49, 50, 51, 52, 53, 55, 56, 57, 58, 59, 60, 61, 62]) : f_X8_settle gT gp gc (nI i) = if o = 25 then (if 1 ≤ l ∧ 1 ≤ r then some (1, giT (sI gT 1 (nI T)) T 7, c2 (c2 (c34 gc i l r) i (jv l r)) i 7) else some (0, sI gT 1 (nI T), c2 (c2 (c34 gc i l r) i (jv l r)) i 7)) else if o = 55 ∨ o = 56 ∨ o = 57 ∨ o = 58 then (if 1 ≤ l ∧ 1 ≤ r then some (1, giT (sI gT 1 (nI T)) T 0, c2 (c34 gc i l r) i (jv l r)) else some (0, sI gT 1 (nI T), c2 (c34 gc i l r) i (jv l r))) else if o = 59 ∨ o = 60 then (if (1 ≤ l ∧ 1 ≤ r) ∨ (l = 0 ∧ r = 0) then some (1, giT (sI gT 1 (nI T)) T 0, c2 (c34 gc i l r) i (jv l r)) else some (0, sI gT 1 (nI T), c2 (c34 gc i l r) i (jv l r))) else if o = 61 ∨ o = 62 then (if l = 0 ∧ r = 0 then some (1, giT (sI gT 1 (nI T)) T 0, c2 (c34 gc i l r) i (jv l r)) else some (0, sI gT 1 (nI T), c2 (c34 gc i l r) i (jv l r))) else (if 1 ≤ l ∧ 1 ≤ r then some (1, giT (sI gT 1 (nI T)) T (jv l r), c2 (c34 gc i l r) i (jv l r)) else some (0, sI gT 1 (nI T), c2 (c34 gc i l r) i (jv l r))) := by
  have bi : inB (nI i) 840 = true := inB_nI hi (by decide)
  have ci : (nI i).toNatClampNeg = i := nI_clamp (by omega)
  have gv : ∀ x, f_X8_give (sI gT 1 (nI T)) x = some (1, giT (sI gT 1 (nI T)) T x) := fun x => giT_ok rfl hT
  have z1 : ¬ (1 : Int32) = 0 := by decide
  have eT : nI (T + 2) - 2 = nI T := by rw [show (2 : Int32) = nI 2 from rfl, nI_sub (by omega), show T + 2 - 2 = T by omega]
  have pu : ∀ x, (upd (gIA (c34 gc i l r) 2) i x) i = x := fun x => pk_us
  -- both flags known
  have e100 : ∀ bz nm : Int32, (bz = 0 ↔ ¬ (l = 0 ∧ r = 0)) → (nm = 0 ↔ ¬ (1 ≤ l ∧ 1 ≤ r)) → ∀ x, x = jv l r → bnd (b_X8_settleTwo_100 (sI gT 1 (nI T)) (c34 gc i l r) (nI i) bz nm x (nI i)) (fun q => if q.1 = 0 then some ((0 : Int32), q.2.1, q.2.2) else some (1, q.2.1, q.2.2)) = if o = 25 then (if 1 ≤ l ∧ 1 ≤ r then some (1, giT (sI gT 1 (nI T)) T 7, c2 (c2 (c34 gc i l r) i (jv l r)) i 7) else some (0, sI gT 1 (nI T), c2 (c2 (c34 gc i l r) i (jv l r)) i 7)) else if o = 55 ∨ o = 56 ∨ o = 57 ∨ o = 58 then (if 1 ≤ l ∧ 1 ≤ r then some (1, giT (sI gT 1 (nI T)) T 0, c2 (c34 gc i l r) i (jv l r)) else some (0, sI gT 1 (nI T), c2 (c34 gc i l r) i (jv l r))) else if o = 59 ∨ o = 60 then (if (1 ≤ l ∧ 1 ≤ r) ∨ (l = 0 ∧ r = 0) then some (1, giT (sI gT 1 (nI T)) T 0, c2 (c34 gc i l r) i (jv l r)) else some (0, sI gT 1 (nI T), c2 (c34 gc i l r) i (jv l r))) else if o = 61 ∨ o = 62 then (if l = 0 ∧ r = 0 then some (1, giT (sI gT 1 (nI T)) T 0, c2 (c34 gc i l r) i (jv l r)) else some (0, sI gT 1 (nI T), c2 (c34 gc i l r) i (jv l r))) else (if 1 ≤ l ∧ 1 ≤ r then some (1, giT (sI gT 1 (nI T)) T (jv l r), c2 (c34 gc i l r) i (jv l r)) else some (0, sI gT 1 (nI T), c2 (c34 gc i l r) i (jv l r))) := by
    intro bz nm hbz hnm x hx
    have a0 : gIA (c34 gc i l r) 0 i = nI o := h0
    have e231 : ∀ gc', b_X8_settleTwo_231 (sI gT 1 (nI T)) gc' nm = if 1 ≤ l ∧ 1 ≤ r then some (1, giT (sI gT 1 (nI T)) T 0, gc') else some (0, sI gT 1 (nI T), gc') := by
      intro gc'; unfold b_X8_settleTwo_231
      by_cases c : 1 ≤ l ∧ 1 ≤ r
      · rw [if_pos c, if_neg (fun y => hnm.mp y c), bnd_s (gv 0)]; rfl
      · rw [if_neg c, if_pos (hnm.mpr c)]
    have e217 : ∀ gc', b_X8_settleTwo_217 (sI gT 1 (nI T)) gc' = some (1, giT (sI gT 1 (nI T)) T 0, gc') := by
      intro gc'; unfold b_X8_settleTwo_217
      rw [bnd_s (gv 0)]; rfl
    have e207 : ∀ gc', b_X8_settleTwo_207 (sI gT 1 (nI T)) gc' bz nm = if (1 ≤ l ∧ 1 ≤ r) ∨ (l = 0 ∧ r = 0) then some (1, giT (sI gT 1 (nI T)) T 0, gc') else some (0, sI gT 1 (nI T), gc') := by
      intro gc'; unfold b_X8_settleTwo_207
      rw [e217]
      have P1 : ∀ {α : Type} {x y : α}, (1 ≤ l ∧ 1 ≤ r) ∨ (l = 0 ∧ r = 0) → (if (1 ≤ l ∧ 1 ≤ r) ∨ (l = 0 ∧ r = 0) then x else y) = x := fun h => if_pos h
      by_cases c : l = 0 ∧ r = 0
      · rw [P1 (.inr c), if_neg (show ¬ bz = 0 from fun y => hbz.mp y c)]
      · rw [if_pos (hbz.mpr c)]
        by_cases d : 1 ≤ l ∧ 1 ≤ r
        · rw [P1 (.inl d), if_neg (show ¬ nm = 0 from fun y => hnm.mp y d)]
        · rw [if_neg (show ¬ ((1 ≤ l ∧ 1 ≤ r) ∨ (l = 0 ∧ r = 0)) from fun y => y.elim d c), if_pos (hnm.mpr d)]
    have e188 : ∀ gc', b_X8_settleTwo_188 (sI gT 1 (nI T)) gc' bz = if l = 0 ∧ r = 0 then some (1, giT (sI gT 1 (nI T)) T 0, gc') else some (0, sI gT 1 (nI T), gc') := by
      intro gc'; unfold b_X8_settleTwo_188
      by_cases c : l = 0 ∧ r = 0
      · rw [if_pos c, if_neg (fun y => hbz.mp y c), bnd_s (gv 0)]; rfl
      · rw [if_neg c, if_pos (hbz.mpr c)]
    have e25 : ∀ gc' : Gs, (if nm = 0 then some ((0 : Int32), sI gT 1 (nI T), gc') else some (1, giT (sI gT 1 (nI T)) T 7, gc')) = if 1 ≤ l ∧ 1 ≤ r then some (1, giT (sI gT 1 (nI T)) T 7, gc') else some (0, sI gT 1 (nI T), gc') := by
      intro gc'
      by_cases c : 1 ≤ l ∧ 1 ≤ r
      · rw [if_pos c, if_neg (fun y => hnm.mp y c)]
      · rw [if_neg c, if_pos (hnm.mpr c)]
    have ej : ∀ gc' : Gs, (if nm = 0 then some ((0 : Int32), sI gT 1 (nI T), gc') else some (1, giT (sI gT 1 (nI T)) T (jv l r), gc')) = if 1 ≤ l ∧ 1 ≤ r then some (1, giT (sI gT 1 (nI T)) T (jv l r), gc') else some (0, sI gT 1 (nI T), gc') := by
      intro gc'
      by_cases c : 1 ≤ l ∧ 1 ≤ r
      · rw [if_pos c, if_neg (fun y => hnm.mp y c)]
      · rw [if_neg c, if_pos (hnm.mpr c)]
    have fin : ∀ (p : Prop) [Decidable p] (a b : Gs × Gs), bnd (if p then some ((1 : Int32), a) else some (0, b)) (fun q => if q.1 = 0 then some ((0 : Int32), q.2.1, q.2.2) else some (1, q.2.1, q.2.2)) = if p then some (1, a.1, a.2) else some (0, b.1, b.2) := by
      intro p _ a b
      by_cases c : p
      · simp only [if_pos c]; rfl
      · simp only [if_neg c]; rfl
    unfold b_X8_settleTwo_100
    rw [grd_t bi, grd_t bi, ci, a0, hx]
    simp only [e231, e207, e188, gv, bnd_s rfl, if_neg z1, grd_t bi, pu]
    simp only [List.mem_cons, List.mem_nil_iff, or_false] at ho
    rcases ho with rfl | rfl | rfl | rfl | rfl | rfl | rfl | rfl | rfl | rfl | rfl | rfl | rfl | rfl | rfl | rfl
    · show bnd (if nm = 0 then _ else _) _ = _; rw [ej, fin]; rfl
    · show bnd (if nm = 0 then _ else _) _ = _; rw [ej, fin]; rfl
    · show bnd (if nm = 0 then _ else _) _ = _; rw [e25, fin]; rfl
    · show bnd (if nm = 0 then _ else _) _ = _; rw [ej, fin]; rfl
    · show bnd (if nm = 0 then _ else _) _ = _; rw [ej, fin]; rfl
    · show bnd (if nm = 0 then _ else _) _ = _; rw [ej, fin]; rfl
    · show bnd (if nm = 0 then _ else _) _ = _; rw [ej, fin]; rfl
    · show bnd (if nm = 0 then _ else _) _ = _; rw [ej, fin]; rfl
    · exact fin _ _ _
    · exact fin _ _ _
    · exact fin _ _ _
    · exact fin _ _ _
    · exact fin _ _ _
    · exact fin _ _ _
    · exact fin _ _ _
    · exact fin _ _ _
  have hj : f_X8_joined (nI l) (nI r) = some (nI (jn l r)) := (jn_all l7 r7).2.1
  have e78 : ∀ bz nm : Int32, (bz = 0 ↔ ¬ (l = 0 ∧ r = 0)) → b_X8_settleTwo_78 (sI gT 1 (nI T)) (c34 gc i l r) (nI i) (nI l) (nI r) bz nm = b_X8_settleTwo_100 (sI gT 1 (nI T)) (c34 gc i l r) (nI i) bz nm (jv l r) (nI i) := by
    intro bz nm hbz
    unfold b_X8_settleTwo_78 jv
    by_cases c : l = 0 ∧ r = 0
    · rw [if_neg (fun y => hbz.mp y c), if_pos c]
    · rw [if_pos (hbz.mpr c), bnd_s hj, if_neg c]
  have e62 : ∀ bz : Int32, (bz = 0 ↔ ¬ (l = 0 ∧ r = 0)) → b_X8_settleTwo_62 (sI gT 1 (nI T)) (c34 gc i l r) (nI i) (nI l) (nI r) bz = b_X8_settleTwo_100 (sI gT 1 (nI T)) (c34 gc i l r) (nI i) bz (if 1 ≤ l ∧ 1 ≤ r then 1 else 0) (jv l r) (nI i) := by
    intro bz hbz
    unfold b_X8_settleTwo_62 b_X8_settleTwo_77
    rw [e78 bz 0 hbz, e78 bz 1 hbz]
    by_cases c : l = 0
    · rw [if_pos ((nI0 l7).mpr c), if_neg (by omega)]
    · rw [if_neg (fun y => c ((nI0 l7).mp y))]
      by_cases d : r = 0
      · rw [if_pos ((nI0 r7).mpr d), if_neg (by omega)]
      · rw [if_neg (fun y => d ((nI0 r7).mp y)), if_pos (by omega)]
  rw [set_two hi h0 ho]
  unfold b_X8_settle_379
  rw [h1, if_neg (show ¬ nI (T + 2) < (2 : Int32) from nI_nlt (b := 2) (by omega) (by omega))]
  have hS : f_X8_settleTwo gT gc (nI i) = b_X8_settleTwo_100 (sI gT 1 (nI T)) (c34 gc i l r) (nI i) (if l = 0 ∧ r = 0 then 1 else 0) (if 1 ≤ l ∧ 1 ≤ r then 1 else 0) (jv l r) (nI i) := by
    unfold f_X8_settleTwo b_X8_settleTwo_61
    rw [h1, eT, nI_1, grd_t (inB_nI (by omega) (by decide)), grd_t (inB_nI (by omega) (by decide)), grd_t bi, grd_t bi, ci, nI_clamp (show T < 2 ^ 31 by omega), nI_clamp (show T + 1 < 2 ^ 31 by omega), hl, hr]
    show (if nI l = 0 then (if nI r = 0 then b_X8_settleTwo_62 (sI gT 1 (nI T)) (c34 gc i l r) (nI i) (nI l) (nI r) 1 else b_X8_settleTwo_62 (sI gT 1 (nI T)) (c34 gc i l r) (nI i) (nI l) (nI r) 0) else b_X8_settleTwo_62 (sI gT 1 (nI T)) (c34 gc i l r) (nI i) (nI l) (nI r) 0) = _
    by_cases c : l = 0
    · rw [if_pos ((nI0 l7).mpr c)]
      by_cases d : r = 0
      · rw [if_pos ((nI0 r7).mpr d), e62 1 ⟨fun y => absurd y z1, fun y => absurd ⟨c, d⟩ y⟩, if_pos (show l = 0 ∧ r = 0 from ⟨c, d⟩)]
      · rw [if_neg (fun y => d ((nI0 r7).mp y)), e62 0 ⟨fun _ y => d y.2, fun _ => rfl⟩, if_neg (show ¬ (l = 0 ∧ r = 0) from fun y => d y.2)]
    · rw [if_neg (fun y => c ((nI0 l7).mp y)), e62 0 ⟨fun _ y => c y.1, fun _ => rfl⟩, if_neg (show ¬ (l = 0 ∧ r = 0) from fun y => c y.1)]
  rw [hS]
  refine e100 _ _ ?_ ?_ _ rfl
  · by_cases c : l = 0 ∧ r = 0
    · rw [if_pos c]; exact ⟨fun y => absurd y z1, fun y => absurd c y⟩
    · rw [if_neg c]; exact ⟨fun _ => c, fun _ => rfl⟩
  · by_cases c : 1 ≤ l ∧ 1 ≤ r
    · rw [if_pos c]; exact ⟨fun y => absurd y z1, fun y => absurd c y⟩
    · rw [if_neg c]; exact ⟨fun _ => c, fun _ => rfl⟩
