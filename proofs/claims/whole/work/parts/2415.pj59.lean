/-! the reference's settling of sorts ends with its flag down -/
def Q59 (x : Option (Int32 × Gs)) : Prop := ∀ q, x = some q → gI q.2 59 = 0
theorem Q59.gd {c : Bool} {x : Option (Int32 × Gs)} (h : Q59 x) : Q59 (grd c x) := fun q e => h q (grd_some e).2
theorem Q59.ite {c : Prop} [Decidable c] {x y : Option (Int32 × Gs)} (h : Q59 x) (h' : Q59 y) : Q59 (if c then x else y) := by
  by_cases z : c
  · rw [if_pos z]; exact h
  · rw [if_neg z]; exact h'
theorem Q59.any {α : Type} {x : Option α} {K : α → Option (Int32 × Gs)} (h : ∀ q, Q59 (K q)) : Q59 (bnd x K) := by
  intro r e
  obtain ⟨q, e1, e2⟩ := bnd_some e
  exact h q r e2
theorem Q59.ret {g : Gs} {b : Int32} : Q59 (some (b, sI g 59 0)) := by
  intro q e
  cases e
  rfl
theorem judges_59 {n : Nat} : ∀ k (g : Gs) (v1 v2 v3 : Int32), Q59 (L_X12_judges n k g v1 v2 v3) := by
  intro k
  induction k with
  | zero => intro g v1 v2 v3 q e; cases e
  | succ k ih =>
    intro g v1 v2 v3
    show Q59 (h_X12_judges_11 n (L_X12_judges n k) g v1 v2 v3)
    unfold h_X12_judges_11 b_X12_judges_31 b_X12_judges_62 b_X12_judges_167 b_X12_judges_107 b_X12_judges_161 b_X12_judges_197
    repeat' (first
      | with_reducible refine ih _ _ _ _
      | with_reducible refine Q59.gd ?_
      | with_reducible refine Q59.ite ?_ ?_
      | with_reducible refine Q59.ret
      | with_reducible refine Q59.any ?_
      | with_reducible intro _)
