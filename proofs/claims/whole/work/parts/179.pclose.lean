/-! closing one open sign -/
theorem close_one {n hP k : Nat} {gr gc : Gs} {r h c o : Nat} {e : Bool} (h8 : gI gr 8 = nI (h + 1)) (hh : h < 320) (hr : r ≤ 6) (hc : c < 320) (h4 : gIA gr 4 h = nI o) (ho : o < 100) (hcl : clsd o r e) : L_X5_closeParts n hP (k + 1) gr gc (nI r) (sgB e) 1 (nI c) = bnd (pop1 hP gr gc) (fun q => L_X5_closeParts n hP k q.1 q.2 (nI r) (sgB e) 1 (nI (c + 1))) := by
  have e1 : nI (h + 1) - 1 = nI h := nI_pred h
  have ch : (nI h).toNatClampNeg = h := nI_clamp (by omega)
  have q : ∀ {x : Nat}, x < 100 → (nI o = nI x ↔ o = x) := fun hx => nI_eq (by omega) (by omega)
  have hk : rk o ≤ 6 := by unfold rk; split <;> (try split) <;> (try split) <;> (try split) <;> (try split) <;> (try split) <;> omega
  have q65 : nI o = (65 : Int32) ↔ o = 65 := q (x := 65) (by decide)
  have q54 : nI o = (54 : Int32) ↔ o = 54 := q (x := 54) (by decide)
  have q66 : nI o = (66 : Int32) ↔ o = 66 := q (x := 66) (by decide)
  have q70 : nI o = (70 : Int32) ↔ o = 70 := q (x := 70) (by decide)
  -- closing: v7 tells a prefix, v8 the last part of a ?
  have f138 : ∀ v7 v8 : Int32, ((v7 = 0 ∧ v8 = 0) ↔ ¬ (o = 65 ∨ o = 54 ∨ o = 66 ∨ o = 70)) → b_X5_closeParts_138 n hP (L_X5_closeParts n hP k) gr gc (nI r) (sgB e) (nI c) (nI o) v7 v8 = bnd (pop1 hP gr gc) (fun q => L_X5_closeParts n hP k q.1 q.2 (nI r) (sgB e) 1 (nI (c + 1))) := by
    intro v7 v8 hv
    unfold b_X5_closeParts_138 b_X5_closeParts_143 b_X5_closeParts_163 b_X5_closeParts_168 b_X5_closeParts_188 pop1
    rw [h8, e1, ch, h4, if_neg (show ¬ (1 : Int32) = 0 by decide), nI_1]
    have bb : ∀ (x : Option Gs) (a : Gs), bnd (bnd x (fun q => some (a, q))) (fun q => L_X5_closeParts n hP k q.1 q.2 (nI r) (sgB e) 1 (nI (c + 1))) = bnd x (fun q => L_X5_closeParts n hP k a q (nI r) (sgB e) 1 (nI (c + 1))) := by
      intro x a; cases x <;> rfl
    rw [bb]
    by_cases hz : o = 65 ∨ o = 54 ∨ o = 66 ∨ o = 70
    · have hz' : nI o = 65 ∨ nI o = 54 ∨ nI o = 66 ∨ nI o = 70 := by
        rcases hz with z | z | z | z
        · exact .inl (q65.mpr z)
        · exact .inr (.inl (q54.mpr z))
        · exact .inr (.inr (.inl (q66.mpr z)))
        · exact .inr (.inr (.inr (q70.mpr z)))
      rw [if_pos hz']
      by_cases h7 : v7 = 0
      · rw [if_pos h7]
        by_cases h80 : v8 = 0
        · exact absurd hz (hv.mp ⟨h7, h80⟩)
        · rw [if_neg h80]
      · rw [if_neg h7]
    · have hz' : ¬ (nI o = 65 ∨ nI o = 54 ∨ nI o = 66 ∨ nI o = 70) := by
        rintro (z | z | z | z)
        · exact hz (.inl (q65.mp z))
        · exact hz (.inr (.inl (q54.mp z)))
        · exact hz (.inr (.inr (.inl (q66.mp z))))
        · exact hz (.inr (.inr (.inr (q70.mp z))))
      obtain ⟨h7, h80⟩ := hv.mpr hz
      rw [if_neg hz', if_pos h7, if_pos h80]
  show h_X5_closeParts_5 n hP (L_X5_closeParts n hP k) gr gc (nI r) (sgB e) 1 (nI c) = _
  unfold h_X5_closeParts_5
  rw [if_neg (show ¬ (320 : Int32) ≤ nI c from nI_ge (b := 320) (by omega) (by decide)), if_neg (show ¬ (1 : Int32) = 0 by decide), h8, if_neg (nI_nle (by omega) (by omega)), e1, grd_t (inB_nI hh (by decide)), ch, h4, bnd_s (rank7 ho)]
  by_cases hA : isA o
  · -- a prefix
    have n70 : ¬ o = 70 := by rintro rfl; rcases hA with z | z | z <;> omega
    have f65 : b_X5_closeParts_65 n hP (L_X5_closeParts n hP k) gr gc (nI r) (sgB e) (nI c) (nI o) (nI (rk o)) = bnd (pop1 hP gr gc) (fun q => L_X5_closeParts n hP k q.1 q.2 (nI r) (sgB e) 1 (nI (c + 1))) := by
      have f := f138 1 0 ⟨fun z => absurd z.1 (by decide), fun z => absurd (by rcases hA with y | y | y; exact .inl y; exact .inr (.inl y); exact .inr (.inr (.inl y))) z⟩
      unfold b_X5_closeParts_65 b_X5_closeParts_70
      rw [if_neg (fun z => n70 (q70.mp z))]
      unfold b_X5_closeParts_84 b_X5_closeParts_106 b_X5_closeParts_107
      rw [if_neg (show ¬ (1 : Int32) = 0 by decide), if_neg (show ¬ (1 : Int32) = 0 by decide), f]
      split <;> (try split) <;> (try split) <;> rfl
    rcases hA with z | z | z
    · rw [if_pos (q65.mpr z), f65]
    · rw [if_neg (fun y => by have := q65.mp y; omega), if_pos (q54.mpr z), f65]
    · rw [if_neg (fun y => by have := q65.mp y; omega), if_neg (fun y => by have := q54.mp y; omega), if_pos (q66.mpr z), f65]
  · rw [if_neg (fun z => hA (.inl (q65.mp z))), if_neg (fun z => hA (.inr (.inl (q54.mp z)))), if_neg (fun z => hA (.inr (.inr (q66.mp z))))]
    have hrest := hcl.resolve_left hA
    unfold b_X5_closeParts_70
    by_cases h70 : o = 70
    · -- the last part of a ?
      have he : e = true := by
        rcases hrest with z | z | z
        · exact z.2
        · rw [h70] at z; exact absurd z (by unfold rk; simp)
        · rw [h70] at z
          have : rk 70 = 0 := rfl
          omega
      have f := f138 0 1 ⟨fun z => absurd z.2 (by decide), fun z => absurd (.inr (.inr (.inr h70))) z⟩
      rw [if_pos (q70.mpr h70)]
      unfold b_X5_closeParts_84 b_X5_closeParts_106 b_X5_closeParts_107
      rw [if_pos rfl, if_neg (show ¬ (1 : Int32) = 0 by decide), if_neg (show ¬ sgB e = 0 by rw [he]; decide), if_neg (show ¬ sgB e = 0 by rw [he]; decide), f]
      split <;> (try split) <;> (try split) <;> rfl
    · rw [if_neg (fun z => h70 (q70.mp z))]
      have hr2 : r < rk o ∨ (rk o = r ∧ r ≠ 3 ∧ r ≠ 4 ∧ 0 < r) := by
        rcases hrest with z | z
        · exact absurd z.1 h70
        · exact z
      have f := f138 0 0 ⟨fun _ z => by rcases z with z | z | z | z; exact hA (.inl z); exact hA (.inr (.inl z)); exact hA (.inr (.inr z)); exact h70 z, fun _ => ⟨rfl, rfl⟩⟩
      have f123 : ∀ s0 : Int32, (r < rk o ∨ s0 = 1) → b_X5_closeParts_123 n hP (L_X5_closeParts n hP k) gr gc (nI r) (sgB e) (nI c) (nI o) (nI (rk o)) 0 0 s0 = bnd (pop1 hP gr gc) (fun q => L_X5_closeParts n hP k q.1 q.2 (nI r) (sgB e) 1 (nI (c + 1))) := by
        intro s0 hs
        unfold b_X5_closeParts_123
        by_cases hlt : r < rk o
        · rw [if_pos (nI_lt hlt (by omega)), f]
        · have hs1 := hs.resolve_left hlt
          obtain ⟨_, _, _, h0⟩ := hr2.resolve_left hlt
          rw [if_neg (nI_nlt (by omega) (by omega)), if_neg (show ¬ s0 = 0 by rw [hs1]; decide), if_neg (nI_nle h0 (by omega)), f]
      unfold b_X5_closeParts_84 b_X5_closeParts_106 b_X5_closeParts_107
      rw [if_pos rfl, if_pos rfl]
      by_cases hq : rk o = r
      · obtain ⟨_, h3, h4', h0⟩ := hr2.resolve_left (by omega)
        rw [if_pos (show nI (rk o) = nI r by rw [hq]), if_neg (show ¬ nI r = (3 : Int32) from fun z => h3 ((nI_eq (b := 3) (by omega) (by decide)).mp z)), if_neg (show ¬ nI r = (4 : Int32) from fun z => h4' ((nI_eq (b := 4) (by omega) (by decide)).mp z)), f123 1 (.inr rfl)]
        rfl
      · rw [if_neg (fun z => hq ((nI_eq (by omega) (by omega)).mp z)), f123 0 (.inl (by omega))]
/-- closing m open signs, one after the other -/
def clo (hP : Nat) : Nat → Gs × Gs → Option (Gs × Gs)
  | 0 => fun s => some s
  | m + 1 => fun s => bnd (pop1 hP s.1 s.2) (fun q => clo hP m q)
/-- what pop1 leaves -/
theorem pop1_shape {hP : Nat} {gr gc : Gs} {h : Nat} {q : Gs × Gs} (h8 : gI gr 8 = nI (h + 1)) (hp : pop1 hP gr gc = some q) : gI q.1 8 = nI h ∧ Fr [8, 9] gr q.1 := by
  unfold pop1 at hp
  obtain ⟨x, _, hx⟩ := bnd_some hp
  injection hx with hx
  rw [← hx]
  refine ⟨?_, (Fr.sI (by decide) _ _).trans (Fr.sI (by decide) _ _)⟩
  show gI gr 8 - 1 = nI h
  rw [h8]; exact nI_pred h
theorem close_many {n hP r : Nat} {e : Bool} (hr : r ≤ 6) : ∀ (m k c h : Nat) (gr gc : Gs) (q : Gs × Gs), gI gr 8 = nI (h + m) → h + m ≤ 320 → c + m ≤ 318 → m + 2 ≤ k → (∀ i, h ≤ i → i < h + m → ∃ o, gIA gr 4 i = nI o ∧ o < 100 ∧ clsd o r e) → clo hP m (gr, gc) = some q → (0 < h → ∃ o, gIA gr 4 (h - 1) = nI o ∧ o < 100 ∧ ¬ clsd o r e) → L_X5_closeParts n hP k gr gc (nI r) (sgB e) 1 (nI c) = some q := by
  intro m
  induction m with
  | zero =>
    intro k c h gr gc q h8 hh hc hk _ hq hs
    obtain ⟨k, rfl⟩ : ∃ z, k = z + 2 := ⟨k - 2, by omega⟩
    injection hq with hq
    by_cases h0 : 0 < h
    · obtain ⟨o, o1, o2, o3⟩ := hs h0
      rw [← hq]; exact close_stop (o := o) (h := h) h8 (by omega) hr (by omega) (fun _ => ⟨o1, o2, o3⟩)
    · rw [← hq]; exact close_stop (o := 0) (h := h) h8 (by omega) hr (by omega) (fun z => absurd z h0)
  | succ m ih =>
    intro k c h gr gc q h8 hh hc hk hcl hq hs
    obtain ⟨k, rfl⟩ : ∃ z, k = z + 1 := ⟨k - 1, by omega⟩
    obtain ⟨o, o1, o2, o3⟩ := hcl (h + m) (by omega) (by omega)
    obtain ⟨q1, p1, p2⟩ := bnd_some hq
    have p1' : pop1 hP gr gc = some q1 := p1
    obtain ⟨s1, s2⟩ := pop1_shape (h := h + m) h8 p1'
    rw [close_one (h := h + m) h8 (by omega) hr (by omega) o1 o2 o3, bnd_s p1']
    have e4 : gIA q1.1 4 = gIA gr 4 := (s2 4 (by decide)).2.2.2.1
    refine ih k (c + 1) h q1.1 q1.2 q s1 (by omega) (by omega) (by omega) ?_ p2 ?_
    · intro i i1 i2; rw [e4]; exact hcl i i1 (by omega)
    · intro h0; rw [e4]; exact hs h0
