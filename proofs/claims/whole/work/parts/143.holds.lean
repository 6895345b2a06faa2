/-! comparisons, least and most, gcd on both sides -/
def CP (s o' : Int32) : Prop := (s = 60 ∧ o' = 55) ∨ (s = 62 ∧ o' = 56) ∨ (s = 188 ∧ o' = 57) ∨ (s = 190 ∧ o' = 58) ∨ (s = 189 ∧ o' = 59) ∨ (s = 161 ∧ o' = 60)
theorem holds_57 {n : Nat} {g : Gs} {s o' : Int32} (hp : CP s o') (c : Int32) : ∃ r, b_X12_holds_57 n g s c = some (r, g) ∧ f_X1_holds o' c = some r ∧ (r = 0 ∨ r = 1) := by
  unfold b_X12_holds_57 f_X1_holds
  have pick : ∀ (p : Prop) [Decidable p], ∃ r : Int32, (if p then some ((0 : Int32), g) else some ((1 : Int32), g)) = some (r, g) ∧ (if p then some (0 : Int32) else some (1 : Int32)) = some r ∧ (r = 0 ∨ r = 1) := by
    intro p _
    by_cases h : p
    · exact ⟨0, by rw [if_pos h], by rw [if_pos h], .inl rfl⟩
    · exact ⟨1, by rw [if_neg h], by rw [if_neg h], .inr rfl⟩
  have pick2 : ∀ (p : Prop) [Decidable p], ∃ r : Int32, (if p then some ((1 : Int32), g) else some ((0 : Int32), g)) = some (r, g) ∧ (if p then some (1 : Int32) else some (0 : Int32)) = some r ∧ (r = 0 ∨ r = 1) := by
    intro p _
    by_cases h : p
    · exact ⟨1, by rw [if_pos h], by rw [if_pos h], .inr rfl⟩
    · exact ⟨0, by rw [if_neg h], by rw [if_neg h], .inl rfl⟩
  rcases hp with ⟨rfl, rfl⟩ | ⟨rfl, rfl⟩ | ⟨rfl, rfl⟩ | ⟨rfl, rfl⟩ | ⟨rfl, rfl⟩ | ⟨rfl, rfl⟩
  · rw [if_pos (show (60 : Int32) = 60 from rfl), if_pos (show (55 : Int32) = 55 from rfl)]; exact pick _
  · rw [if_neg (show ¬ (62 : Int32) = 60 by decide), if_neg (show ¬ (62 : Int32) = 161 by decide), if_neg (show ¬ (62 : Int32) = 188 by decide), if_neg (show ¬ (62 : Int32) = 189 by decide), if_neg (show ¬ (62 : Int32) = 190 by decide), if_neg (show ¬ (56 : Int32) = 55 by decide), if_pos (show (56 : Int32) = 56 from rfl)]; exact pick _
  · rw [if_neg (show ¬ (188 : Int32) = 60 by decide), if_neg (show ¬ (188 : Int32) = 161 by decide), if_pos (show (188 : Int32) = 188 from rfl), if_neg (show ¬ (57 : Int32) = 55 by decide), if_neg (show ¬ (57 : Int32) = 56 by decide), if_pos (show (57 : Int32) = 57 from rfl)]; exact pick _
  · rw [if_neg (show ¬ (190 : Int32) = 60 by decide), if_neg (show ¬ (190 : Int32) = 161 by decide), if_neg (show ¬ (190 : Int32) = 188 by decide), if_neg (show ¬ (190 : Int32) = 189 by decide), if_pos (show (190 : Int32) = 190 from rfl), if_neg (show ¬ (58 : Int32) = 55 by decide), if_neg (show ¬ (58 : Int32) = 56 by decide), if_neg (show ¬ (58 : Int32) = 57 by decide), if_pos (show (58 : Int32) = 58 from rfl)]; exact pick _
  · rw [if_neg (show ¬ (189 : Int32) = 60 by decide), if_neg (show ¬ (189 : Int32) = 161 by decide), if_neg (show ¬ (189 : Int32) = 188 by decide), if_pos (show (189 : Int32) = 189 from rfl), if_neg (show ¬ (59 : Int32) = 55 by decide), if_neg (show ¬ (59 : Int32) = 56 by decide), if_neg (show ¬ (59 : Int32) = 57 by decide), if_neg (show ¬ (59 : Int32) = 58 by decide), if_pos (show (59 : Int32) = 59 from rfl)]; exact pick2 _
  · rw [if_neg (show ¬ (161 : Int32) = 60 by decide), if_pos (show (161 : Int32) = 161 from rfl), if_neg (show ¬ (60 : Int32) = 55 by decide), if_neg (show ¬ (60 : Int32) = 56 by decide), if_neg (show ¬ (60 : Int32) = 57 by decide), if_neg (show ¬ (60 : Int32) = 58 by decide), if_neg (show ¬ (60 : Int32) = 59 by decide)]; exact pick _
/-- a real of either sort as a DOUBLE: the class has it already -/
theorem as_double {n : Nat} {g : Gs} {t : Nat} {v w : Int64} {d : UInt64} (hn : 65 ≤ n) (ht : t = 6 ∨ t = 7) (h : VR t v w d) : ∃ r g', f_X12_become n g v (nI t) 7 = some (r, g') ∧ Sc g g' ∧ r.toUInt64 = d ∧ ∃ s u, Dv d s u := by
  obtain ⟨s, u, hd, h6, h7⟩ := VR.real ht h
  rcases ht with rfl | rfl
  · obtain ⟨r, g', b1, b2, b3⟩ := become67 (n := n) (g := g) hn (h6 rfl)
    exact ⟨r, g', b1, b2, b3.inj hd, s, u, hd⟩
  · exact ⟨v, g, become77, Sc.refl g, h7 rfl, s, u, hd⟩
theorem holds_eq {n : Nat} {g : Gs} {t : Nat} {s o' : Int32} {a b wa wb : Int64} {da db : UInt64} (hn : 65 ≤ n) (hp : CP s o') (ht : t ≤ 7) (ha : VR t a wa da) (hb : VR t b wb db) : ∃ c g', f_X12_holds n g s a b (nI t) = some (c, g') ∧ Sc g g' ∧ (c = 0 ∨ c = 1) ∧ ((if t ≤ 5 then bnd (f_J13_compare_74951 wa wb) (fun q => f_X1_holds o' q) else bnd (f_X1_orderOf da db) (fun q => f_X1_holds o' q)) = some c) := by
  have lead : ∀ c0 : Int32, (t ≤ 5 → f_J13_compare_74951 wa wb = some c0) → ∃ c g', b_X12_holds_23 n g s a b (nI t) c0 = some (c, g') ∧ Sc g g' ∧ (c = 0 ∨ c = 1) ∧ ((if t ≤ 5 then bnd (f_J13_compare_74951 wa wb) (fun q => f_X1_holds o' q) else bnd (f_X1_orderOf da db) (fun q => f_X1_holds o' q)) = some c) := by
    intro c0 hc0
    unfold b_X12_holds_23
    rw [bnd_s (isReal_nI (by omega))]
    by_cases h5 : t ≤ 5
    · rw [if_pos (by rw [if_pos h5]), if_pos h5, bnd_s (hc0 h5)]
      obtain ⟨r, r1, r2, r3⟩ := holds_57 (n := n) (g := g) hp c0
      exact ⟨r, g, r1, Sc.refl g, r3, r2⟩
    · have h67 : t = 6 ∨ t = 7 := by omega
      rw [if_neg (by rw [if_neg h5]; decide), if_neg h5]
      obtain ⟨A, g1, a1, a2, a3, s1, u1, a4⟩ := as_double (g := g) hn h67 ha
      obtain ⟨B, g2, b1, b2, b3, s2, u2, b4⟩ := as_double (g := g1) hn h67 hb
      rw [← a3] at a4 ⊢
      rw [← b3] at b4 ⊢
      obtain ⟨r, r1, r2⟩ := order_eq a4 b4
      rw [bnd_s a1]
      dsimp only
      rw [bnd_s b1]
      dsimp only
      rw [bnd_s r1, bnd_s r2]
      obtain ⟨q, q1, q2, q3⟩ := holds_57 (n := n) (g := g2) hp r
      exact ⟨q, g2, q1, a2.trans b2, q3, q2⟩
  have eqv : t ≤ 5 → a = wa ∧ b = wb := fun h => ⟨(VR.whole h).mp ha, (VR.whole h).mp hb⟩
  unfold f_X12_holds
  by_cases c1 : b ≤ a
  · rw [if_pos c1]
    by_cases c2 : a ≤ b
    · rw [if_pos c2]
      refine lead 0 (fun h => ?_)
      obtain ⟨e1, e2⟩ := eqv h
      unfold f_J13_compare_74951
      rw [← e1, ← e2, if_pos c1, if_pos (Int64.le_antisymm c2 c1)]
    · rw [if_neg c2]
      refine lead 1 (fun h => ?_)
      obtain ⟨e1, e2⟩ := eqv h
      unfold f_J13_compare_74951
      rw [← e1, ← e2, if_pos c1, if_neg (fun z => c2 (by rw [z]; exact Int64.le_refl _))]
  · rw [if_neg c1]
    refine lead (-1) (fun h => ?_)
    obtain ⟨e1, e2⟩ := eqv h
    unfold f_J13_compare_74951
    rw [← e1, ← e2, if_neg c1]
/-! least and most -/
theorem ofTwo_spec {n : Nat} {g : Gs} {t : Nat} {a b : Int64} {m : Bool} {X Y : Int64} {g' : Gs} (hx : b_X12_ofTwo_24 n g (if m = true then 214 else 213) a b (nI t) X = b_X12_ofTwo_52 n g' (if m = true then 214 else 213) a b X Y) : b_X12_ofTwo_24 n g (if m = true then 214 else 213) a b (nI t) X = some ((if (if X < Y then true else false) = m then b else a), g') := by
  rw [hx]
  unfold b_X12_ofTwo_52 b_X12_ofTwo_67 b_X12_ofTwo_79
  by_cases c : Y ≤ X
  · have hn : ¬ X < Y := Int64.not_lt.mpr c
    rw [if_pos c, if_neg hn]
    cases m <;> rfl
  · have hn : X < Y := Int64.not_le.mp c
    rw [if_neg c, if_pos hn]
    cases m <;> rfl
theorem ofTwo_whole {n : Nat} {g : Gs} {t : Nat} {a b : Int64} (m : Bool) (ht : t ≤ 5) : f_X12_ofTwo n g (if m = true then 214 else 213) a b (nI t) = some ((if (if a < b then true else false) = m then b else a), g) := by
  have ir : f_X12_isReal (nI t) = some 0 := by rw [isReal_nI (by omega), if_pos ht]
  unfold f_X12_ofTwo
  rw [bnd_s ir, if_pos rfl]
  refine ofTwo_spec ?_
  unfold b_X12_ofTwo_24
  rw [bnd_s ir, if_pos rfl]
theorem ofTwo_real {n : Nat} {g : Gs} {t : Nat} {a b wa wb : Int64} {da db : UInt64} (m : Bool) (hn : 65 ≤ n) (ht : t = 6 ∨ t = 7) (ha : VR t a wa da) (hb : VR t b wb db) : ∃ r g' q, f_X12_ofTwo n g (if m = true then 214 else 213) a b (nI t) = some (r, g') ∧ Sc g g' ∧ (if m = true then f_X6_mostOf da db else f_X6_leastOf da db) = some q ∧ ∀ w, VR t r w q := by
  have ir := isReal67 ht
  obtain ⟨A, g1, a1, a2, a3, s1, u1, a4⟩ := as_double (g := g) hn ht ha
  obtain ⟨B, g2, b1, b2, b3, s2, u2, b4⟩ := as_double (g := g1) hn ht hb
  obtain ⟨P, p1, p2⟩ := f_place A
  obtain ⟨Q, q1, q2⟩ := f_place B
  have e : b_X12_ofTwo_24 n g1 (if m = true then 214 else 213) a b (nI t) P = b_X12_ofTwo_52 n g2 (if m = true then 214 else 213) a b P Q := by
    unfold b_X12_ofTwo_24
    rw [bnd_s ir, if_neg (by decide), bnd_s b1]
    dsimp only
    rw [bnd_s q1]
  have hs := ofTwo_spec (m := m) e
  have lt : P < Q ↔ plc A < plc B := by rw [Int64.lt_iff_toInt_lt, p2, q2]
  have full : f_X12_ofTwo n g (if m = true then 214 else 213) a b (nI t) = some ((if (if P < Q then true else false) = m then b else a), g2) := by
    unfold f_X12_ofTwo
    rw [bnd_s ir, if_neg (by decide), bnd_s a1]
    dsimp only
    rw [bnd_s p1]
    exact hs
  have a4' : Dv A.toUInt64 s1 u1 := by rw [a3]; exact a4
  have b4' : Dv B.toUInt64 s2 u2 := by rw [b3]; exact b4
  obtain ⟨l1, l2⟩ := two_of a4' b4'
  rw [a3, b3] at l1 l2
  have vr : ∀ {x w : Int64} {d : UInt64}, VR t x w d → ∀ w', VR t x w' d := by
    intro x w d h w'
    rcases ht with rfl | rfl
    · exact VR.six.mpr (VR.six.mp h)
    · exact VR.seven.mpr (VR.seven.mp h)
  by_cases c : plc A < plc B
  · rw [if_pos (lt.mpr c)] at full
    rw [if_pos c] at l1 l2
    cases m with
    | true => exact ⟨b, g2, db, by rw [full, if_pos rfl], a2.trans b2, by rw [if_pos rfl]; exact l2, vr hb⟩
    | false => exact ⟨a, g2, da, by rw [full, if_neg (by decide)], a2.trans b2, by rw [if_neg (by decide)]; exact l1, vr ha⟩
  · rw [if_neg (fun z => c (lt.mp z))] at full
    rw [if_neg c] at l1 l2
    cases m with
    | true => exact ⟨a, g2, da, by rw [full, if_neg (by decide)], a2.trans b2, by rw [if_pos rfl]; exact l2, vr ha⟩
    | false => exact ⟨b, g2, db, by rw [full, if_pos rfl], a2.trans b2, by rw [if_neg (by decide)]; exact l1, vr hb⟩
theorem minmax_w {gm : Gs} (m : Bool) (a b : Int64) : f_X1_workWholes gm (if m = true then 24 else 23) a b = some ((if (if a < b then true else false) = m then b else a), gm) := by
  unfold f_X1_workWholes b_X1_workWholes_26
  by_cases c : a < b
  · have c2 : ¬ b < a := fun z => Int64.lt_irrefl (Int64.lt_trans z c)
    rw [if_pos c]
    cases m
    · simp only [if_neg c2]; rfl
    · simp only [if_neg c2]; rfl
  · rw [if_neg c]
    by_cases c2 : b < a
    · cases m
      · simp only [if_pos c2]; rfl
      · simp only [if_pos c2]; rfl
    · have e : a = b := Int64.le_antisymm (Int64.not_lt.mp c2) (Int64.not_lt.mp c)
      subst e
      cases m
      · simp only [if_neg c2]; rfl
      · simp only [if_neg c2]; rfl
