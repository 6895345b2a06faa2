/-! parsing: behind old; gs: the scanner -/
theorem behind_old {gr gs gc : Gs} {hP d : Nat} (h9 : gI gr 9 = nI d) (hd : d ≤ 40) (hk : gI gs 4 = 45) : f_X5_readBehind hP gr gs gc 8 = if d = 40 then some (0, gr, gc) else some (9, gr, gc) := by
  unfold f_X5_readBehind
  rw [if_neg (show ¬ (8 : Int32) = 4 by decide), if_neg (show ¬ (8 : Int32) = 5 by decide), if_neg (show ¬ (8 : Int32) = 6 by decide), if_neg (show ¬ (8 : Int32) = 7 by decide), if_pos rfl, if_pos hk, h9]
  by_cases h40 : d = 40
  · rw [if_pos h40, if_pos (show (40 : Int32) ≤ nI d by rw [h40]; decide)]
  · rw [if_neg h40, if_neg (show ¬ (40 : Int32) ≤ nI d from nI_ge (b := 40) (by omega) (by decide))]
theorem behind_old_no {gr gs gc : Gs} {hP : Nat} (hk : ¬ gI gs 4 = 45) : f_X5_readBehind hP gr gs gc 8 = some (0, gr, gc) := by
  unfold f_X5_readBehind
  rw [if_neg (show ¬ (8 : Int32) = 4 by decide), if_neg (show ¬ (8 : Int32) = 5 by decide), if_neg (show ¬ (8 : Int32) = 6 by decide), if_neg (show ¬ (8 : Int32) = 7 by decide), if_pos rfl, if_neg hk]
