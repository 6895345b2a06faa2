/-! parsing: behind the beginning of a part; gs: the scanner -/
/-- a NAME's [ -/
theorem behind_square {gr gs gc : Gs} {hP h d : Nat} (hk : gI gs 4 = 47) (h8 : gI gr 8 = nI h) (hh : h < 320) (h9 : gI gr 9 = nI d) (hd : d ≤ 40) : f_X5_readBehind hP gr gs gc 4 = if d = 40 then some (0, gr, gc) else some (2, pushG (sI gr 9 (nI (d + 1))) h 64 (gI gs 5) (gI gr 12) (gI gr 13), gc) := by
  have e := enter7 (o := 64) (p := gI gs 5) (m := gI gr 12) (x := gI gr 13) h8 hh h9 hd
  unfold f_X5_readBehind
  rw [if_pos rfl, if_pos hk]
  by_cases h40 : d = 40
  · rw [if_pos h40] at e; rw [if_pos h40, bnd_s e]
  · rw [if_neg h40] at e; rw [if_neg h40, bnd_s e]
/-- a NAME without a [ : the token stays -/
theorem behind_name {gr gs gc gc2 : Gs} {hP : Nat} (hk : ¬ gI gs 4 = 47) (ha : f_X5_addNamed hP (sI gr 10 0) gc 63 (gI gr 12) (gI gr 12) (gI gr 13) = some gc2) : f_X5_readBehind hP gr gs gc 4 = some (3, sI gr 10 0, gc2) := by
  unfold f_X5_readBehind
  rw [if_pos rfl, if_neg hk, bnd_s ha]
/-- a function's ( -/
theorem behind_word {gr gs gc : Gs} {hP h d : Nat} (hk : gI gs 4 = 45) (h8 : gI gr 8 = nI h) (hh : h < 320) (h9 : gI gr 9 = nI d) (hd : d ≤ 40) : f_X5_readBehind hP gr gs gc 5 = if d = 40 then some (0, gr, gc) else some (2, pushG (sI gr 9 (nI (d + 1))) h (gI gr 11) (gI gr 12) (-1) 0, gc) := by
  have e := enter7 (o := gI gr 11) (p := gI gr 12) (m := -1) (x := 0) h8 hh h9 hd
  unfold f_X5_readBehind
  rw [if_neg (show ¬ (5 : Int32) = 4 by decide), if_pos rfl, if_pos hk]
  by_cases h40 : d = 40
  · rw [if_pos h40] at e; rw [if_pos h40, bnd_s e]
  · rw [if_neg h40] at e; rw [if_neg h40, bnd_s e]
theorem behind_word_no {gr gs gc : Gs} {hP : Nat} (hk : ¬ gI gs 4 = 45) : f_X5_readBehind hP gr gs gc 5 = some (0, gr, gc) := by
  unfold f_X5_readBehind
  rw [if_neg (show ¬ (5 : Int32) = 4 by decide), if_pos rfl, if_neg hk]
/-- a cast's ) -/
theorem behind_sort {gr gs gc : Gs} {hP h d : Nat} (hk : gI gs 4 = 46) (h8 : gI gr 8 = nI h) (hh : h < 320) (h9 : gI gr 9 = nI d) (hd : d < 40) : f_X5_readBehind hP gr gs gc 7 = some (2, pushG (sI gr 9 (nI (d + 1))) h 66 (gI gr 12) (gI gr 11 - 28) 0, gc) := by
  have e := enter7 (o := 66) (p := gI gr 12) (m := gI gr 11 - 28) (x := 0) h8 hh h9 (by omega)
  rw [if_neg (by omega)] at e
  unfold f_X5_readBehind
  rw [if_neg (show ¬ (7 : Int32) = 4 by decide), if_neg (show ¬ (7 : Int32) = 5 by decide), if_neg (show ¬ (7 : Int32) = 6 by decide), if_pos rfl, if_pos hk, bnd_s e]
theorem behind_sort_no {gr gs gc : Gs} {hP : Nat} (hk : ¬ gI gs 4 = 46) : f_X5_readBehind hP gr gs gc 7 = some (0, gr, gc) := by
  unfold f_X5_readBehind
  rw [if_neg (show ¬ (7 : Int32) = 4 by decide), if_neg (show ¬ (7 : Int32) = 5 by decide), if_neg (show ¬ (7 : Int32) = 6 by decide), if_pos rfl, if_neg hk]
