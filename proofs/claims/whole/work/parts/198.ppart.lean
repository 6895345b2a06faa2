/-! parsing: the beginnings of parts -/
theorem nIz {K : Nat} {c : Int32} (h : nI K = c) (hK : K < 256) : K = c.toNatClampNeg := by rw [← h, nI_clamp (by omega)]
theorem ite_eq' {α : Type} {p : Prop} [Decidable p] {x y v : α} (h1 : p → x = v) (h2 : y = v) : (if p then x else y) = v := by
  by_cases h : p
  · rw [if_pos h]; exact h1 h
  · rw [if_neg h]; exact h2
/-- the reader that holds the token -/
def hld (gr gs : Gs) : Gs := sI (sI (sI gr 11 (gI gs 4)) 12 (gI gs 5)) 13 (gI gs 6)
theorem hld_fr (gr gs : Gs) : Fr [11, 12, 13] gr (hld gr gs) := ((Fr.sI (by decide) _ _).trans (Fr.sI (by decide) _ _)).trans (Fr.sI (by decide) _ _)
theorem part_name {hP : Nat} {gr gs gc : Gs} (h4 : gI gs 4 = 2) : f_X5_readPart hP gr gs gc = bnd (f_X5_countNode hP (hld gr gs) gc (gI gs 5)) (fun q => some (4, q.1, q.2)) := by
  unfold f_X5_readPart hld
  rw [h4, if_pos rfl]
theorem part_leaf3 {hP : Nat} {gr gs gc : Gs} (h4 : gI gs 4 = 3) : f_X5_readPart hP gr gs gc = bnd (f_X5_readLeaf hP (hld gr gs) gs gc 3) (fun q => some (q.1, q.2.1, q.2.2)) := by
  unfold f_X5_readPart hld
  rw [h4, if_neg (show ¬ (3 : Int32) = 2 by decide), if_pos rfl]; rfl
theorem part_leaf17 {hP : Nat} {gr gs gc : Gs} (h4 : gI gs 4 = 17) : f_X5_readPart hP gr gs gc = bnd (f_X5_readLeaf hP (hld gr gs) gs gc 17) (fun q => some (q.1, q.2.1, q.2.2)) := by
  unfold f_X5_readPart hld
  rw [h4, if_neg (show ¬ (17 : Int32) = 2 by decide), if_neg (show ¬ (17 : Int32) = 3 by decide), if_neg (show ¬ (17 : Int32) = 4 by decide), if_neg (show ¬ (17 : Int32) = 5 by decide), if_neg (show ¬ (17 : Int32) = 6 by decide), if_neg (show ¬ (17 : Int32) = 7 by decide), if_neg (show ¬ (17 : Int32) = 8 by decide), if_neg (show ¬ (17 : Int32) = 9 by decide), if_neg (show ¬ (17 : Int32) = 10 by decide), if_neg (show ¬ (17 : Int32) = 11 by decide), if_neg (show ¬ (17 : Int32) = 12 by decide), if_neg (show ¬ (17 : Int32) = 13 by decide), if_neg (show ¬ (17 : Int32) = 14 by decide), if_neg (show ¬ (17 : Int32) = 15 by decide), if_neg (show ¬ (17 : Int32) = 16 by decide), if_pos rfl]; rfl
theorem part_leaf18 {hP : Nat} {gr gs gc : Gs} (h4 : gI gs 4 = 18) : f_X5_readPart hP gr gs gc = bnd (f_X5_readLeaf hP (hld gr gs) gs gc 18) (fun q => some (q.1, q.2.1, q.2.2)) := by
  unfold f_X5_readPart hld
  rw [h4, if_neg (show ¬ (18 : Int32) = 2 by decide), if_neg (show ¬ (18 : Int32) = 3 by decide), if_neg (show ¬ (18 : Int32) = 4 by decide), if_neg (show ¬ (18 : Int32) = 5 by decide), if_neg (show ¬ (18 : Int32) = 6 by decide), if_neg (show ¬ (18 : Int32) = 7 by decide), if_neg (show ¬ (18 : Int32) = 8 by decide), if_neg (show ¬ (18 : Int32) = 9 by decide), if_neg (show ¬ (18 : Int32) = 10 by decide), if_neg (show ¬ (18 : Int32) = 11 by decide), if_neg (show ¬ (18 : Int32) = 12 by decide), if_neg (show ¬ (18 : Int32) = 13 by decide), if_neg (show ¬ (18 : Int32) = 14 by decide), if_neg (show ¬ (18 : Int32) = 15 by decide), if_neg (show ¬ (18 : Int32) = 16 by decide), if_neg (show ¬ (18 : Int32) = 17 by decide), if_pos rfl]; rfl
theorem part_leaf26 {hP : Nat} {gr gs gc : Gs} (h4 : gI gs 4 = 26) : f_X5_readPart hP gr gs gc = bnd (f_X5_readLeaf hP (hld gr gs) gs gc 26) (fun q => some (q.1, q.2.1, q.2.2)) := by
  unfold f_X5_readPart hld
  rw [h4, if_neg (show ¬ (26 : Int32) = 2 by decide), if_neg (show ¬ (26 : Int32) = 3 by decide), if_neg (show ¬ (26 : Int32) = 4 by decide), if_neg (show ¬ (26 : Int32) = 5 by decide), if_neg (show ¬ (26 : Int32) = 6 by decide), if_neg (show ¬ (26 : Int32) = 7 by decide), if_neg (show ¬ (26 : Int32) = 8 by decide), if_neg (show ¬ (26 : Int32) = 9 by decide), if_neg (show ¬ (26 : Int32) = 10 by decide), if_neg (show ¬ (26 : Int32) = 11 by decide), if_neg (show ¬ (26 : Int32) = 12 by decide), if_neg (show ¬ (26 : Int32) = 13 by decide), if_neg (show ¬ (26 : Int32) = 14 by decide), if_neg (show ¬ (26 : Int32) = 15 by decide), if_neg (show ¬ (26 : Int32) = 16 by decide), if_neg (show ¬ (26 : Int32) = 17 by decide), if_neg (show ¬ (26 : Int32) = 18 by decide), if_neg (show ¬ (26 : Int32) = 19 by decide), if_neg (show ¬ (26 : Int32) = 20 by decide), if_neg (show ¬ (26 : Int32) = 21 by decide), if_neg (show ¬ (26 : Int32) = 22 by decide), if_neg (show ¬ (26 : Int32) = 23 by decide), if_neg (show ¬ (26 : Int32) = 24 by decide), if_neg (show ¬ (26 : Int32) = 25 by decide), if_pos rfl]; rfl
theorem part_leaf27 {hP : Nat} {gr gs gc : Gs} (h4 : gI gs 4 = 27) : f_X5_readPart hP gr gs gc = bnd (f_X5_readLeaf hP (hld gr gs) gs gc 27) (fun q => some (q.1, q.2.1, q.2.2)) := by
  unfold f_X5_readPart hld
  rw [h4, if_neg (show ¬ (27 : Int32) = 2 by decide), if_neg (show ¬ (27 : Int32) = 3 by decide), if_neg (show ¬ (27 : Int32) = 4 by decide), if_neg (show ¬ (27 : Int32) = 5 by decide), if_neg (show ¬ (27 : Int32) = 6 by decide), if_neg (show ¬ (27 : Int32) = 7 by decide), if_neg (show ¬ (27 : Int32) = 8 by decide), if_neg (show ¬ (27 : Int32) = 9 by decide), if_neg (show ¬ (27 : Int32) = 10 by decide), if_neg (show ¬ (27 : Int32) = 11 by decide), if_neg (show ¬ (27 : Int32) = 12 by decide), if_neg (show ¬ (27 : Int32) = 13 by decide), if_neg (show ¬ (27 : Int32) = 14 by decide), if_neg (show ¬ (27 : Int32) = 15 by decide), if_neg (show ¬ (27 : Int32) = 16 by decide), if_neg (show ¬ (27 : Int32) = 17 by decide), if_neg (show ¬ (27 : Int32) = 18 by decide), if_neg (show ¬ (27 : Int32) = 19 by decide), if_neg (show ¬ (27 : Int32) = 20 by decide), if_neg (show ¬ (27 : Int32) = 21 by decide), if_neg (show ¬ (27 : Int32) = 22 by decide), if_neg (show ¬ (27 : Int32) = 23 by decide), if_neg (show ¬ (27 : Int32) = 24 by decide), if_neg (show ¬ (27 : Int32) = 25 by decide), if_neg (show ¬ (27 : Int32) = 26 by decide), if_pos rfl]; rfl
theorem part_old {hP : Nat} {gr gs gc : Gs} (h4 : gI gs 4 = 16) : f_X5_readPart hP gr gs gc = bnd (f_X5_countNode hP (hld gr gs) gc (gI gs 5)) (fun q => some (8, q.1, q.2)) := by
  unfold f_X5_readPart hld
  rw [h4, if_neg (show ¬ (16 : Int32) = 2 by decide), if_neg (show ¬ (16 : Int32) = 3 by decide), if_neg (show ¬ (16 : Int32) = 4 by decide), if_neg (show ¬ (16 : Int32) = 5 by decide), if_neg (show ¬ (16 : Int32) = 6 by decide), if_neg (show ¬ (16 : Int32) = 7 by decide), if_neg (show ¬ (16 : Int32) = 8 by decide), if_neg (show ¬ (16 : Int32) = 9 by decide), if_neg (show ¬ (16 : Int32) = 10 by decide), if_neg (show ¬ (16 : Int32) = 11 by decide), if_neg (show ¬ (16 : Int32) = 12 by decide), if_neg (show ¬ (16 : Int32) = 13 by decide), if_neg (show ¬ (16 : Int32) = 14 by decide), if_neg (show ¬ (16 : Int32) = 15 by decide), if_pos rfl]
theorem part_word19 {hP : Nat} {gr gs gc : Gs} (h4 : gI gs 4 = 19) : f_X5_readPart hP gr gs gc = bnd (f_X5_countNode hP (hld gr gs) gc (gI gs 5)) (fun q => some (5, q.1, q.2)) := by
  unfold f_X5_readPart hld
  rw [h4, if_neg (show ¬ (19 : Int32) = 2 by decide), if_neg (show ¬ (19 : Int32) = 3 by decide), if_neg (show ¬ (19 : Int32) = 4 by decide), if_neg (show ¬ (19 : Int32) = 5 by decide), if_neg (show ¬ (19 : Int32) = 6 by decide), if_neg (show ¬ (19 : Int32) = 7 by decide), if_neg (show ¬ (19 : Int32) = 8 by decide), if_neg (show ¬ (19 : Int32) = 9 by decide), if_neg (show ¬ (19 : Int32) = 10 by decide), if_neg (show ¬ (19 : Int32) = 11 by decide), if_neg (show ¬ (19 : Int32) = 12 by decide), if_neg (show ¬ (19 : Int32) = 13 by decide), if_neg (show ¬ (19 : Int32) = 14 by decide), if_neg (show ¬ (19 : Int32) = 15 by decide), if_neg (show ¬ (19 : Int32) = 16 by decide), if_neg (show ¬ (19 : Int32) = 17 by decide), if_neg (show ¬ (19 : Int32) = 18 by decide), if_pos rfl]; rfl
theorem part_word20 {hP : Nat} {gr gs gc : Gs} (h4 : gI gs 4 = 20) : f_X5_readPart hP gr gs gc = bnd (f_X5_countNode hP (hld gr gs) gc (gI gs 5)) (fun q => some (5, q.1, q.2)) := by
  unfold f_X5_readPart hld
  rw [h4, if_neg (show ¬ (20 : Int32) = 2 by decide), if_neg (show ¬ (20 : Int32) = 3 by decide), if_neg (show ¬ (20 : Int32) = 4 by decide), if_neg (show ¬ (20 : Int32) = 5 by decide), if_neg (show ¬ (20 : Int32) = 6 by decide), if_neg (show ¬ (20 : Int32) = 7 by decide), if_neg (show ¬ (20 : Int32) = 8 by decide), if_neg (show ¬ (20 : Int32) = 9 by decide), if_neg (show ¬ (20 : Int32) = 10 by decide), if_neg (show ¬ (20 : Int32) = 11 by decide), if_neg (show ¬ (20 : Int32) = 12 by decide), if_neg (show ¬ (20 : Int32) = 13 by decide), if_neg (show ¬ (20 : Int32) = 14 by decide), if_neg (show ¬ (20 : Int32) = 15 by decide), if_neg (show ¬ (20 : Int32) = 16 by decide), if_neg (show ¬ (20 : Int32) = 17 by decide), if_neg (show ¬ (20 : Int32) = 18 by decide), if_neg (show ¬ (20 : Int32) = 19 by decide), if_pos rfl]; rfl
theorem part_word21 {hP : Nat} {gr gs gc : Gs} (h4 : gI gs 4 = 21) : f_X5_readPart hP gr gs gc = bnd (f_X5_countNode hP (hld gr gs) gc (gI gs 5)) (fun q => some (5, q.1, q.2)) := by
  unfold f_X5_readPart hld
  rw [h4, if_neg (show ¬ (21 : Int32) = 2 by decide), if_neg (show ¬ (21 : Int32) = 3 by decide), if_neg (show ¬ (21 : Int32) = 4 by decide), if_neg (show ¬ (21 : Int32) = 5 by decide), if_neg (show ¬ (21 : Int32) = 6 by decide), if_neg (show ¬ (21 : Int32) = 7 by decide), if_neg (show ¬ (21 : Int32) = 8 by decide), if_neg (show ¬ (21 : Int32) = 9 by decide), if_neg (show ¬ (21 : Int32) = 10 by decide), if_neg (show ¬ (21 : Int32) = 11 by decide), if_neg (show ¬ (21 : Int32) = 12 by decide), if_neg (show ¬ (21 : Int32) = 13 by decide), if_neg (show ¬ (21 : Int32) = 14 by decide), if_neg (show ¬ (21 : Int32) = 15 by decide), if_neg (show ¬ (21 : Int32) = 16 by decide), if_neg (show ¬ (21 : Int32) = 17 by decide), if_neg (show ¬ (21 : Int32) = 18 by decide), if_neg (show ¬ (21 : Int32) = 19 by decide), if_neg (show ¬ (21 : Int32) = 20 by decide), if_pos rfl]; rfl
theorem part_word22 {hP : Nat} {gr gs gc : Gs} (h4 : gI gs 4 = 22) : f_X5_readPart hP gr gs gc = bnd (f_X5_countNode hP (hld gr gs) gc (gI gs 5)) (fun q => some (5, q.1, q.2)) := by
  unfold f_X5_readPart hld
  rw [h4, if_neg (show ¬ (22 : Int32) = 2 by decide), if_neg (show ¬ (22 : Int32) = 3 by decide), if_neg (show ¬ (22 : Int32) = 4 by decide), if_neg (show ¬ (22 : Int32) = 5 by decide), if_neg (show ¬ (22 : Int32) = 6 by decide), if_neg (show ¬ (22 : Int32) = 7 by decide), if_neg (show ¬ (22 : Int32) = 8 by decide), if_neg (show ¬ (22 : Int32) = 9 by decide), if_neg (show ¬ (22 : Int32) = 10 by decide), if_neg (show ¬ (22 : Int32) = 11 by decide), if_neg (show ¬ (22 : Int32) = 12 by decide), if_neg (show ¬ (22 : Int32) = 13 by decide), if_neg (show ¬ (22 : Int32) = 14 by decide), if_neg (show ¬ (22 : Int32) = 15 by decide), if_neg (show ¬ (22 : Int32) = 16 by decide), if_neg (show ¬ (22 : Int32) = 17 by decide), if_neg (show ¬ (22 : Int32) = 18 by decide), if_neg (show ¬ (22 : Int32) = 19 by decide), if_neg (show ¬ (22 : Int32) = 20 by decide), if_neg (show ¬ (22 : Int32) = 21 by decide), if_pos rfl]; rfl
theorem part_word23 {hP : Nat} {gr gs gc : Gs} (h4 : gI gs 4 = 23) : f_X5_readPart hP gr gs gc = bnd (f_X5_countNode hP (hld gr gs) gc (gI gs 5)) (fun q => some (5, q.1, q.2)) := by
  unfold f_X5_readPart hld
  rw [h4, if_neg (show ¬ (23 : Int32) = 2 by decide), if_neg (show ¬ (23 : Int32) = 3 by decide), if_neg (show ¬ (23 : Int32) = 4 by decide), if_neg (show ¬ (23 : Int32) = 5 by decide), if_neg (show ¬ (23 : Int32) = 6 by decide), if_neg (show ¬ (23 : Int32) = 7 by decide), if_neg (show ¬ (23 : Int32) = 8 by decide), if_neg (show ¬ (23 : Int32) = 9 by decide), if_neg (show ¬ (23 : Int32) = 10 by decide), if_neg (show ¬ (23 : Int32) = 11 by decide), if_neg (show ¬ (23 : Int32) = 12 by decide), if_neg (show ¬ (23 : Int32) = 13 by decide), if_neg (show ¬ (23 : Int32) = 14 by decide), if_neg (show ¬ (23 : Int32) = 15 by decide), if_neg (show ¬ (23 : Int32) = 16 by decide), if_neg (show ¬ (23 : Int32) = 17 by decide), if_neg (show ¬ (23 : Int32) = 18 by decide), if_neg (show ¬ (23 : Int32) = 19 by decide), if_neg (show ¬ (23 : Int32) = 20 by decide), if_neg (show ¬ (23 : Int32) = 21 by decide), if_neg (show ¬ (23 : Int32) = 22 by decide), if_pos rfl]; rfl
theorem part_word24 {hP : Nat} {gr gs gc : Gs} (h4 : gI gs 4 = 24) : f_X5_readPart hP gr gs gc = bnd (f_X5_countNode hP (hld gr gs) gc (gI gs 5)) (fun q => some (5, q.1, q.2)) := by
  unfold f_X5_readPart hld
  rw [h4, if_neg (show ¬ (24 : Int32) = 2 by decide), if_neg (show ¬ (24 : Int32) = 3 by decide), if_neg (show ¬ (24 : Int32) = 4 by decide), if_neg (show ¬ (24 : Int32) = 5 by decide), if_neg (show ¬ (24 : Int32) = 6 by decide), if_neg (show ¬ (24 : Int32) = 7 by decide), if_neg (show ¬ (24 : Int32) = 8 by decide), if_neg (show ¬ (24 : Int32) = 9 by decide), if_neg (show ¬ (24 : Int32) = 10 by decide), if_neg (show ¬ (24 : Int32) = 11 by decide), if_neg (show ¬ (24 : Int32) = 12 by decide), if_neg (show ¬ (24 : Int32) = 13 by decide), if_neg (show ¬ (24 : Int32) = 14 by decide), if_neg (show ¬ (24 : Int32) = 15 by decide), if_neg (show ¬ (24 : Int32) = 16 by decide), if_neg (show ¬ (24 : Int32) = 17 by decide), if_neg (show ¬ (24 : Int32) = 18 by decide), if_neg (show ¬ (24 : Int32) = 19 by decide), if_neg (show ¬ (24 : Int32) = 20 by decide), if_neg (show ¬ (24 : Int32) = 21 by decide), if_neg (show ¬ (24 : Int32) = 22 by decide), if_neg (show ¬ (24 : Int32) = 23 by decide), if_pos rfl]; rfl
theorem part_word25 {hP : Nat} {gr gs gc : Gs} (h4 : gI gs 4 = 25) : f_X5_readPart hP gr gs gc = bnd (f_X5_countNode hP (hld gr gs) gc (gI gs 5)) (fun q => some (5, q.1, q.2)) := by
  unfold f_X5_readPart hld
  rw [h4, if_neg (show ¬ (25 : Int32) = 2 by decide), if_neg (show ¬ (25 : Int32) = 3 by decide), if_neg (show ¬ (25 : Int32) = 4 by decide), if_neg (show ¬ (25 : Int32) = 5 by decide), if_neg (show ¬ (25 : Int32) = 6 by decide), if_neg (show ¬ (25 : Int32) = 7 by decide), if_neg (show ¬ (25 : Int32) = 8 by decide), if_neg (show ¬ (25 : Int32) = 9 by decide), if_neg (show ¬ (25 : Int32) = 10 by decide), if_neg (show ¬ (25 : Int32) = 11 by decide), if_neg (show ¬ (25 : Int32) = 12 by decide), if_neg (show ¬ (25 : Int32) = 13 by decide), if_neg (show ¬ (25 : Int32) = 14 by decide), if_neg (show ¬ (25 : Int32) = 15 by decide), if_neg (show ¬ (25 : Int32) = 16 by decide), if_neg (show ¬ (25 : Int32) = 17 by decide), if_neg (show ¬ (25 : Int32) = 18 by decide), if_neg (show ¬ (25 : Int32) = 19 by decide), if_neg (show ¬ (25 : Int32) = 20 by decide), if_neg (show ¬ (25 : Int32) = 21 by decide), if_neg (show ¬ (25 : Int32) = 22 by decide), if_neg (show ¬ (25 : Int32) = 23 by decide), if_neg (show ¬ (25 : Int32) = 24 by decide), if_pos rfl]; rfl
theorem part_pre50 {hP : Nat} {gr gs gc : Gs} (h4 : gI gs 4 = 50) : f_X5_readPart hP gr gs gc = bnd (f_X5_countNode hP (hld gr gs) gc (gI gs 5)) (fun q => bnd (f_X5_enter q.1 65 (gI q.1 12) (-1) 0) (fun q2 => some (q2.1, q2.2, q.2))) := by
  unfold f_X5_readPart hld
  rw [h4, if_neg (show ¬ (50 : Int32) = 2 by decide), if_neg (show ¬ (50 : Int32) = 3 by decide), if_neg (show ¬ (50 : Int32) = 4 by decide), if_neg (show ¬ (50 : Int32) = 5 by decide), if_neg (show ¬ (50 : Int32) = 6 by decide), if_neg (show ¬ (50 : Int32) = 7 by decide), if_neg (show ¬ (50 : Int32) = 8 by decide), if_neg (show ¬ (50 : Int32) = 9 by decide), if_neg (show ¬ (50 : Int32) = 10 by decide), if_neg (show ¬ (50 : Int32) = 11 by decide), if_neg (show ¬ (50 : Int32) = 12 by decide), if_neg (show ¬ (50 : Int32) = 13 by decide), if_neg (show ¬ (50 : Int32) = 14 by decide), if_neg (show ¬ (50 : Int32) = 15 by decide), if_neg (show ¬ (50 : Int32) = 16 by decide), if_neg (show ¬ (50 : Int32) = 17 by decide), if_neg (show ¬ (50 : Int32) = 18 by decide), if_neg (show ¬ (50 : Int32) = 19 by decide), if_neg (show ¬ (50 : Int32) = 20 by decide), if_neg (show ¬ (50 : Int32) = 21 by decide), if_neg (show ¬ (50 : Int32) = 22 by decide), if_neg (show ¬ (50 : Int32) = 23 by decide), if_neg (show ¬ (50 : Int32) = 24 by decide), if_neg (show ¬ (50 : Int32) = 25 by decide), if_neg (show ¬ (50 : Int32) = 26 by decide), if_neg (show ¬ (50 : Int32) = 27 by decide), if_neg (show ¬ (50 : Int32) = 28 by decide), if_neg (show ¬ (50 : Int32) = 29 by decide), if_neg (show ¬ (50 : Int32) = 30 by decide), if_neg (show ¬ (50 : Int32) = 31 by decide), if_neg (show ¬ (50 : Int32) = 32 by decide), if_neg (show ¬ (50 : Int32) = 33 by decide), if_neg (show ¬ (50 : Int32) = 34 by decide), if_neg (show ¬ (50 : Int32) = 35 by decide), if_neg (show ¬ (50 : Int32) = 36 by decide), if_neg (show ¬ (50 : Int32) = 37 by decide), if_neg (show ¬ (50 : Int32) = 38 by decide), if_neg (show ¬ (50 : Int32) = 39 by decide), if_neg (show ¬ (50 : Int32) = 40 by decide), if_neg (show ¬ (50 : Int32) = 41 by decide), if_neg (show ¬ (50 : Int32) = 42 by decide), if_neg (show ¬ (50 : Int32) = 43 by decide), if_neg (show ¬ (50 : Int32) = 44 by decide), if_neg (show ¬ (50 : Int32) = 45 by decide), if_neg (show ¬ (50 : Int32) = 46 by decide), if_neg (show ¬ (50 : Int32) = 47 by decide), if_neg (show ¬ (50 : Int32) = 48 by decide), if_neg (show ¬ (50 : Int32) = 49 by decide), if_pos rfl]; rfl
theorem part_pre54 {hP : Nat} {gr gs gc : Gs} (h4 : gI gs 4 = 54) : f_X5_readPart hP gr gs gc = bnd (f_X5_countNode hP (hld gr gs) gc (gI gs 5)) (fun q => bnd (f_X5_enter q.1 54 (gI q.1 12) (-1) 0) (fun q2 => some (q2.1, q2.2, q.2))) := by
  unfold f_X5_readPart hld
  rw [h4, if_neg (show ¬ (54 : Int32) = 2 by decide), if_neg (show ¬ (54 : Int32) = 3 by decide), if_neg (show ¬ (54 : Int32) = 4 by decide), if_neg (show ¬ (54 : Int32) = 5 by decide), if_neg (show ¬ (54 : Int32) = 6 by decide), if_neg (show ¬ (54 : Int32) = 7 by decide), if_neg (show ¬ (54 : Int32) = 8 by decide), if_neg (show ¬ (54 : Int32) = 9 by decide), if_neg (show ¬ (54 : Int32) = 10 by decide), if_neg (show ¬ (54 : Int32) = 11 by decide), if_neg (show ¬ (54 : Int32) = 12 by decide), if_neg (show ¬ (54 : Int32) = 13 by decide), if_neg (show ¬ (54 : Int32) = 14 by decide), if_neg (show ¬ (54 : Int32) = 15 by decide), if_neg (show ¬ (54 : Int32) = 16 by decide), if_neg (show ¬ (54 : Int32) = 17 by decide), if_neg (show ¬ (54 : Int32) = 18 by decide), if_neg (show ¬ (54 : Int32) = 19 by decide), if_neg (show ¬ (54 : Int32) = 20 by decide), if_neg (show ¬ (54 : Int32) = 21 by decide), if_neg (show ¬ (54 : Int32) = 22 by decide), if_neg (show ¬ (54 : Int32) = 23 by decide), if_neg (show ¬ (54 : Int32) = 24 by decide), if_neg (show ¬ (54 : Int32) = 25 by decide), if_neg (show ¬ (54 : Int32) = 26 by decide), if_neg (show ¬ (54 : Int32) = 27 by decide), if_neg (show ¬ (54 : Int32) = 28 by decide), if_neg (show ¬ (54 : Int32) = 29 by decide), if_neg (show ¬ (54 : Int32) = 30 by decide), if_neg (show ¬ (54 : Int32) = 31 by decide), if_neg (show ¬ (54 : Int32) = 32 by decide), if_neg (show ¬ (54 : Int32) = 33 by decide), if_neg (show ¬ (54 : Int32) = 34 by decide), if_neg (show ¬ (54 : Int32) = 35 by decide), if_neg (show ¬ (54 : Int32) = 36 by decide), if_neg (show ¬ (54 : Int32) = 37 by decide), if_neg (show ¬ (54 : Int32) = 38 by decide), if_neg (show ¬ (54 : Int32) = 39 by decide), if_neg (show ¬ (54 : Int32) = 40 by decide), if_neg (show ¬ (54 : Int32) = 41 by decide), if_neg (show ¬ (54 : Int32) = 42 by decide), if_neg (show ¬ (54 : Int32) = 43 by decide), if_neg (show ¬ (54 : Int32) = 44 by decide), if_neg (show ¬ (54 : Int32) = 45 by decide), if_neg (show ¬ (54 : Int32) = 46 by decide), if_neg (show ¬ (54 : Int32) = 47 by decide), if_neg (show ¬ (54 : Int32) = 48 by decide), if_neg (show ¬ (54 : Int32) = 49 by decide), if_neg (show ¬ (54 : Int32) = 50 by decide), if_neg (show ¬ (54 : Int32) = 51 by decide), if_neg (show ¬ (54 : Int32) = 52 by decide), if_neg (show ¬ (54 : Int32) = 53 by decide), if_pos rfl]; rfl
theorem part_open {hP : Nat} {gr gs gc : Gs} (h4 : gI gs 4 = 45) : f_X5_readPart hP gr gs gc = if gI gr 9 < 40 then some (6, hld gr gs, gc) else some (0, hld gr gs, gc) := by
  unfold f_X5_readPart hld
  rw [h4, if_neg (show ¬ (45 : Int32) = 2 by decide), if_neg (show ¬ (45 : Int32) = 3 by decide), if_neg (show ¬ (45 : Int32) = 4 by decide), if_neg (show ¬ (45 : Int32) = 5 by decide), if_neg (show ¬ (45 : Int32) = 6 by decide), if_neg (show ¬ (45 : Int32) = 7 by decide), if_neg (show ¬ (45 : Int32) = 8 by decide), if_neg (show ¬ (45 : Int32) = 9 by decide), if_neg (show ¬ (45 : Int32) = 10 by decide), if_neg (show ¬ (45 : Int32) = 11 by decide), if_neg (show ¬ (45 : Int32) = 12 by decide), if_neg (show ¬ (45 : Int32) = 13 by decide), if_neg (show ¬ (45 : Int32) = 14 by decide), if_neg (show ¬ (45 : Int32) = 15 by decide), if_neg (show ¬ (45 : Int32) = 16 by decide), if_neg (show ¬ (45 : Int32) = 17 by decide), if_neg (show ¬ (45 : Int32) = 18 by decide), if_neg (show ¬ (45 : Int32) = 19 by decide), if_neg (show ¬ (45 : Int32) = 20 by decide), if_neg (show ¬ (45 : Int32) = 21 by decide), if_neg (show ¬ (45 : Int32) = 22 by decide), if_neg (show ¬ (45 : Int32) = 23 by decide), if_neg (show ¬ (45 : Int32) = 24 by decide), if_neg (show ¬ (45 : Int32) = 25 by decide), if_neg (show ¬ (45 : Int32) = 26 by decide), if_neg (show ¬ (45 : Int32) = 27 by decide), if_neg (show ¬ (45 : Int32) = 28 by decide), if_neg (show ¬ (45 : Int32) = 29 by decide), if_neg (show ¬ (45 : Int32) = 30 by decide), if_neg (show ¬ (45 : Int32) = 31 by decide), if_neg (show ¬ (45 : Int32) = 32 by decide), if_neg (show ¬ (45 : Int32) = 33 by decide), if_neg (show ¬ (45 : Int32) = 34 by decide), if_neg (show ¬ (45 : Int32) = 35 by decide), if_neg (show ¬ (45 : Int32) = 36 by decide), if_neg (show ¬ (45 : Int32) = 37 by decide), if_neg (show ¬ (45 : Int32) = 38 by decide), if_neg (show ¬ (45 : Int32) = 39 by decide), if_neg (show ¬ (45 : Int32) = 40 by decide), if_neg (show ¬ (45 : Int32) = 41 by decide), if_neg (show ¬ (45 : Int32) = 42 by decide), if_neg (show ¬ (45 : Int32) = 43 by decide), if_neg (show ¬ (45 : Int32) = 44 by decide), if_pos rfl]
theorem part_no {hP K : Nat} {gr gs gc : Gs} (h4 : gI gs 4 = nI K) (hK : K < 256) (h2 : K ≠ 2) (h3 : K ≠ 3) (h16 : K < 16 ∨ 27 < K) (h45 : K ≠ 45) (h50 : K ≠ 50) (h54 : K ≠ 54) : f_X5_readPart hP gr gs gc = some (0, hld gr gs, gc) := by
  unfold f_X5_readPart hld
  rw [h4]
  refine ite_eq' (fun z => absurd (show K = 2 from nIz z hK) (by omega)) ?_
  refine ite_eq' (fun z => absurd (show K = 3 from nIz z hK) (by omega)) ?_
  refine ite_eq' (fun _ => rfl) ?_
  refine ite_eq' (fun _ => rfl) ?_
  refine ite_eq' (fun _ => rfl) ?_
  refine ite_eq' (fun _ => rfl) ?_
  refine ite_eq' (fun _ => rfl) ?_
  refine ite_eq' (fun _ => rfl) ?_
  refine ite_eq' (fun _ => rfl) ?_
  refine ite_eq' (fun _ => rfl) ?_
  refine ite_eq' (fun _ => rfl) ?_
  refine ite_eq' (fun _ => rfl) ?_
  refine ite_eq' (fun _ => rfl) ?_
  refine ite_eq' (fun _ => rfl) ?_
  refine ite_eq' (fun z => absurd (show K = 16 from nIz z hK) (by omega)) ?_
  refine ite_eq' (fun z => absurd (show K = 17 from nIz z hK) (by omega)) ?_
  refine ite_eq' (fun z => absurd (show K = 18 from nIz z hK) (by omega)) ?_
  refine ite_eq' (fun z => absurd (show K = 19 from nIz z hK) (by omega)) ?_
  refine ite_eq' (fun z => absurd (show K = 20 from nIz z hK) (by omega)) ?_
  refine ite_eq' (fun z => absurd (show K = 21 from nIz z hK) (by omega)) ?_
  refine ite_eq' (fun z => absurd (show K = 22 from nIz z hK) (by omega)) ?_
  refine ite_eq' (fun z => absurd (show K = 23 from nIz z hK) (by omega)) ?_
  refine ite_eq' (fun z => absurd (show K = 24 from nIz z hK) (by omega)) ?_
  refine ite_eq' (fun z => absurd (show K = 25 from nIz z hK) (by omega)) ?_
  refine ite_eq' (fun z => absurd (show K = 26 from nIz z hK) (by omega)) ?_
  refine ite_eq' (fun z => absurd (show K = 27 from nIz z hK) (by omega)) ?_
  refine ite_eq' (fun _ => rfl) ?_
  refine ite_eq' (fun _ => rfl) ?_
  refine ite_eq' (fun _ => rfl) ?_
  refine ite_eq' (fun _ => rfl) ?_
  refine ite_eq' (fun _ => rfl) ?_
  refine ite_eq' (fun _ => rfl) ?_
  refine ite_eq' (fun _ => rfl) ?_
  refine ite_eq' (fun _ => rfl) ?_
  refine ite_eq' (fun _ => rfl) ?_
  refine ite_eq' (fun _ => rfl) ?_
  refine ite_eq' (fun _ => rfl) ?_
  refine ite_eq' (fun _ => rfl) ?_
  refine ite_eq' (fun _ => rfl) ?_
  refine ite_eq' (fun _ => rfl) ?_
  refine ite_eq' (fun _ => rfl) ?_
  refine ite_eq' (fun _ => rfl) ?_
  refine ite_eq' (fun _ => rfl) ?_
  refine ite_eq' (fun z => absurd (show K = 45 from nIz z hK) (by omega)) ?_
  refine ite_eq' (fun _ => rfl) ?_
  refine ite_eq' (fun _ => rfl) ?_
  refine ite_eq' (fun _ => rfl) ?_
  refine ite_eq' (fun _ => rfl) ?_
  refine ite_eq' (fun z => absurd (show K = 50 from nIz z hK) (by omega)) ?_
  refine ite_eq' (fun _ => rfl) ?_
  refine ite_eq' (fun _ => rfl) ?_
  refine ite_eq' (fun _ => rfl) ?_
  refine ite_eq' (fun z => absurd (show K = 54 from nIz z hK) (by omega)) ?_
  rfl
/-- the word behind: a ( without a sort -/
theorem behind_open {gr gs gc : Gs} {hP h d K : Nat} (hk : gI gs 4 = nI K) (hK : K < 28 ∨ 35 < K) (hK2 : K < 256) (h8 : gI gr 8 = nI h) (hh : h < 320) (h9 : gI gr 9 = nI d) (hd : d < 40) : f_X5_readBehind hP gr gs gc 6 = some (2, pushG (sI (sI gr 10 0) 9 (nI (d + 1))) h 45 (gI gr 12) (-1) 0, gc) := by
  have e := enter7 (gr := sI gr 10 0) (o := 45) (p := gI gr 12) (m := -1) (x := 0) h8 hh h9 (by omega)
  rw [if_neg (by omega)] at e
  have f : b_X5_readBehind_138 hP gr gs gc = some (2, pushG (sI (sI gr 10 0) 9 (nI (d + 1))) h 45 (gI gr 12) (-1) 0, gc) := by
    unfold b_X5_readBehind_138
    rw [bnd_s e]
  unfold f_X5_readBehind
  rw [if_neg (show ¬ (6 : Int32) = 4 by decide), if_neg (show ¬ (6 : Int32) = 5 by decide), if_pos rfl, f, hk]
  by_cases h28 : K < 28
  · rw [if_pos (show nI K < (28 : Int32) from nI_lt (b := 28) h28 (by decide))]
  · rw [if_neg (show ¬ nI K < (28 : Int32) from nI_nlt (b := 28) (by omega) (by omega)), if_neg (show ¬ nI K ≤ (35 : Int32) from nI_ge (a := 35) (by omega) (by omega))]
/-- a ( and a sort: a cast -/
theorem behind_cast {gr gs gc gr2 gc2 : Gs} {hP K : Nat} (hk : gI gs 4 = nI K) (h1 : 28 ≤ K) (h2 : K ≤ 35) (hn : f_X5_countNode hP gr gc (gI gr 12) = some (gr2, gc2)) : f_X5_readBehind hP gr gs gc 6 = some (7, sI gr2 11 (nI K), gc2) := by
  unfold f_X5_readBehind
  rw [if_neg (show ¬ (6 : Int32) = 4 by decide), if_neg (show ¬ (6 : Int32) = 5 by decide), if_pos rfl, hk, if_neg (show ¬ nI K < (28 : Int32) from nI_nlt (b := 28) h1 (by omega)), if_pos (show nI K ≤ (35 : Int32) from nI_le (b := 35) (by omega) (by decide)), bnd_s hn]
/-- the NAME behind old( and its ) -/
theorem behind_nine {gr gs gc : Gs} {hP : Nat} : f_X5_readBehind hP gr gs gc 9 = if gI gs 4 = 2 then some (10, sI (sI gr 12 (gI gs 5)) 13 (gI gs 6), gc) else some (0, sI (sI gr 12 (gI gs 5)) 13 (gI gs 6), gc) := by
  unfold f_X5_readBehind
  rw [if_neg (show ¬ (9 : Int32) = 4 by decide), if_neg (show ¬ (9 : Int32) = 5 by decide), if_neg (show ¬ (9 : Int32) = 6 by decide), if_neg (show ¬ (9 : Int32) = 7 by decide), if_neg (show ¬ (9 : Int32) = 8 by decide), if_pos rfl]
theorem behind_ten {gr gs gc gc2 : Gs} {hP : Nat} (hk : gI gs 4 = 46) (ha : f_X5_addNamed hP gr gc 16 (gI gr 12) (gI gr 12) (gI gr 13) = some gc2) : f_X5_readBehind hP gr gs gc 10 = some (3, gr, gc2) := by
  unfold f_X5_readBehind
  rw [if_neg (show ¬ (10 : Int32) = 4 by decide), if_neg (show ¬ (10 : Int32) = 5 by decide), if_neg (show ¬ (10 : Int32) = 6 by decide), if_neg (show ¬ (10 : Int32) = 7 by decide), if_neg (show ¬ (10 : Int32) = 8 by decide), if_neg (show ¬ (10 : Int32) = 9 by decide), if_pos hk, bnd_s ha]
theorem behind_ten_no {gr gs gc : Gs} {hP : Nat} (hk : ¬ gI gs 4 = 46) : f_X5_readBehind hP gr gs gc 10 = some (0, gr, gc) := by
  unfold f_X5_readBehind
  rw [if_neg (show ¬ (10 : Int32) = 4 by decide), if_neg (show ¬ (10 : Int32) = 5 by decide), if_neg (show ¬ (10 : Int32) = 6 by decide), if_neg (show ¬ (10 : Int32) = 7 by decide), if_neg (show ¬ (10 : Int32) = 8 by decide), if_neg (show ¬ (10 : Int32) = 9 by decide), if_neg hk]
