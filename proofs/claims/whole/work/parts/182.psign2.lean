/-! parsing: ] and the : of a ? -/
theorem square_open {gr gc : Gs} {hP h d N : Nat} (hR : gR gr 15 = some hP) (h8 : gI gr 8 = nI (h + 1)) (hh : h < 320) (h9 : gI gr 9 = nI (d + 1)) (h10 : gI gc 10 = 0) (hc : gI gc 8 = nI N) (hN : N < 840) : f_X5_closeSquare hP gr gc 64 = some (3, sI (sI gr 8 (nI h)) 9 (nI d), sIA (sIA (addG gc N 64 (gIA gr 5 h)) 5 (upd (gIA (addG gc N 64 (gIA gr 5 h)) 5) N (gIA gr 6 h))) 3 (upd (gIA (addG gc N 64 (gIA gr 5 h)) 3) N (gIA gr 7 h))) := by
  unfold f_X5_closeSquare
  rw [if_pos rfl, h8, h9, nI_pred h, nI_pred d]
  simp only [grd_t (inB_nI hh (by decide)), nI_clamp (show h < 2 ^ 31 by omega)]
  rw [bnd_s (addNamed7_open (gr := sI (sI gr 8 (nI h)) 9 (nI d)) hR h10 hc hN)]
theorem square_shut {gr gc : Gs} {hP h d : Nat} (hR : gR gr 15 = some hP) (h8 : gI gr 8 = nI (h + 1)) (hh : h < 320) (h9 : gI gr 9 = nI (d + 1)) (h10 : ¬ gI gc 10 = 0) : f_X5_closeSquare hP gr gc 64 = some (3, sI (sI gr 8 (nI h)) 9 (nI d), gc) := by
  unfold f_X5_closeSquare
  rw [if_pos rfl, h8, h9, nI_pred h, nI_pred d]
  simp only [grd_t (inB_nI hh (by decide)), nI_clamp (show h < 2 ^ 31 by omega)]
  rw [bnd_s (addNamed7_shut (gr := sI (sI gr 8 (nI h)) 9 (nI d)) hR h10)]
theorem square_no {gr gc : Gs} {hP o : Nat} (ho : o < 100) (n64 : o ≠ 64) : f_X5_closeSquare hP gr gc (nI o) = some (0, gr, gc) := by
  unfold f_X5_closeSquare
  rw [if_neg (show ¬ nI o = (64 : Int32) from fun z => n64 ((nI_eq (b := 64) (by omega) (by decide)).mp z))]
/-- the : of a ? : its first skip is told, a second one begins -/
theorem else_open {gr gc : Gs} {hP h N m : Nat} (hR : gR gr 15 = some hP) (h8 : gI gr 8 = nI (h + 1)) (hh : h < 320) (h10 : gI gc 10 = 0) (hc : gI gc 8 = nI N) (hN : N < 840) (h6 : gIA gr 6 h = nI m) (hm : m < 840) : f_X5_readElse hP gr gc = some (2, sIA (sIA gr 4 (upd (gIA gr 4) h 70)) 6 (upd (gIA gr 6) h (nI N)), sIA (addG gc N 70 (gIA gr 5 h)) 5 (upd (gIA (addG gc N 70 (gIA gr 5 h)) 5) m (nI N))) := by
  have r : rEq (gR gr 15) hP = true := decide_eq_true hR
  unfold f_X5_readElse
  rw [h8, nI_pred h, if_pos (nI_pos' (show h < 2 ^ 31 by omega))]
  simp only [grd_t r, grd_t (inB_nI hh (by decide)), nI_clamp (show h < 2 ^ 31 by omega)]
  rw [bnd_s (add_open h10 hc hN), h6]
  show bnd (f_X5_skipTo hP gr (addG gc N 70 (gIA gr 5 h)) (nI m) (nI N)) _ = _
  rw [bnd_s (skip7 hR hm hN)]
theorem else_shut {gr gc : Gs} {hP h : Nat} (hR : gR gr 15 = some hP) (h8 : gI gr 8 = nI (h + 1)) (hh : h < 320) (h10 : ¬ gI gc 10 = 0) : f_X5_readElse hP gr gc = some (2, sIA (sIA gr 4 (upd (gIA gr 4) h 70)) 6 (upd (gIA gr 6) h (-1)), gc) := by
  have r : rEq (gR gr 15) hP = true := decide_eq_true hR
  have f : ∀ x, f_X5_skipTo hP gr gc x (-1) = some gc := by
    intro x
    unfold f_X5_skipTo
    rw [if_pos (show (-1 : Int32) = -1 from rfl)]
    split <;> rfl
  unfold f_X5_readElse
  rw [h8, nI_pred h, if_pos (nI_pos' (show h < 2 ^ 31 by omega))]
  simp only [grd_t r, grd_t (inB_nI hh (by decide)), nI_clamp (show h < 2 ^ 31 by omega)]
  rw [bnd_s (add_shut h10)]
  show bnd (f_X5_skipTo hP gr gc (gIA gr 6 h) (-1)) _ = _
  rw [bnd_s (f _)]
