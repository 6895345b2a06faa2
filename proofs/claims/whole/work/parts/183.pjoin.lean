/-! parsing: a sign of two parts is opened; gs: the scanner -/
theorem join_open {gr gs gc gr2 gc2 : Gs} {hP h k N : Nat} (hR : gR gr2 15 = some hP) (hk : k < 100) (hn : f_X5_countNode hP gr gc (gI gs 5) = some (gr2, gc2)) (h8 : gI gr2 8 = nI h) (hh : h < 320) (n61 : k ≠ 61) (n62 : k ≠ 62) : b_X5_readJoining_27 hP gr gs gc (nI k) = some (2, pushG gr2 h (nI k) (gI gs 5) (-1) 0, gc2) := by
  unfold b_X5_readJoining_27 b_X5_readJoining_80
  rw [bnd_s hn, if_neg (show ¬ nI k = (61 : Int32) from fun z => n61 ((nI_eq (b := 61) (by omega) (by decide)).mp z)), if_neg (show ¬ nI k = (62 : Int32) from fun z => n62 ((nI_eq (b := 62) (by omega) (by decide)).mp z)), bnd_s (push7 h8 hh)]
/-- && and || write a skip first -/
theorem join_skip {gr gs gc gr2 gc2 : Gs} {hP h k : Nat} {q : Int32 × Gs} (hR : gR gr2 15 = some hP) (hk : k = 61 ∨ k = 62) (hn : f_X5_countNode hP gr gc (gI gs 5) = some (gr2, gc2)) (h8 : gI gr2 8 = nI h) (hh : h < 320) (ha : f_X0_add gc2 (nI (if k = 61 then 67 else 68)) (gI gs 5) = some q) : b_X5_readJoining_27 hP gr gs gc (nI k) = some (2, pushG gr2 h (nI k) (gI gs 5) q.1 0, q.2) := by
  have r : rEq (gR gr2 15) hP = true := decide_eq_true hR
  unfold b_X5_readJoining_27
  rw [bnd_s hn]
  rcases hk with rfl | rfl
  · have ha' : f_X0_add gc2 67 (gI gs 5) = some q := ha
    rw [if_pos (show nI 61 = (61 : Int32) from rfl)]
    unfold b_X5_readJoining_52 b_X5_readJoining_69 b_X5_readJoining_80
    rw [grd_t r, if_pos (show nI 61 = (61 : Int32) from rfl), bnd_s ha', bnd_s (push7 h8 hh)]
  · have ha' : f_X0_add gc2 68 (gI gs 5) = some q := ha
    rw [if_neg (show ¬ nI 62 = (61 : Int32) by decide), if_pos (show nI 62 = (62 : Int32) from rfl)]
    unfold b_X5_readJoining_52 b_X5_readJoining_69 b_X5_readJoining_80
    rw [grd_t r, if_neg (show ¬ nI 62 = (61 : Int32) by decide), bnd_s ha', bnd_s (push7 h8 hh)]
/-- a ? is opened, unless 40 lie around it -/
theorem ask_open {gr gs gc gr2 gc2 : Gs} {hP h d : Nat} {q : Int32 × Gs} (hR : gR gr2 15 = some hP) (h9 : gI gr 9 = nI d) (hd : d < 40) (hn : f_X5_countNode hP gr gc (gI gs 5) = some (gr2, gc2)) (h8 : gI gr2 8 = nI h) (hh : h < 320) (h92 : gI gr2 9 = nI d) (ha : f_X0_add gc2 69 (gI gs 5) = some q) : f_X5_readQuestion hP gr gs gc = some (2, pushG (sI gr2 9 (nI (d + 1))) h 44 (gI gs 5) q.1 0, q.2) := by
  have r : rEq (gR gr2 15) hP = true := decide_eq_true hR
  have e := enter7 (o := 44) (p := gI gs 5) (m := q.1) (x := 0) h8 hh h92 (by omega)
  rw [if_neg (by omega)] at e
  unfold f_X5_readQuestion
  rw [h9, if_pos (show nI d < (40 : Int32) from nI_lt (b := 40) hd (by decide)), bnd_s hn]
  show grd (rEq (gR gr2 15) hP) _ = _
  rw [grd_t r, bnd_s ha, bnd_s e]
theorem ask_no {gr gs gc : Gs} {hP : Nat} (h9 : gI gr 9 = nI 40) : f_X5_readQuestion hP gr gs gc = some (0, gr, gc) := by
  unfold f_X5_readQuestion
  rw [h9, if_neg (show ¬ nI 40 < (40 : Int32) by decide)]
