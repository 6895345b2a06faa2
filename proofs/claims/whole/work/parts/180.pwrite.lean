/-! closing an open sign: what is written -/
theorem nI_ne_m1 {N : Nat} (h : N < 2 ^ 31) : ¬ nI N = (-1 : Int32) := fun z => nI_pos (n := N) h (by rw [z]; decide)
theorem skip7 {gr gc : Gs} {hP m N : Nat} (hR : gR gr 15 = some hP) (hm : m < 840) (hN : N < 840) : f_X5_skipTo hP gr gc (nI m) (nI N) = some (sIA gc 5 (upd (gIA gc 5) m (nI N))) := by
  have r : rEq (gR gr 15) hP = true := decide_eq_true hR
  unfold f_X5_skipTo
  rw [if_neg (nI_ne_m1 (by omega)), if_neg (nI_ne_m1 (by omega)), grd_t r, grd_t (inB_nI hm (by decide)), nI_clamp (by omega)]
/-- with too much told, nothing is written -/
theorem write_shut {gr gc : Gs} {hP h : Nat} {o : Int32} (hR : gR gr 15 = some hP) (h8 : gI gr 8 = nI h) (hh : h < 320) (h10 : ¬ gI gc 10 = 0) : f_X5_writeTop hP gr gc o = some gc := by
  have r : rEq (gR gr 15) hP = true := decide_eq_true hR
  have i : inB (nI h) 320 = true := inB_nI hh (by decide)
  have f : ∀ v1 v2 s0, b_X5_writeTop_26 hP gr gc v1 v2 s0 = some gc := by
    intro v1 v2 s0
    unfold b_X5_writeTop_26
    rw [h8, grd_t i, bnd_s (add_shut h10)]
    rfl
  unfold f_X5_writeTop
  rw [h8, grd_t i, grd_t r, f, f]
  split <;> rfl
/-- a sign without a mark -/
theorem write_plain {gr gc : Gs} {hP h N o : Nat} (hR : gR gr 15 = some hP) (h8 : gI gr 8 = nI h) (hh : h < 320) (h10 : gI gc 10 = 0) (hc : gI gc 8 = nI N) (hN : N < 840) (ho : o < 100) (n70 : o ≠ 70) (n66 : o ≠ 66) (n61 : o ≠ 61) (n62 : o ≠ 62) : f_X5_writeTop hP gr gc (nI o) = some (addG gc N (nI o) (gIA gr 5 h)) := by
  have r : rEq (gR gr 15) hP = true := decide_eq_true hR
  have i : inB (nI h) 320 = true := inB_nI hh (by decide)
  unfold f_X5_writeTop b_X5_writeTop_26
  rw [h8, grd_t i, grd_t r, if_neg (show ¬ nI o = (70 : Int32) from fun z => n70 ((nI_eq (b := 70) (by omega) (by decide)).mp z)), grd_t i, nI_clamp (by omega), bnd_s (add_open h10 hc hN)]
  show (if nI N = (-1 : Int32) then _ else _) = _
  rw [if_neg (nI_ne_m1 (by omega)), if_neg (show ¬ nI o = (66 : Int32) from fun z => n66 ((nI_eq (b := 66) (by omega) (by decide)).mp z)), if_neg (show ¬ nI o = (70 : Int32) from fun z => n70 ((nI_eq (b := 70) (by omega) (by decide)).mp z)), if_neg (show ¬ nI o = (61 : Int32) from fun z => n61 ((nI_eq (b := 61) (by omega) (by decide)).mp z)), if_neg (show ¬ nI o = (62 : Int32) from fun z => n62 ((nI_eq (b := 62) (by omega) (by decide)).mp z))]
/-- a cast bears its sort -/
theorem write_cast {gr gc : Gs} {hP h N : Nat} (hR : gR gr 15 = some hP) (h8 : gI gr 8 = nI h) (hh : h < 320) (h10 : gI gc 10 = 0) (hc : gI gc 8 = nI N) (hN : N < 840) : f_X5_writeTop hP gr gc 66 = some (sIA (addG gc N 66 (gIA gr 5 h)) 2 (upd (gIA (addG gc N 66 (gIA gr 5 h)) 2) N (gIA gr 6 h))) := by
  have r : rEq (gR gr 15) hP = true := decide_eq_true hR
  have i : inB (nI h) 320 = true := inB_nI hh (by decide)
  unfold f_X5_writeTop b_X5_writeTop_26
  rw [h8, grd_t i, grd_t r, if_neg (show ¬ (66 : Int32) = 70 by decide), grd_t i, nI_clamp (show h < 2 ^ 31 by omega), bnd_s (add_open h10 hc hN)]
  show (if nI N = (-1 : Int32) then _ else _) = _
  rw [if_neg (nI_ne_m1 (by omega)), if_pos rfl, grd_t r]
  show grd (inB (nI N) 840) _ = _
  rw [grd_t (inB_nI hN (by decide)), nI_clamp (show N < 2 ^ 31 by omega)]
/-- && and ||: their skip is told where they end -/
theorem write_join {gr gc : Gs} {hP h N m o : Nat} (hR : gR gr 15 = some hP) (h8 : gI gr 8 = nI h) (hh : h < 320) (h10 : gI gc 10 = 0) (hc : gI gc 8 = nI N) (hN : N < 840) (ho : o = 61 ∨ o = 62) (h6 : gIA gr 6 h = nI m) (hm : m < 840) : f_X5_writeTop hP gr gc (nI o) = some (sIA (addG gc N (nI o) (gIA gr 5 h)) 5 (upd (gIA (addG gc N (nI o) (gIA gr 5 h)) 5) m (nI N))) := by
  have r : rEq (gR gr 15) hP = true := decide_eq_true hR
  have i : inB (nI h) 320 = true := inB_nI hh (by decide)
  have f : ∀ g, b_X5_writeTop_101 hP gr g (nI m) (nI N) = some (sIA g 5 (upd (gIA g 5) m (nI N))) := by
    intro g
    unfold b_X5_writeTop_101
    rw [bnd_s (skip7 hR hm hN)]
  unfold f_X5_writeTop b_X5_writeTop_26
  rw [h8, grd_t i, grd_t r, if_neg (show ¬ nI o = (70 : Int32) from fun z => by have := (nI_eq (b := 70) (by omega) (by decide)).mp z; omega), grd_t i, nI_clamp (show h < 2 ^ 31 by omega), h6, bnd_s (add_open h10 hc hN)]
  show (if nI N = (-1 : Int32) then _ else _) = _
  rw [if_neg (nI_ne_m1 (by omega)), if_neg (show ¬ nI o = (66 : Int32) from fun z => by have := (nI_eq (b := 66) (by omega) (by decide)).mp z; omega), if_neg (show ¬ nI o = (70 : Int32) from fun z => by have := (nI_eq (b := 70) (by omega) (by decide)).mp z; omega)]
  show (if nI o = (61 : Int32) then b_X5_writeTop_101 hP gr _ (nI m) (nI N) else if nI o = (62 : Int32) then b_X5_writeTop_101 hP gr _ (nI m) (nI N) else _) = _
  rw [f]
  rcases ho with rfl | rfl
  · rw [if_pos (show nI 61 = (61 : Int32) from rfl)]
  · rw [if_neg (show ¬ nI 62 = (61 : Int32) by decide), if_pos (show nI 62 = (62 : Int32) from rfl)]
/-- the end of a ? -/
theorem write_else {gr gc : Gs} {hP h N m : Nat} (hR : gR gr 15 = some hP) (h8 : gI gr 8 = nI h) (hh : h < 320) (h10 : gI gc 10 = 0) (hc : gI gc 8 = nI N) (hN : N < 840) (h6 : gIA gr 6 h = nI m) (hm : m < 840) : f_X5_writeTop hP gr gc 70 = some (sIA (sIA (addG gc N 44 (gIA gr 5 h)) 5 (upd (gIA (addG gc N 44 (gIA gr 5 h)) 5) N (nI m))) 5 (upd (gIA (sIA (addG gc N 44 (gIA gr 5 h)) 5 (upd (gIA (addG gc N 44 (gIA gr 5 h)) 5) N (nI m))) 5) m (nI N))) := by
  have r : rEq (gR gr 15) hP = true := decide_eq_true hR
  have i : inB (nI h) 320 = true := inB_nI hh (by decide)
  unfold f_X5_writeTop b_X5_writeTop_26
  rw [h8, grd_t i, grd_t r, if_pos rfl, grd_t i, nI_clamp (show h < 2 ^ 31 by omega), h6, bnd_s (add_open h10 hc hN)]
  show (if nI N = (-1 : Int32) then _ else _) = _
  rw [if_neg (nI_ne_m1 (by omega)), if_neg (show ¬ (70 : Int32) = 66 by decide), if_pos rfl, grd_t r]
  show grd (inB (nI N) 840) (bnd (f_X5_skipTo hP gr (sIA (addG gc N 44 (gIA gr 5 h)) 5 (upd (gIA (addG gc N 44 (gIA gr 5 h)) 5) (nI N).toNatClampNeg (nI m))) (nI m) (nI N)) _) = _
  rw [grd_t (inB_nI hN (by decide)), nI_clamp (show N < 2 ^ 31 by omega), bnd_s (skip7 hR hm hN)]
