/-! parsing: true and false, and what follows a part's beginning -/
theorem leaf_word {gr gs gc gr2 gc2 : Gs} {hP N o : Nat} (hR : gR gr2 15 = some hP) (ho : o = 26 ∨ o = 27) (hn : f_X5_countNode hP gr gc (gI gs 5) = some (gr2, gc2)) (h10 : gI gc2 10 = 0) (h8 : gI gc2 8 = nI N) (hN : N < 840) : f_X5_readLeaf hP gr gs gc (nI o) = some (3, gr2, sLA (sIA (addG gc2 N 3 (gI gs 5)) 2 (upd (gIA (addG gc2 N 3 (gI gs 5)) 2) N 0)) 6 (vp_updL (gLA (sIA (addG gc2 N 3 (gI gs 5)) 2 (upd (gIA (addG gc2 N 3 (gI gs 5)) 2) N 0)) 6) N (if o = 26 then 1 else 0))) := by
  have r : rEq (gR gr2 15) hP = true := decide_eq_true hR
  have f91 : ∀ g s, b_X5_readLeaf_91 hP gr2 gs g s (nI N) = some (3, gr2, sLA g 6 (vp_updL (gLA g 6) N s)) := by
    intro g s
    unfold b_X5_readLeaf_91
    rw [grd_t (inB_nI hN (by decide)), nI_clamp (show N < 2 ^ 31 by omega)]
  have f28 : b_X5_readLeaf_28 hP gr2 gs gc2 (nI o) 1 = some (3, gr2, sLA (sIA (addG gc2 N 3 (gI gs 5)) 2 (upd (gIA (addG gc2 N 3 (gI gs 5)) 2) N 0)) 6 (vp_updL (gLA (sIA (addG gc2 N 3 (gI gs 5)) 2 (upd (gIA (addG gc2 N 3 (gI gs 5)) 2) N 0)) 6) N (if o = 26 then 1 else 0))) := by
    unfold b_X5_readLeaf_28 b_X5_readLeaf_42
    rw [grd_t r, if_neg (show ¬ (1 : Int32) = 0 by decide), bnd_s (add_open h10 h8 hN)]
    show (if nI N = (-1 : Int32) then _ else _) = _
    rw [if_neg (nI_ne_m1 (by omega)), if_neg (show ¬ (1 : Int32) = 0 by decide), grd_t r]
    show grd (inB (nI N) 840) _ = _
    rw [grd_t (inB_nI hN (by decide)), grd_t r, nI_clamp (show N < 2 ^ 31 by omega), f91, f91]
    rcases ho with rfl | rfl
    · rw [if_pos (show nI 26 = (26 : Int32) from rfl), if_pos rfl]
    · rw [if_neg (show ¬ nI 27 = (26 : Int32) by decide), if_neg (by decide)]
  unfold f_X5_readLeaf b_X5_readLeaf_23
  rw [bnd_s hn]
  show (if nI o = (26 : Int32) then b_X5_readLeaf_28 hP gr2 gs gc2 (nI o) 1 else if nI o = (27 : Int32) then b_X5_readLeaf_28 hP gr2 gs gc2 (nI o) 1 else _) = _
  rw [f28]
  rcases ho with rfl | rfl
  · rw [if_pos (show nI 26 = (26 : Int32) from rfl)]
  · rw [if_neg (show ¬ nI 27 = (26 : Int32) by decide), if_pos (show nI 27 = (27 : Int32) from rfl)]
