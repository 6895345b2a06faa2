/-! parsing: parts of one token; gs: the scanner -/
theorem leaf_num {gr gs gc gr2 gc2 : Gs} {hP N : Nat} (hR : gR gr2 15 = some hP) (hn : f_X5_countNode hP gr gc (gI gs 5) = some (gr2, gc2)) (h10 : gI gc2 10 = 0) (h8 : gI gc2 8 = nI N) (hN : N < 840) : f_X5_readLeaf hP gr gs gc 3 = some (3, gr2, sDA (sLA (sIA (addG gc2 N 3 (gI gs 5)) 2 (upd (gIA (addG gc2 N 3 (gI gs 5)) 2) N (gI gs 7))) 6 (vp_updL (gLA (addG gc2 N 3 (gI gs 5)) 6) N (gL gs 8))) 7 (vf_upd (gDA (addG gc2 N 3 (gI gs 5)) 7) N (gD gs 9))) := by
  have r : rEq (gR gr2 15) hP = true := decide_eq_true hR
  unfold f_X5_readLeaf
  rw [bnd_s hn, if_neg (show ¬ (3 : Int32) = 26 by decide), if_neg (show ¬ (3 : Int32) = 27 by decide)]
  unfold b_X5_readLeaf_28 b_X5_readLeaf_42
  rw [grd_t r, if_pos rfl, bnd_s (add_open h10 h8 hN)]
  show (if nI N = (-1 : Int32) then _ else b_X5_readLeaf_95 hP gr2 gs (addG gc2 N 3 (gI gs 5)) 3 (nI N)) = _
  unfold b_X5_readLeaf_95
  rw [if_neg (nI_ne_m1 (by omega)), if_neg (nI_ne_m1 (by omega)), if_pos rfl]
  simp only [grd_t r, grd_t (inB_nI hN (by decide)), nI_clamp (show N < 2 ^ 31 by omega)]
/-- ticks and step -/
theorem leaf_plain {gr gs gc gr2 gc2 : Gs} {hP N o : Nat} (hR : gR gr2 15 = some hP) (ho : o = 17 ∨ o = 18) (hn : f_X5_countNode hP gr gc (gI gs 5) = some (gr2, gc2)) (h10 : gI gc2 10 = 0) (h8 : gI gc2 8 = nI N) (hN : N < 840) : f_X5_readLeaf hP gr gs gc (nI o) = some (3, gr2, addG gc2 N (nI o) (gI gs 5)) := by
  have r : rEq (gR gr2 15) hP = true := decide_eq_true hR
  have q : ∀ {x : Nat}, x < 100 → o ≠ x → ¬ nI o = nI x := fun hx hne z => hne ((nI_eq (by omega) (by omega)).mp z)
  unfold f_X5_readLeaf
  rw [bnd_s hn, if_neg (show ¬ nI o = (26 : Int32) from q (x := 26) (by decide) (by omega)), if_neg (show ¬ nI o = (27 : Int32) from q (x := 27) (by decide) (by omega))]
  unfold b_X5_readLeaf_28 b_X5_readLeaf_42
  rw [grd_t r, if_pos rfl, bnd_s (add_open h10 h8 hN)]
  show (if nI N = (-1 : Int32) then _ else b_X5_readLeaf_95 hP gr2 gs (addG gc2 N (nI o) (gI gs 5)) (nI o) (nI N)) = _
  unfold b_X5_readLeaf_95
  rw [if_neg (nI_ne_m1 (by omega)), if_neg (nI_ne_m1 (by omega)), if_neg (show ¬ nI o = (3 : Int32) from q (x := 3) (by decide) (by omega))]
/-- with too much told, a leaf writes nothing -/
theorem leaf_shut {gr gs gc gr2 gc2 : Gs} {hP : Nat} {o : Int32} (hR : gR gr2 15 = some hP) (hn : f_X5_countNode hP gr gc (gI gs 5) = some (gr2, gc2)) (h10 : ¬ gI gc2 10 = 0) : f_X5_readLeaf hP gr gs gc o = some (3, gr2, gc2) := by
  have r : rEq (gR gr2 15) hP = true := decide_eq_true hR
  have f42 : ∀ v1 v2 s0, b_X5_readLeaf_42 hP gr2 gs gc2 v1 v2 s0 = some (3, gr2, gc2) := by
    intro v1 v2 s0
    unfold b_X5_readLeaf_42
    rw [bnd_s (add_shut h10)]
    rfl
  have f28 : ∀ s0, b_X5_readLeaf_28 hP gr2 gs gc2 o s0 = some (3, gr2, gc2) := by
    intro s0
    unfold b_X5_readLeaf_28
    rw [grd_t r, f42, f42]
    split <;> rfl
  unfold f_X5_readLeaf b_X5_readLeaf_23
  rw [bnd_s hn]
  show (if o = (26 : Int32) then b_X5_readLeaf_28 hP gr2 gs gc2 o 1 else if o = (27 : Int32) then b_X5_readLeaf_28 hP gr2 gs gc2 o 1 else b_X5_readLeaf_28 hP gr2 gs gc2 o 0) = _
  rw [f28, f28]
  split <;> (try split) <;> rfl
