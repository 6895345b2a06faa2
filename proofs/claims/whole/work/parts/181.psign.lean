/-! parsing: the class's signs of two parts, commas and brackets -/
theorem rk_le (o : Nat) : rk o ≤ 6 := by unfold rk; split <;> (try split) <;> (try split) <;> (try split) <;> (try split) <;> (try split) <;> omega
/-- a second sign of its rank goes on with nothing -/
theorem join_doomed {gr gs gc : Gs} {hP h o k : Nat} (h8 : gI gr 8 = nI (h + 1)) (hh : h < 320) (h4 : gIA gr 4 h = nI o) (ho : o < 100) : f_X5_readJoining hP gr gs gc (nI k) (nI (rk o)) = some (0, gr, gc) := by
  unfold f_X5_readJoining
  rw [h8, if_neg (nI_nle (by omega) (by omega)), nI_pred h, grd_t (inB_nI hh (by decide)), nI_clamp (by omega), h4, bnd_s (rank7 ho), if_pos rfl]
theorem join_go {gr gs gc : Gs} {hP h k r : Nat} (h8 : gI gr 8 = nI h) (hh : h ≤ 320) (hr : r ≤ 6) (ht : 0 < h → ∃ o, gIA gr 4 (h - 1) = nI o ∧ o < 100 ∧ rk o ≠ r) : f_X5_readJoining hP gr gs gc (nI k) (nI r) = b_X5_readJoining_27 hP gr gs gc (nI k) := by
  unfold f_X5_readJoining
  rw [h8]
  by_cases h0 : h = 0
  · rw [if_pos (show nI h ≤ 0 by rw [h0]; decide)]
  · obtain ⟨o, o1, o2, o3⟩ := ht (by omega)
    have := rk_le o
    rw [if_neg (nI_nle (by omega) (by omega)), show nI h - 1 = nI (h - 1) from nI_sub (a := h) (b := 1) (by omega), grd_t (inB_nI (by omega) (by decide)), nI_clamp (by omega), o1, bnd_s (rank7 o2), if_neg (fun z => o3 ((nI_eq (by omega) (by omega)).mp z))]
theorem two7 {o : Nat} (ho : o < 100) : f_X5_hasTwo (nI o) = some (if o = 23 ∨ o = 24 ∨ o = 25 then 1 else 0) := by
  have : ∀ q : Fin 100, f_X5_hasTwo (nI q.val) = some (if q.val = 23 ∨ q.val = 24 ∨ q.val = 25 then 1 else 0) := by decide +kernel
  exact this ⟨o, ho⟩
theorem comma7 {gr : Gs} {h o : Nat} (h8 : gI gr 8 = nI (h + 1)) (hh : h < 320) (ho : o < 100) : f_X5_readComma gr (nI o) = if (o = 23 ∨ o = 24 ∨ o = 25) ∧ gIA gr 7 h = 0 then some (2, sIA gr 7 (upd (gIA gr 7) h 1)) else some (0, gr) := by
  unfold f_X5_readComma
  rw [bnd_s (two7 ho)]
  by_cases h2 : o = 23 ∨ o = 24 ∨ o = 25
  · rw [if_pos h2, if_neg (show ¬ (1 : Int32) = 0 by decide), h8, nI_pred h, grd_t (inB_nI hh (by decide)), nI_clamp (by omega), grd_t (inB_nI hh (by decide))]
    by_cases h7 : gIA gr 7 h = 0
    · rw [if_pos h7, if_pos ⟨h2, h7⟩]
    · rw [if_neg h7, if_neg (fun z => h7 z.2)]
  · rw [if_neg h2, if_pos rfl, if_neg (fun z => h2 z.1)]
/-- a ) behind what a ( opened -/
theorem round_open {gr gc : Gs} {hP h d : Nat} (h8 : gI gr 8 = nI (h + 1)) (h9 : gI gr 9 = nI (d + 1)) : f_X5_closeRound hP gr gc 45 = some (3, sI (sI gr 8 (nI h)) 9 (nI d), gc) := by
  unfold f_X5_closeRound b_X5_closeRound_16 b_X5_closeRound_17 b_X5_closeRound_28 b_X5_closeRound_51
  rw [if_neg (show ¬ (45 : Int32) < 19 by decide), if_pos (show (25 : Int32) < 45 by decide), if_pos rfl, bnd_s (show f_X5_hasTwo 45 = some 0 by decide), if_pos rfl, if_pos rfl, h8, h9, nI_pred h, nI_pred d]
/-- a ) behind a function's parts -/
theorem round_fun {gr gc : Gs} {hP h d o : Nat} {q : Int32 × Gs} (hR : gR gr 15 = some hP) (h8 : gI gr 8 = nI (h + 1)) (hh : h < 320) (h9 : gI gr 9 = nI (d + 1)) (o1 : 19 ≤ o) (o2 : o ≤ 25) (h7 : 23 ≤ o → ¬ gIA gr 7 h = 0) (ha : f_X0_add gc (nI o) (gIA gr 5 h) = some q) : f_X5_closeRound hP gr gc (nI o) = some (3, sI (sI gr 8 (nI h)) 9 (nI d), q.2) := by
  have r : rEq (gR gr 15) hP = true := decide_eq_true hR
  have f51 : b_X5_closeRound_51 hP gr gc (nI o) 1 = some (3, sI (sI gr 8 (nI h)) 9 (nI d), q.2) := by
    unfold b_X5_closeRound_51
    rw [if_neg (show ¬ (1 : Int32) = 0 by decide), grd_t r, h8, h9, nI_pred h, nI_pred d, grd_t (inB_nI hh (by decide)), nI_clamp (by omega), bnd_s ha]
  unfold f_X5_closeRound b_X5_closeRound_17 b_X5_closeRound_28
  rw [if_neg (show ¬ nI o < (19 : Int32) from nI_nlt (b := 19) o1 (by omega)), if_neg (show ¬ (25 : Int32) < nI o from nI_nlt (a := 25) o2 (by omega)), if_neg (show ¬ nI o = (45 : Int32) from fun z => by have := (nI_eq (b := 45) (by omega) (by decide)).mp z; omega), if_neg (show ¬ (1 : Int32) = 0 by decide), bnd_s (two7 (by omega)), f51]
  by_cases h2 : o = 23 ∨ o = 24 ∨ o = 25
  · rw [if_pos h2, if_neg (show ¬ (1 : Int32) = 0 by decide), h8, nI_pred h, grd_t (inB_nI hh (by decide)), nI_clamp (by omega), if_neg (h7 (by omega))]
  · rw [if_neg h2, if_pos rfl]
