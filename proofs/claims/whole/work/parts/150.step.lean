/-! one step of works and of run -/
/-- signs and words of two parts -/
theorem run_two {n f : Nat} {gm g2 gs gp gc : Gs} {L j : Nat} {o : Int32} (hj : j < L) (hL : L ≤ 840) (h5 : gI gm 5 = 0) (ho : gIA gc 0 j = o) (hs : o = 49 ∨ o = 50 ∨ o = 51 ∨ o = 52 ∨ o = 53 ∨ o = 55 ∨ o = 56 ∨ o = 57 ∨ o = 58 ∨ o = 59 ∨ o = 60 ∨ o = 23 ∨ o = 24 ∨ o = 25) : L_X1_run n (f + 1) gm g2 gs gp gc (nI L) (nI j) = bnd (f_X1_workTwo n (sI gm 6 (gIA gc 1 j)) g2 o (gIA gc 3 j) (gIA gc 4 j) (gIA gc 2 j)) (fun q => L_X1_run n f q g2 gs gp gc (nI L) (nI (j + 1))) := by
  have bj : inB (nI j) 840 = true := inB_nI (by omega) (by decide)
  have cj : (nI j).toNatClampNeg = j := nI_clamp (by omega)
  have hne : o ≠ 3 ∧ o ≠ 16 ∧ o ≠ 17 ∧ o ≠ 18 ∧ o ≠ 19 ∧ o ≠ 20 ∧ o ≠ 21 ∧ o ≠ 22 ∧ o ≠ 44 ∧ o ≠ 54 ∧ o ≠ 61 ∧ o ≠ 62 ∧ o ≠ 63 ∧ o ≠ 64 ∧ o ≠ 65 ∧ o ≠ 66 ∧ o ≠ 67 ∧ o ≠ 68 ∧ o ≠ 69 ∧ o ≠ 70 := by
    rcases hs with rfl | rfl | rfl | rfl | rfl | rfl | rfl | rfl | rfl | rfl | rfl | rfl | rfl | rfl <;> decide
  obtain ⟨a1, a2, a3, a4, a5, a6, a7, a8, a9, a10, a11, a12, a13, a14, a15, a16, a17, a18, a19, a20⟩ := hne
  show h_X1_run_26 n (L_X1_run n f) gm g2 gs gp gc (nI L) (nI j) = _
  unfold h_X1_run_26
  rw [if_neg (nI_ge hj (by omega)), if_pos h5, grd_t bj, grd_t bj, cj, ho]
  simp only [if_neg a1, if_neg a2, if_neg a3, if_neg a4, if_neg a5, if_neg a6, if_neg a7, if_neg a8, if_neg a9, if_neg a10, if_neg a11, if_neg a12, if_neg a13, if_neg a14, if_neg a15, if_neg a16, if_neg a17, if_neg a18, if_neg a19, if_neg a20, ite_self]
  unfold b_X1_run_555 b_X1_run_582
  rw [grd_t bj, grd_t bj, grd_t bj, cj, nI_1]
/-- works of one part -/
theorem run_one {n f : Nat} {gm g2 gs gp gc : Gs} {L j : Nat} {o : Int32} (hj : j < L) (hL : L ≤ 840) (h5 : gI gm 5 = 0) (ho : gIA gc 0 j = o) (hs : o = 19 ∨ o = 20 ∨ o = 21 ∨ o = 22 ∨ o = 54 ∨ o = 65 ∨ o = 66) : L_X1_run n (f + 1) gm g2 gs gp gc (nI L) (nI j) = bnd (f_X1_workOne (sI gm 6 (gIA gc 1 j)) o (gIA gc 3 j) (gIA gc 2 j)) (fun q => L_X1_run n f q g2 gs gp gc (nI L) (nI (j + 1))) := by
  have bj : inB (nI j) 840 = true := inB_nI (by omega) (by decide)
  have cj : (nI j).toNatClampNeg = j := nI_clamp (by omega)
  show h_X1_run_26 n (L_X1_run n f) gm g2 gs gp gc (nI L) (nI j) = _
  unfold h_X1_run_26
  rw [if_neg (nI_ge hj (by omega)), if_pos h5, grd_t bj, grd_t bj, cj, ho]
  unfold b_X1_run_532 b_X1_run_582
  rcases hs with rfl | rfl | rfl | rfl | rfl | rfl | rfl
  all_goals
    repeat rw [if_neg (by decide)]
    rw [if_pos rfl]
    rw [grd_t bj, grd_t bj, cj, nI_1]
/-- the end of a question -/
theorem run_ask3 {n f : Nat} {gm g2 gs gp gc : Gs} {L j : Nat} {o : Int32} (hj : j < L) (hL : L ≤ 840) (h5 : gI gm 5 = 0) (ho : gIA gc 0 j = o) (hs : o = 44) : L_X1_run n (f + 1) gm g2 gs gp gc (nI L) (nI j) = bnd (f_X1_become (sI gm 6 (gIA gc 1 j)) (gI gm 4 - (1 : Int32)) (gIA gc 4 j) (gIA gc 2 j)) (fun q => L_X1_run n f q g2 gs gp gc (nI L) (nI (j + 1))) := by
  have bj : inB (nI j) 840 = true := inB_nI (by omega) (by decide)
  have cj : (nI j).toNatClampNeg = j := nI_clamp (by omega)
  show h_X1_run_26 n (L_X1_run n f) gm g2 gs gp gc (nI L) (nI j) = _
  unfold h_X1_run_26
  rw [if_neg (nI_ge hj (by omega)), if_pos h5, grd_t bj, grd_t bj, cj, ho]
  unfold b_X1_run_582
  rcases hs with rfl
  all_goals
    repeat rw [if_neg (by decide)]
    rw [if_pos rfl]
    rw [grd_t bj, grd_t bj, nI_1]
/-- a tooth -/
theorem run_tooth {n f : Nat} {gm g2 gs gp gc : Gs} {L j : Nat} {o : Int32} (hj : j < L) (hL : L ≤ 840) (h5 : gI gm 5 = 0) (ho : gIA gc 0 j = o) (hs : o = 64) : L_X1_run n (f + 1) gm g2 gs gp gc (nI L) (nI j) = bnd (f_X1_takeTooth (sI gm 6 (gIA gc 1 j)) gp (gIA gc 5 j)) (fun q => L_X1_run n f q g2 gs gp gc (nI L) (nI (j + 1))) := by
  have bj : inB (nI j) 840 = true := inB_nI (by omega) (by decide)
  have cj : (nI j).toNatClampNeg = j := nI_clamp (by omega)
  show h_X1_run_26 n (L_X1_run n f) gm g2 gs gp gc (nI L) (nI j) = _
  unfold h_X1_run_26
  rw [if_neg (nI_ge hj (by omega)), if_pos h5, grd_t bj, grd_t bj, cj, ho]
  unfold b_X1_run_582
  rcases hs with rfl
  all_goals
    repeat rw [if_neg (by decide)]
    rw [if_pos rfl]
    rw [grd_t bj, nI_1]
/-- the end of && and || -/
theorem run_pass {n f : Nat} {gm g2 gs gp gc : Gs} {L j : Nat} {o : Int32} (hj : j < L) (hL : L ≤ 840) (h5 : gI gm 5 = 0) (ho : gIA gc 0 j = o) (hs : o = 61 ∨ o = 62) : L_X1_run n (f + 1) gm g2 gs gp gc (nI L) (nI j) = L_X1_run n f (sI gm 6 (gIA gc 1 j)) g2 gs gp gc (nI L) (nI (j + 1)) := by
  have bj : inB (nI j) 840 = true := inB_nI (by omega) (by decide)
  have cj : (nI j).toNatClampNeg = j := nI_clamp (by omega)
  show h_X1_run_26 n (L_X1_run n f) gm g2 gs gp gc (nI L) (nI j) = _
  unfold h_X1_run_26
  rw [if_neg (nI_ge hj (by omega)), if_pos h5, grd_t bj, grd_t bj, cj, ho]
  unfold b_X1_run_514 b_X1_run_582
  rcases hs with rfl | rfl
  all_goals
    repeat rw [if_neg (by decide)]
    rw [if_pos rfl]
    rw [nI_1]
/-- skips -/
theorem run_skip {n f : Nat} {gm g2 gs gp gc : Gs} {L j : Nat} {o : Int32} (hj : j < L) (hL : L ≤ 840) (h5 : gI gm 5 = 0) (ho : gIA gc 0 j = o) (hs : o = 67 ∨ o = 68 ∨ o = 69 ∨ o = 70) : L_X1_run n (f + 1) gm g2 gs gp gc (nI L) (nI j) = bnd (f_X1_skip (sI gm 6 (gIA gc 1 j)) gc (nI j) o) (fun q => L_X1_run n f q.2 g2 gs gp gc (nI L) (q.1 + 1)) := by
  have bj : inB (nI j) 840 = true := inB_nI (by omega) (by decide)
  have cj : (nI j).toNatClampNeg = j := nI_clamp (by omega)
  show h_X1_run_26 n (L_X1_run n f) gm g2 gs gp gc (nI L) (nI j) = _
  unfold h_X1_run_26
  rw [if_neg (nI_ge hj (by omega)), if_pos h5, grd_t bj, grd_t bj, cj, ho]
  unfold b_X1_run_473 b_X1_run_582
  rcases hs with rfl | rfl | rfl | rfl
  all_goals
    repeat rw [if_neg (by decide)]
    rw [if_pos rfl]
/-- numbers -/
theorem run_num {n f : Nat} {gm g2 gs gp gc : Gs} {L j : Nat} {o : Int32} (hj : j < L) (hL : L ≤ 840) (h5 : gI gm 5 = 0) (ho : gIA gc 0 j = o) (hs : o = 3) : L_X1_run n (f + 1) gm g2 gs gp gc (nI L) (nI j) = bnd (f_X1_push (sI gm 6 (gIA gc 1 j)) (gLA gc 6 j) (gDA gc 7 j)) (fun q => L_X1_run n f q g2 gs gp gc (nI L) (nI (j + 1))) := by
  have bj : inB (nI j) 840 = true := inB_nI (by omega) (by decide)
  have cj : (nI j).toNatClampNeg = j := nI_clamp (by omega)
  show h_X1_run_26 n (L_X1_run n f) gm g2 gs gp gc (nI L) (nI j) = _
  unfold h_X1_run_26
  rw [if_neg (nI_ge hj (by omega)), if_pos h5, grd_t bj, grd_t bj, cj, ho]
  unfold b_X1_run_582
  rcases hs with rfl
  all_goals
    repeat rw [if_neg (by decide)]
    rw [if_pos rfl]
    rw [grd_t bj, grd_t bj, nI_1]
/-- ticks -/
theorem run_ticks {n f : Nat} {gm g2 gs gp gc : Gs} {L j : Nat} {o : Int32} (hj : j < L) (hL : L ≤ 840) (h5 : gI gm 5 = 0) (ho : gIA gc 0 j = o) (hs : o = 18) : L_X1_run n (f + 1) gm g2 gs gp gc (nI L) (nI j) = bnd (f_X1_push (sI gm 6 (gIA gc 1 j)) (gL gs 13) FP.dconst0) (fun q => L_X1_run n f q g2 gs gp gc (nI L) (nI (j + 1))) := by
  have bj : inB (nI j) 840 = true := inB_nI (by omega) (by decide)
  have cj : (nI j).toNatClampNeg = j := nI_clamp (by omega)
  show h_X1_run_26 n (L_X1_run n f) gm g2 gs gp gc (nI L) (nI j) = _
  unfold h_X1_run_26
  rw [if_neg (nI_ge hj (by omega)), if_pos h5, grd_t bj, grd_t bj, cj, ho]
  unfold b_X1_run_582
  rcases hs with rfl
  all_goals
    repeat rw [if_neg (by decide)]
    rw [if_pos rfl]
    rw [nI_1]
/-- step -/
theorem run_stp {n f : Nat} {gm g2 gs gp gc : Gs} {L j : Nat} {o : Int32} (hj : j < L) (hL : L ≤ 840) (h5 : gI gm 5 = 0) (ho : gIA gc 0 j = o) (hs : o = 17) : L_X1_run n (f + 1) gm g2 gs gp gc (nI L) (nI j) = bnd (f_X1_push (sI gm 6 (gIA gc 1 j)) 0 (gD gs 14)) (fun q => L_X1_run n f q g2 gs gp gc (nI L) (nI (j + 1))) := by
  have bj : inB (nI j) 840 = true := inB_nI (by omega) (by decide)
  have cj : (nI j).toNatClampNeg = j := nI_clamp (by omega)
  show h_X1_run_26 n (L_X1_run n f) gm g2 gs gp gc (nI L) (nI j) = _
  unfold h_X1_run_26
  rw [if_neg (nI_ge hj (by omega)), if_pos h5, grd_t bj, grd_t bj, cj, ho]
  unfold b_X1_run_582
  rcases hs with rfl
  all_goals
    repeat rw [if_neg (by decide)]
    rw [if_pos rfl]
    rw [nI_1]
/-- a thing -/
theorem run_thing {n f : Nat} {gm g2 gs gp gc : Gs} {L j a : Nat} {o : Int32} (hj : j < L) (hL : L ≤ 840) (h5 : gI gm 5 = 0) (ho : gIA gc 0 j = o) (hs : o = 63) (ha : gIA gc 5 j = nI a) (ha4 : a < 40) : L_X1_run n (f + 1) gm g2 gs gp gc (nI L) (nI j) = bnd (f_X1_push (sI gm 6 (gIA gc 1 j)) (gLA gs 0 a) (gDA gs 1 a)) (fun q => L_X1_run n f q g2 gs gp gc (nI L) (nI (j + 1))) := by
  have bj : inB (nI j) 840 = true := inB_nI (by omega) (by decide)
  have cj : (nI j).toNatClampNeg = j := nI_clamp (by omega)
  show h_X1_run_26 n (L_X1_run n f) gm g2 gs gp gc (nI L) (nI j) = _
  unfold h_X1_run_26
  rw [if_neg (nI_ge hj (by omega)), if_pos h5, grd_t bj, grd_t bj, cj, ho]
  unfold b_X1_run_582
  rcases hs with rfl
  all_goals
    repeat rw [if_neg (by decide)]
    rw [if_pos rfl]
    rw [grd_t bj, ha, grd_t (inB_nI (by omega) (by decide)), grd_t bj, grd_t (inB_nI (by omega) (by decide)), nI_clamp (by omega), nI_1]
/-- a thing as it was -/
theorem run_old {n f : Nat} {gm g2 gs gp gc : Gs} {L j a : Nat} {o : Int32} (hj : j < L) (hL : L ≤ 840) (h5 : gI gm 5 = 0) (ho : gIA gc 0 j = o) (hs : o = 16) (ha : gIA gc 5 j = nI a) (ha4 : a < 40) : L_X1_run n (f + 1) gm g2 gs gp gc (nI L) (nI j) = bnd (f_X1_push (sI gm 6 (gIA gc 1 j)) (gLA gs 2 a) (gDA gs 3 a)) (fun q => L_X1_run n f q g2 gs gp gc (nI L) (nI (j + 1))) := by
  have bj : inB (nI j) 840 = true := inB_nI (by omega) (by decide)
  have cj : (nI j).toNatClampNeg = j := nI_clamp (by omega)
  show h_X1_run_26 n (L_X1_run n f) gm g2 gs gp gc (nI L) (nI j) = _
  unfold h_X1_run_26
  rw [if_neg (nI_ge hj (by omega)), if_pos h5, grd_t bj, grd_t bj, cj, ho]
  unfold b_X1_run_582
  rcases hs with rfl
  all_goals
    repeat rw [if_neg (by decide)]
    rw [if_pos rfl]
    rw [grd_t bj, ha, grd_t (inB_nI (by omega) (by decide)), grd_t bj, grd_t (inB_nI (by omega) (by decide)), nI_clamp (by omega), nI_1]
/-- the end of run -/
theorem run_end {n f : Nat} {gm g2 gs gp gc : Gs} {L j : Nat} (h : L ≤ j) (hj : j < 2000) (h5 : gI gm 5 = 0) : L_X1_run n (f + 1) gm g2 gs gp gc (nI L) (nI j) = some (1, gm) := by
  show h_X1_run_26 n (L_X1_run n f) gm g2 gs gp gc (nI L) (nI j) = _
  unfold h_X1_run_26 b_X1_run_588
  rw [if_pos (nI_le h (by omega)), if_pos h5]
theorem run_jam {n f : Nat} {gm g2 gs gp gc : Gs} {L j : Nat} (h5 : gI gm 5 ≠ 0) : L_X1_run n (f + 1) gm g2 gs gp gc (nI L) (nI j) = some (0, gm) := by
  show h_X1_run_26 n (L_X1_run n f) gm g2 gs gp gc (nI L) (nI j) = _
  unfold h_X1_run_26 b_X1_run_588
  by_cases h : nI L ≤ nI j
  · rw [if_pos h, if_neg h5]
  · rw [if_neg h, if_neg h5, if_neg h5]
/-! the reference's steps -/
theorem w_plain {n : Nat} {rec : Gs → Int32 → Int32 → Option (Int32 × Gs)} {g : Gs} {v2 v3 o s0 : Int32} (h13 : o ≠ 13) (h15 : o ≠ 15) (h17 : o ≠ 17) (h18 : o ≠ 18) : b_X12_works_48 n rec g v2 v3 o s0 = b_X12_works_186 n rec g v2 v3 o 0 := by
  unfold b_X12_works_48 b_X12_works_62 b_X12_works_74 b_X12_works_97 b_X12_works_98 b_X12_works_150
  rw [if_neg h13, if_neg h15, if_neg h18, if_neg h17, if_neg h18, if_neg h17, if_neg h13, if_neg h15]
theorem works_48 {n f : Nat} {g : Gs} {L K : Nat} {o : Int32} (hK : K < L) (hL : L ≤ 8000) (ho : gIA g 14 K = o) {T : Nat} (hT : gI g 93 = nI T) (hT4 : T ≤ 400) : L_X12_works n (f + 1) g (nI L) (nI K) = b_X12_works_48 n (L_X12_works n f) g (nI L) (nI K) o (if T = 0 then 0 else if gLA g 92 (T - 1) = 0 then 0 else 1) := by
  have bK : inB (nI K) 8000 = true := inB_nI (by omega) (by decide)
  have cK : (nI K).toNatClampNeg = K := nI_clamp (by omega)
  show h_X12_works_7 n (L_X12_works n f) g (nI L) (nI K) = _
  unfold h_X12_works_7 b_X12_works_47
  rw [if_neg (nI_ge hK (by omega)), grd_t bK, cK, ho, hT]
  by_cases h0 : T = 0
  · subst h0
    rw [if_pos (show nI 0 ≤ 0 by decide), if_pos rfl]
  · obtain ⟨t, rfl⟩ : ∃ t, T = t + 1 := ⟨T - 1, by omega⟩
    rw [if_neg (nI_nle (by omega) (by omega)), if_neg h0, nI_pred, grd_t (inB_nI (by omega) (by decide)), nI_clamp (by omega), Nat.add_sub_cancel]
    by_cases c : gLA g 92 t = 0
    · rw [if_pos c, if_pos c]
    · rw [if_neg c, if_neg c]
/-- an entry that is done -/
theorem works_done {n f : Nat} {g : Gs} {L K : Nat} {o : Int32} (hK : K < L) (hL : L ≤ 8000) (ho : gIA g 14 K = o) (hs : o < 13 ∨ o = 19) {T : Nat} (hT : gI g 93 = nI T) (hT4 : T ≤ 400) : L_X12_works n (f + 1) g (nI L) (nI K) = bnd (f_X12_done n g (nI K)) (fun q => if q.1 = 0 then some (0, q.2) else L_X12_works n f q.2 (nI L) (nI (K + 1))) := by
  have hne : o ≠ 13 ∧ o ≠ 15 ∧ o ≠ 17 ∧ o ≠ 18 := by
    rcases hs with h | rfl
    · refine ⟨?_, ?_, ?_, ?_⟩ <;> (rintro rfl; revert h; decide)
    · decide
  rw [works_48 hK hL ho hT hT4, w_plain hne.1 hne.2.1 hne.2.2.1 hne.2.2.2]
  unfold b_X12_works_186 b_X12_works_200 b_X12_works_205 b_X12_works_222 b_X12_works_239
  rw [nI_1]
  rcases hs with h | rfl
  · rw [if_pos h, if_neg (by decide)]
    simp only [eq_self, if_true]
  · rw [if_neg (by decide), if_pos rfl, if_neg (by decide)]
    simp only [eq_self, if_true]
/-- the ends of && and || -/
theorem works_pass {n f : Nat} {g : Gs} {L K : Nat} {o : Int32} (hK : K < L) (hL : L ≤ 8000) (ho : gIA g 14 K = o) (hs : o = 14 ∨ o = 16) {T : Nat} (hT : gI g 93 = nI T) (hT4 : T ≤ 400) : L_X12_works n (f + 1) g (nI L) (nI K) = L_X12_works n f g (nI L) (nI (K + 1)) := by
  have hne : o ≠ 13 ∧ o ≠ 15 ∧ o ≠ 17 ∧ o ≠ 18 ∧ ¬ o < 13 ∧ o ≠ 19 := by
    rcases hs with rfl | rfl <;> decide
  rw [works_48 hK hL ho hT hT4, w_plain hne.1 hne.2.1 hne.2.2.1 hne.2.2.2.1]
  unfold b_X12_works_186 b_X12_works_205 b_X12_works_222 b_X12_works_239
  rw [if_neg hne.2.2.2.2.1, if_neg hne.2.2.2.2.2, if_pos rfl, if_pos rfl, nI_1]
/-- && (e false) and || behind their first part: it leaps, or it takes the truth off -/
theorem works_skip {n f : Nat} {g : Gs} {L K : Nat} (e : Bool) (hK : K < L) (hL : L ≤ 8000) (ho : gIA g 14 K = if e = true then 15 else 13) {T A : Nat} (hT : gI g 93 = nI (T + 1)) (hT4 : T + 1 ≤ 400) (hA : gIA g 15 K = nI A) : L_X12_works n (f + 1) g (nI L) (nI K) = if (if gLA g 92 T = 0 then false else true) = e then L_X12_works n f g (nI L) (nI A) else L_X12_works n f (sI g 93 (nI T)) (nI L) (nI (K + 1)) := by
  have bK : inB (nI K) 8000 = true := inB_nI (by omega) (by decide)
  have cK : (nI K).toNatClampNeg = K := nI_clamp (by omega)
  rw [works_48 hK hL ho hT hT4, if_neg (show ¬ T + 1 = 0 by omega), Nat.add_sub_cancel]
  have e1 : gI g 93 - (1 : Int32) = nI T := by rw [hT]; exact nI_pred T
  unfold b_X12_works_48 b_X12_works_62 b_X12_works_74 b_X12_works_93 b_X12_works_97 b_X12_works_98 b_X12_works_150 b_X12_works_171 b_X12_works_176 b_X12_works_186 b_X12_works_205 b_X12_works_222 b_X12_works_239
  rw [nI_1, bK, cK, e1, hA]
  by_cases c : gLA g 92 T = 0
  · rw [if_pos c, if_pos c]
    cases e with
    | false => rfl
    | true => rfl
  · rw [if_neg c, if_neg c]
    cases e with
    | false => rfl
    | true => rfl
/-- behind the truth of a question -/
theorem works_ask1 {n f : Nat} {g : Gs} {L K : Nat} (hK : K < L) (hL : L ≤ 8000) (ho : gIA g 14 K = 17) {T A : Nat} (hT : gI g 93 = nI (T + 1)) (hT4 : T + 1 ≤ 400) (hA : gIA g 15 K = nI A) : L_X12_works n (f + 1) g (nI L) (nI K) = if gLA g 92 T = 0 then L_X12_works n f (sI g 93 (nI T)) (nI L) (nI A) else L_X12_works n f (sI g 93 (nI T)) (nI L) (nI (K + 1)) := by
  have bK : inB (nI K) 8000 = true := inB_nI (by omega) (by decide)
  have cK : (nI K).toNatClampNeg = K := nI_clamp (by omega)
  rw [works_48 hK hL ho hT hT4, if_neg (show ¬ T + 1 = 0 by omega), Nat.add_sub_cancel]
  have e1 : gI g 93 - (1 : Int32) = nI T := by rw [hT]; exact nI_pred T
  unfold b_X12_works_48 b_X12_works_62 b_X12_works_74 b_X12_works_93 b_X12_works_97 b_X12_works_98 b_X12_works_150 b_X12_works_171 b_X12_works_176 b_X12_works_186 b_X12_works_205 b_X12_works_222 b_X12_works_239
  rw [nI_1, bK, cK, e1]
  have hA' : gIA (sI g 93 (nI T)) 15 K = nI A := hA
  by_cases c : gLA g 92 T = 0
  · rw [if_pos c, if_pos c, hA', hA]
    rfl
  · rw [if_neg c, if_neg c]
    rfl
/-- behind the first part of a question -/
theorem works_ask2 {n f : Nat} {g g' : Gs} {L K l t : Nat} {x : Int64} (hK : K < L) (hL : L ≤ 8000) (ho : gIA g 14 K = 18) {T A : Nat} (hT : gI g 93 = nI (T + 1)) (hT4 : T + 1 ≤ 400) (hA : gIA g 15 K = nI A) (h16 : gIA g 16 K = nI (8 * l + t)) (hl : l ≤ 7) (ht : t ≤ 7) (hb : f_X12_become n g (gLA g 92 T) (nI l) (nI t) = some (x, g')) (hg : gIA g' = gIA g) : L_X12_works n (f + 1) g (nI L) (nI K) = L_X12_works n f (sLA g' 92 (vp_updL (gLA g' 92) T x)) (nI L) (nI A) := by
  have bK : inB (nI K) 8000 = true := inB_nI (by omega) (by decide)
  have cK : (nI K).toNatClampNeg = K := nI_clamp (by omega)
  have e3 : nI (8 * l + t) >>> ((3 : Int32) &&& 31) = nI l := by
    rw [pk_shrN (by omega) _ 3 (by decide)]
    congr 1; omega
  have e4 : nI (8 * l + t) &&& (7 : Int32) = nI t := by
    rw [pk_andN (by omega) 3 (by decide)]
    congr 1; omega
  have e1 : gI g 93 - (1 : Int32) = nI T := by rw [hT]; exact nI_pred T
  have key : ∀ s0 : Int32, b_X12_works_48 n (L_X12_works n f) g (nI L) (nI K) 18 s0 = L_X12_works n f (sLA g' 92 (vp_updL (gLA g' 92) T x)) (nI L) (nI A) := by
    intro s0
    have h98 : b_X12_works_48 n (L_X12_works n f) g (nI L) (nI K) 18 s0 = b_X12_works_98 n (L_X12_works n f) g (nI L) (nI K) 18 1 := by
      unfold b_X12_works_48 b_X12_works_62 b_X12_works_74 b_X12_works_93
      rw [if_neg (by decide), if_neg (by decide), if_pos rfl]
    rw [h98]
    unfold b_X12_works_98
    rw [if_pos rfl, e1, grd_t (inB_nI (by omega) (by decide)), grd_t bK, grd_t bK, cK, h16, e3, e4, nI_clamp (by omega), bnd_s hb, grd_t (inB_nI (by omega) (by decide))]
    unfold b_X12_works_150 b_X12_works_186 b_X12_works_205 b_X12_works_222 b_X12_works_239
    dsimp only
    rw [if_neg (by decide), if_neg (by decide), if_neg (by decide), if_neg (by decide), if_neg (by decide), if_pos rfl, if_neg (by decide), grd_t bK, cK]
    have : gIA (sLA g' 92 (vp_updL (gLA g' 92) T x)) 15 K = nI A := by
      show gIA g' 15 K = nI A
      rw [hg]; exact hA
    rw [this]
  rw [works_48 hK hL ho hT hT4, key]
/-- the end of works -/
theorem works_end {n f : Nat} {g : Gs} {L K T : Nat} (h : L ≤ K) (hK : K < 9000) (hT : gI g 93 = nI (T + 1)) (hT4 : T + 1 ≤ 400) : L_X12_works n (f + 1) g (nI L) (nI K) = some (1, sL g 94 (gLA g 92 T)) := by
  have e1 : gI g 93 - (1 : Int32) = nI T := by rw [hT]; exact nI_pred T
  show h_X12_works_7 n (L_X12_works n f) g (nI L) (nI K) = _
  unfold h_X12_works_7
  rw [if_pos (nI_le h (by omega)), e1, grd_t (inB_nI (by omega) (by decide)), nI_clamp (by omega)]
