/-! one step of works and of run -/
/-- the class's loop from entry v5 up to v4, f rounds of n being left -/
def LX (n f : Nat) (gm g2 gs gp gc : Gs) (v4 v5 : Int32) : Option (Int32 × Gs) := L_X1_run n f gm g2 gs gp gc v5 v4 (nI (n - f))
theorem bnd_id {α : Type} (x : Option α) : bnd x (fun q => some q) = x := by cases x <;> rfl
theorem push_thing {gm gs : Gs} {a : Nat} (h : a < 40) : f_X1_pushThing gm gs (nI a) 0 = f_X1_push gm (gLA gs 0 a) (gDA gs 1 a) := by
  unfold f_X1_pushThing
  rw [if_neg (nI_pos (by omega)), if_pos (show nI a < (40 : Int32) from nI_lt (b := 40) h (by decide)), if_pos rfl, grd_t (inB_nI h (by decide)), grd_t (inB_nI h (by decide)), nI_clamp (by omega), bnd_id]
theorem push_old {gm gs : Gs} {a : Nat} (h : a < 40) : f_X1_pushThing gm gs (nI a) 1 = f_X1_push gm (gLA gs 2 a) (gDA gs 3 a) := by
  unfold f_X1_pushThing
  rw [if_neg (nI_pos (by omega)), if_pos (show nI a < (40 : Int32) from nI_lt (b := 40) h (by decide)), if_neg (by decide), grd_t (inB_nI h (by decide)), grd_t (inB_nI h (by decide)), nI_clamp (by omega), bnd_id]
theorem begin_of {gc : Gs} {F f j : Nat} (hF : F < f) (hf : f ≤ 92) (h18 : gI gc 18 = nI f) (h11 : gIA gc 11 F = nI j) : f_X0_beginOf gc (nI F) = some (nI j) := by
  unfold f_X0_beginOf
  rw [if_neg (nI_pos (by omega)), h18, if_neg (nI_ge hF (by omega)), grd_t (inB_nI (by omega) (by decide)), nI_clamp (by omega), h11]
theorem end_of {gc : Gs} {F f j A : Nat} (hF : F < f) (hf : f ≤ 92) (h18 : gI gc 18 = nI f) (h8 : gI gc 8 = nI A) (hA : A ≤ 840) (hj : j ≤ A) (h12 : gIA gc 12 F = nI j) : f_X0_endOf gc (nI F) = some (nI j) := by
  unfold f_X0_endOf
  rw [if_neg (nI_pos (by omega)), h18, if_neg (nI_ge hF (by omega)), grd_t (inB_nI (by omega) (by decide)), nI_clamp (by omega), h12, h8, if_neg (nI_nlt hj (by omega))]
theorem sort_of {gp : Gs} {a th : Nat} {x : Int32} (ha : a < th) (hth : th ≤ 40) (h4 : gI gp 4 = nI th) (h7 : gIA gp 7 a = x) : f_X4_sortOf gp (nI a) = some x := by
  unfold f_X4_sortOf
  rw [if_neg (nI_pos (by omega)), h4, if_neg (nI_ge ha (by omega)), grd_t (inB_nI (by omega) (by decide)), nI_clamp (by omega), h7]
theorem beginOf_fr {A : List Nat} {gc gc' : Gs} (hf : Fr A gc gc') (hA : 11 ∉ A ∧ 18 ∉ A) : f_X0_beginOf gc' = f_X0_beginOf gc := by
  funext x
  unfold f_X0_beginOf
  rw [(hf 18 hA.2).1, (hf 11 hA.1).2.2.2.1]
theorem endOf_fr {A : List Nat} {gc gc' : Gs} (hf : Fr A gc gc') (hA : 8 ∉ A ∧ 12 ∉ A ∧ 18 ∉ A) : f_X0_endOf gc' = f_X0_endOf gc := by
  funext x
  unfold f_X0_endOf
  rw [(hf 18 hA.2.2).1, (hf 8 hA.1).1, (hf 12 hA.2.1).2.2.2.1]
/-- signs and words of two parts -/
theorem run_two {n f : Nat} {gm g2 gs gp gc : Gs} {L j : Nat} {o : Int32} (hk : n ≤ f + 1 + j ∧ f + 1 ≤ n) (hj : j < L) (hL : L ≤ 840) (h5 : gI gm 5 = 0) (ho : gIA gc 0 j = o) (hs : o = 49 ∨ o = 50 ∨ o = 51 ∨ o = 52 ∨ o = 53 ∨ o = 55 ∨ o = 56 ∨ o = 57 ∨ o = 58 ∨ o = 59 ∨ o = 60 ∨ o = 23 ∨ o = 24 ∨ o = 25) : LX n (f + 1) gm g2 gs gp gc (nI L) (nI j) = bnd (f_X1_workTwo n (sI gm 6 (gIA gc 1 j)) g2 o (gIA gc 3 j) (gIA gc 4 j) (gIA gc 2 j)) (fun q => LX n f q g2 gs gp gc (nI L) (nI (j + 1))) := by
  have bj : inB (nI j) 840 = true := inB_nI (by omega) (by decide)
  have cj : (nI j).toNatClampNeg = j := nI_clamp (by omega)
  have hne : o ≠ 3 ∧ o ≠ 16 ∧ o ≠ 17 ∧ o ≠ 18 ∧ o ≠ 19 ∧ o ≠ 20 ∧ o ≠ 21 ∧ o ≠ 22 ∧ o ≠ 44 ∧ o ≠ 54 ∧ o ≠ 61 ∧ o ≠ 62 ∧ o ≠ 63 ∧ o ≠ 64 ∧ o ≠ 65 ∧ o ≠ 66 ∧ o ≠ 67 ∧ o ≠ 68 ∧ o ≠ 69 ∧ o ≠ 70 := by
    rcases hs with rfl | rfl | rfl | rfl | rfl | rfl | rfl | rfl | rfl | rfl | rfl | rfl | rfl | rfl <;> decide
  obtain ⟨a1, a2, a3, a4, a5, a6, a7, a8, a9, a10, a11, a12, a13, a14, a15, a16, a17, a18, a19, a20⟩ := hne
  have e9 : n - (f + 1) + 1 = n - f := by omega
  unfold LX
  show h_X1_run_27 n (L_X1_run n f) gm g2 gs gp gc (nI j) (nI L) (nI (n - (f + 1))) = _
  unfold h_X1_run_27
  rw [if_neg (show ¬ (840 : Int32) ≤ nI (n - (f + 1)) from nI_ge (b := 840) (by omega) (by decide)), if_neg (nI_ge hj (by omega)), if_pos h5, grd_t bj, grd_t bj, cj, ho]
  simp only [if_neg a1, if_neg a2, if_neg a3, if_neg a4, if_neg a5, if_neg a6, if_neg a7, if_neg a8, if_neg a9, if_neg a10, if_neg a11, if_neg a12, if_neg a13, if_neg a14, if_neg a15, if_neg a16, if_neg a17, if_neg a18, if_neg a19, if_neg a20, ite_self]
  unfold b_X1_run_519 b_X1_run_546
  rw [grd_t bj, grd_t bj, grd_t bj, cj, nI_1, nI_1, e9]
/-- works of one part -/
theorem run_one {n f : Nat} {gm g2 gs gp gc : Gs} {L j : Nat} {o : Int32} (hk : n ≤ f + 1 + j ∧ f + 1 ≤ n) (hj : j < L) (hL : L ≤ 840) (h5 : gI gm 5 = 0) (ho : gIA gc 0 j = o) (hs : o = 19 ∨ o = 20 ∨ o = 21 ∨ o = 22 ∨ o = 54 ∨ o = 65 ∨ o = 66) : LX n (f + 1) gm g2 gs gp gc (nI L) (nI j) = bnd (f_X1_workOne (sI gm 6 (gIA gc 1 j)) o (gIA gc 3 j) (gIA gc 2 j)) (fun q => LX n f q g2 gs gp gc (nI L) (nI (j + 1))) := by
  have bj : inB (nI j) 840 = true := inB_nI (by omega) (by decide)
  have cj : (nI j).toNatClampNeg = j := nI_clamp (by omega)
  have e9 : n - (f + 1) + 1 = n - f := by omega
  unfold LX
  show h_X1_run_27 n (L_X1_run n f) gm g2 gs gp gc (nI j) (nI L) (nI (n - (f + 1))) = _
  unfold h_X1_run_27
  rw [if_neg (show ¬ (840 : Int32) ≤ nI (n - (f + 1)) from nI_ge (b := 840) (by omega) (by decide)), if_neg (nI_ge hj (by omega)), if_pos h5, grd_t bj, grd_t bj, cj, ho]
  unfold b_X1_run_496 b_X1_run_546
  rcases hs with rfl | rfl | rfl | rfl | rfl | rfl | rfl
  all_goals
    repeat rw [if_neg (by decide)]
    rw [if_pos rfl]
    rw [grd_t bj, grd_t bj, cj, nI_1, nI_1, e9]
/-- the end of a question -/
theorem run_ask3 {n f : Nat} {gm g2 gs gp gc : Gs} {L j : Nat} {o : Int32} (hk : n ≤ f + 1 + j ∧ f + 1 ≤ n) (hj : j < L) (hL : L ≤ 840) (h5 : gI gm 5 = 0) (ho : gIA gc 0 j = o) (hs : o = 44) : LX n (f + 1) gm g2 gs gp gc (nI L) (nI j) = bnd (f_X1_become (sI gm 6 (gIA gc 1 j)) (gI gm 4 - (1 : Int32)) (gIA gc 4 j) (gIA gc 2 j)) (fun q => LX n f q g2 gs gp gc (nI L) (nI (j + 1))) := by
  have bj : inB (nI j) 840 = true := inB_nI (by omega) (by decide)
  have cj : (nI j).toNatClampNeg = j := nI_clamp (by omega)
  have e9 : n - (f + 1) + 1 = n - f := by omega
  unfold LX
  show h_X1_run_27 n (L_X1_run n f) gm g2 gs gp gc (nI j) (nI L) (nI (n - (f + 1))) = _
  unfold h_X1_run_27
  rw [if_neg (show ¬ (840 : Int32) ≤ nI (n - (f + 1)) from nI_ge (b := 840) (by omega) (by decide)), if_neg (nI_ge hj (by omega)), if_pos h5, grd_t bj, grd_t bj, cj, ho]
  unfold b_X1_run_546
  rcases hs with rfl
  all_goals
    repeat rw [if_neg (by decide)]
    rw [if_pos rfl]
    rw [grd_t bj, grd_t bj, nI_1, nI_1, e9]
/-- a tooth -/
theorem run_tooth {n f : Nat} {gm g2 gs gp gc : Gs} {L j : Nat} {o : Int32} (hk : n ≤ f + 1 + j ∧ f + 1 ≤ n) (hj : j < L) (hL : L ≤ 840) (h5 : gI gm 5 = 0) (ho : gIA gc 0 j = o) (hs : o = 64) : LX n (f + 1) gm g2 gs gp gc (nI L) (nI j) = bnd (f_X1_takeTooth (sI gm 6 (gIA gc 1 j)) gp (gIA gc 5 j)) (fun q => LX n f q g2 gs gp gc (nI L) (nI (j + 1))) := by
  have bj : inB (nI j) 840 = true := inB_nI (by omega) (by decide)
  have cj : (nI j).toNatClampNeg = j := nI_clamp (by omega)
  have e9 : n - (f + 1) + 1 = n - f := by omega
  unfold LX
  show h_X1_run_27 n (L_X1_run n f) gm g2 gs gp gc (nI j) (nI L) (nI (n - (f + 1))) = _
  unfold h_X1_run_27
  rw [if_neg (show ¬ (840 : Int32) ≤ nI (n - (f + 1)) from nI_ge (b := 840) (by omega) (by decide)), if_neg (nI_ge hj (by omega)), if_pos h5, grd_t bj, grd_t bj, cj, ho]
  unfold b_X1_run_546
  rcases hs with rfl
  all_goals
    repeat rw [if_neg (by decide)]
    rw [if_pos rfl]
    rw [grd_t bj, nI_1, nI_1, e9]
/-- the end of && and || -/
theorem run_pass {n f : Nat} {gm g2 gs gp gc : Gs} {L j : Nat} {o : Int32} (hk : n ≤ f + 1 + j ∧ f + 1 ≤ n) (hj : j < L) (hL : L ≤ 840) (h5 : gI gm 5 = 0) (ho : gIA gc 0 j = o) (hs : o = 61 ∨ o = 62) : LX n (f + 1) gm g2 gs gp gc (nI L) (nI j) = LX n f (sI gm 6 (gIA gc 1 j)) g2 gs gp gc (nI L) (nI (j + 1)) := by
  have bj : inB (nI j) 840 = true := inB_nI (by omega) (by decide)
  have cj : (nI j).toNatClampNeg = j := nI_clamp (by omega)
  have e9 : n - (f + 1) + 1 = n - f := by omega
  unfold LX
  show h_X1_run_27 n (L_X1_run n f) gm g2 gs gp gc (nI j) (nI L) (nI (n - (f + 1))) = _
  unfold h_X1_run_27
  rw [if_neg (show ¬ (840 : Int32) ≤ nI (n - (f + 1)) from nI_ge (b := 840) (by omega) (by decide)), if_neg (nI_ge hj (by omega)), if_pos h5, grd_t bj, grd_t bj, cj, ho]
  unfold b_X1_run_478 b_X1_run_546
  rcases hs with rfl | rfl
  all_goals
    repeat rw [if_neg (by decide)]
    rw [if_pos rfl]
    rw [nI_1, nI_1, e9]
/-- skips -/
theorem run_skip {n f : Nat} {gm g2 gs gp gc : Gs} {L j : Nat} {o : Int32} (hk : n ≤ f + 1 + j ∧ f + 1 ≤ n) (hj : j < L) (hL : L ≤ 840) (h5 : gI gm 5 = 0) (ho : gIA gc 0 j = o) (hs : o = 67 ∨ o = 68 ∨ o = 69 ∨ o = 70) : LX n (f + 1) gm g2 gs gp gc (nI L) (nI j) = bnd (f_X1_skip (sI gm 6 (gIA gc 1 j)) gc (nI j) o) (fun q => LX n f q.2 g2 gs gp gc (nI L) (q.1 + 1)) := by
  have bj : inB (nI j) 840 = true := inB_nI (by omega) (by decide)
  have cj : (nI j).toNatClampNeg = j := nI_clamp (by omega)
  have e9 : n - (f + 1) + 1 = n - f := by omega
  unfold LX
  show h_X1_run_27 n (L_X1_run n f) gm g2 gs gp gc (nI j) (nI L) (nI (n - (f + 1))) = _
  unfold h_X1_run_27
  rw [if_neg (show ¬ (840 : Int32) ≤ nI (n - (f + 1)) from nI_ge (b := 840) (by omega) (by decide)), if_neg (nI_ge hj (by omega)), if_pos h5, grd_t bj, grd_t bj, cj, ho]
  unfold b_X1_run_437 b_X1_run_546
  rcases hs with rfl | rfl | rfl | rfl
  all_goals
    repeat rw [if_neg (by decide)]
    rw [if_pos rfl, nI_1, e9]
/-- numbers -/
theorem run_num {n f : Nat} {gm g2 gs gp gc : Gs} {L j : Nat} {o : Int32} (hk : n ≤ f + 1 + j ∧ f + 1 ≤ n) (hj : j < L) (hL : L ≤ 840) (h5 : gI gm 5 = 0) (ho : gIA gc 0 j = o) (hs : o = 3) : LX n (f + 1) gm g2 gs gp gc (nI L) (nI j) = bnd (f_X1_push (sI gm 6 (gIA gc 1 j)) (gLA gc 6 j) (gDA gc 7 j)) (fun q => LX n f q g2 gs gp gc (nI L) (nI (j + 1))) := by
  have bj : inB (nI j) 840 = true := inB_nI (by omega) (by decide)
  have cj : (nI j).toNatClampNeg = j := nI_clamp (by omega)
  have e9 : n - (f + 1) + 1 = n - f := by omega
  unfold LX
  show h_X1_run_27 n (L_X1_run n f) gm g2 gs gp gc (nI j) (nI L) (nI (n - (f + 1))) = _
  unfold h_X1_run_27
  rw [if_neg (show ¬ (840 : Int32) ≤ nI (n - (f + 1)) from nI_ge (b := 840) (by omega) (by decide)), if_neg (nI_ge hj (by omega)), if_pos h5, grd_t bj, grd_t bj, cj, ho]
  unfold b_X1_run_546
  rcases hs with rfl
  all_goals
    repeat rw [if_neg (by decide)]
    rw [if_pos rfl]
    rw [grd_t bj, grd_t bj, nI_1, nI_1, e9]
/-- ticks -/
theorem run_ticks {n f : Nat} {gm g2 gs gp gc : Gs} {L j : Nat} {o : Int32} (hk : n ≤ f + 1 + j ∧ f + 1 ≤ n) (hj : j < L) (hL : L ≤ 840) (h5 : gI gm 5 = 0) (ho : gIA gc 0 j = o) (hs : o = 18) : LX n (f + 1) gm g2 gs gp gc (nI L) (nI j) = bnd (f_X1_push (sI gm 6 (gIA gc 1 j)) (gL gs 14) FP.dconst0) (fun q => LX n f q g2 gs gp gc (nI L) (nI (j + 1))) := by
  have bj : inB (nI j) 840 = true := inB_nI (by omega) (by decide)
  have cj : (nI j).toNatClampNeg = j := nI_clamp (by omega)
  have e9 : n - (f + 1) + 1 = n - f := by omega
  unfold LX
  show h_X1_run_27 n (L_X1_run n f) gm g2 gs gp gc (nI j) (nI L) (nI (n - (f + 1))) = _
  unfold h_X1_run_27
  rw [if_neg (show ¬ (840 : Int32) ≤ nI (n - (f + 1)) from nI_ge (b := 840) (by omega) (by decide)), if_neg (nI_ge hj (by omega)), if_pos h5, grd_t bj, grd_t bj, cj, ho]
  unfold b_X1_run_546
  rcases hs with rfl
  all_goals
    repeat rw [if_neg (by decide)]
    rw [if_pos rfl]
    rw [nI_1, nI_1, e9]
/-- step -/
theorem run_stp {n f : Nat} {gm g2 gs gp gc : Gs} {L j : Nat} {o : Int32} (hk : n ≤ f + 1 + j ∧ f + 1 ≤ n) (hj : j < L) (hL : L ≤ 840) (h5 : gI gm 5 = 0) (ho : gIA gc 0 j = o) (hs : o = 17) : LX n (f + 1) gm g2 gs gp gc (nI L) (nI j) = bnd (f_X1_push (sI gm 6 (gIA gc 1 j)) 0 (gD gs 15)) (fun q => LX n f q g2 gs gp gc (nI L) (nI (j + 1))) := by
  have bj : inB (nI j) 840 = true := inB_nI (by omega) (by decide)
  have cj : (nI j).toNatClampNeg = j := nI_clamp (by omega)
  have e9 : n - (f + 1) + 1 = n - f := by omega
  unfold LX
  show h_X1_run_27 n (L_X1_run n f) gm g2 gs gp gc (nI j) (nI L) (nI (n - (f + 1))) = _
  unfold h_X1_run_27
  rw [if_neg (show ¬ (840 : Int32) ≤ nI (n - (f + 1)) from nI_ge (b := 840) (by omega) (by decide)), if_neg (nI_ge hj (by omega)), if_pos h5, grd_t bj, grd_t bj, cj, ho]
  unfold b_X1_run_546
  rcases hs with rfl
  all_goals
    repeat rw [if_neg (by decide)]
    rw [if_pos rfl]
    rw [nI_1, nI_1, e9]
/-- a thing -/
theorem run_thing {n f : Nat} {gm g2 gs gp gc : Gs} {L j a : Nat} {o : Int32} (hk : n ≤ f + 1 + j ∧ f + 1 ≤ n) (hj : j < L) (hL : L ≤ 840) (h5 : gI gm 5 = 0) (ho : gIA gc 0 j = o) (hs : o = 63) (ha : gIA gc 5 j = nI a) (ha4 : a < 40) : LX n (f + 1) gm g2 gs gp gc (nI L) (nI j) = bnd (f_X1_push (sI gm 6 (gIA gc 1 j)) (gLA gs 0 a) (gDA gs 1 a)) (fun q => LX n f q g2 gs gp gc (nI L) (nI (j + 1))) := by
  have bj : inB (nI j) 840 = true := inB_nI (by omega) (by decide)
  have cj : (nI j).toNatClampNeg = j := nI_clamp (by omega)
  have e9 : n - (f + 1) + 1 = n - f := by omega
  unfold LX
  show h_X1_run_27 n (L_X1_run n f) gm g2 gs gp gc (nI j) (nI L) (nI (n - (f + 1))) = _
  unfold h_X1_run_27
  rw [if_neg (show ¬ (840 : Int32) ≤ nI (n - (f + 1)) from nI_ge (b := 840) (by omega) (by decide)), if_neg (nI_ge hj (by omega)), if_pos h5, grd_t bj, grd_t bj, cj, ho]
  unfold b_X1_run_411 b_X1_run_431 b_X1_run_546
  rcases hs with rfl
  all_goals
    repeat rw [if_neg (by decide)]
    rw [if_pos rfl]
    rw [grd_t bj, cj, if_neg (by decide), ha, push_thing ha4, nI_1, nI_1, e9]
/-- a thing as it was -/
theorem run_old {n f : Nat} {gm g2 gs gp gc : Gs} {L j a : Nat} {o : Int32} (hk : n ≤ f + 1 + j ∧ f + 1 ≤ n) (hj : j < L) (hL : L ≤ 840) (h5 : gI gm 5 = 0) (ho : gIA gc 0 j = o) (hs : o = 16) (ha : gIA gc 5 j = nI a) (ha4 : a < 40) : LX n (f + 1) gm g2 gs gp gc (nI L) (nI j) = bnd (f_X1_push (sI gm 6 (gIA gc 1 j)) (gLA gs 2 a) (gDA gs 3 a)) (fun q => LX n f q g2 gs gp gc (nI L) (nI (j + 1))) := by
  have bj : inB (nI j) 840 = true := inB_nI (by omega) (by decide)
  have cj : (nI j).toNatClampNeg = j := nI_clamp (by omega)
  have e9 : n - (f + 1) + 1 = n - f := by omega
  unfold LX
  show h_X1_run_27 n (L_X1_run n f) gm g2 gs gp gc (nI j) (nI L) (nI (n - (f + 1))) = _
  unfold h_X1_run_27
  rw [if_neg (show ¬ (840 : Int32) ≤ nI (n - (f + 1)) from nI_ge (b := 840) (by omega) (by decide)), if_neg (nI_ge hj (by omega)), if_pos h5, grd_t bj, grd_t bj, cj, ho]
  unfold b_X1_run_411 b_X1_run_431 b_X1_run_546
  rcases hs with rfl
  all_goals
    repeat rw [if_neg (by decide)]
    rw [if_pos rfl]
    rw [grd_t bj, cj, if_pos rfl, ha, push_old ha4, nI_1, nI_1, e9]
/-- the end of run -/
theorem run_end {n f : Nat} {gm g2 gs gp gc : Gs} {L j : Nat} (h : L ≤ j) (hj : j < 2000) (h5 : gI gm 5 = 0) : LX n (f + 1) gm g2 gs gp gc (nI L) (nI j) = some (1, gm) := by
  unfold LX
  show h_X1_run_27 n (L_X1_run n f) gm g2 gs gp gc (nI j) (nI L) (nI (n - (f + 1))) = _
  unfold h_X1_run_27 b_X1_run_558
  by_cases c : (840 : Int32) ≤ nI (n - (f + 1))
  · rw [if_pos c, if_pos h5]
  · rw [if_neg c, if_pos (nI_le h (by omega)), if_pos h5]
theorem run_jam {n f : Nat} {gm g2 gs gp gc : Gs} {L j : Nat} (h5 : gI gm 5 ≠ 0) : LX n (f + 1) gm g2 gs gp gc (nI L) (nI j) = some (0, gm) := by
  unfold LX
  show h_X1_run_27 n (L_X1_run n f) gm g2 gs gp gc (nI j) (nI L) (nI (n - (f + 1))) = _
  unfold h_X1_run_27 b_X1_run_558
  by_cases c : (840 : Int32) ≤ nI (n - (f + 1))
  · rw [if_pos c, if_neg h5]
  · rw [if_neg c]
    by_cases h : nI L ≤ nI j
    · rw [if_pos h, if_neg h5]
    · rw [if_neg h, if_neg h5, if_neg h5]
/-! the reference's steps -/
theorem w_plain {n : Nat} {rec : Gs → Int32 → Int32 → Option (Int32 × Gs)} {g : Gs} {v2 v3 o s0 : Int32} (h13 : o ≠ 13) (h15 : o ≠ 15) (h17 : o ≠ 17) (h18 : o ≠ 18) : b_X12_works_48 n rec g v2 v3 o s0 = b_X12_works_186 n rec g v2 v3 o 0 := by
  unfold b_X12_works_48 b_X12_works_62 b_X12_works_74 b_X12_works_97 b_X12_works_98 b_X12_works_150
  rw [if_neg h13, if_neg h15, if_neg h18, if_neg h17, if_neg h18, if_neg h17, if_neg h13, if_neg h15]
theorem works_48 {n f : Nat} {g : Gs} {L K : Nat} {o : Int32} (hK : K < L) (hL : L ≤ 8000) (ho : gIA g 14 K = o) {T : Nat} (hT : gI g 93 = nI T) (hT4 : T ≤ 400) : L_X12_works n (f + 1) g (nI L) (nI K) = b_X12_works_48 n (L_X12_works n f) g (nI L) (nI K) o (if T = 0 then 0 else if gLA g 92 (T - 1) = 0 then 0 else 1) := by
  have bK : inB (nI K) 8000 = true := inB_nI (by omega) (by decide)
  have cK : (nI K).toNatClampNeg = K := nI_clamp (by omega)
  show h_X12_works_7 n (L_X12_works n f) g (nI L) (nI K) = _
  unfold h_X12_works_7 b_X12_works_47
  rw [if_neg (nI_ge hK (by omega)), grd_t bK, cK, ho, hT]
  by_cases h0 : T = 0
  · subst h0
    rw [if_pos (show nI 0 ≤ 0 by decide), if_pos rfl]
  · obtain ⟨t, rfl⟩ : ∃ t, T = t + 1 := ⟨T - 1, by omega⟩
    rw [if_neg (nI_nle (by omega) (by omega)), if_neg h0, nI_pred, grd_t (inB_nI (by omega) (by decide)), nI_clamp (by omega), Nat.add_sub_cancel]
    by_cases c : gLA g 92 t = 0
    · rw [if_pos c, if_pos c]
    · rw [if_neg c, if_neg c]
/-- an entry that is done -/
theorem works_done {n f : Nat} {g : Gs} {L K : Nat} {o : Int32} (hK : K < L) (hL : L ≤ 8000) (ho : gIA g 14 K = o) (hs : o < 13 ∨ o = 19) {T : Nat} (hT : gI g 93 = nI T) (hT4 : T ≤ 400) : L_X12_works n (f + 1) g (nI L) (nI K) = bnd (f_X12_done n g (nI K)) (fun q => if q.1 = 0 then some (0, q.2) else L_X12_works n f q.2 (nI L) (nI (K + 1))) := by
  have hne : o ≠ 13 ∧ o ≠ 15 ∧ o ≠ 17 ∧ o ≠ 18 := by
    rcases hs with h | rfl
    · refine ⟨?_, ?_, ?_, ?_⟩ <;> (rintro rfl; revert h; decide)
    · decide
  rw [works_48 hK hL ho hT hT4, w_plain hne.1 hne.2.1 hne.2.2.1 hne.2.2.2]
  unfold b_X12_works_186 b_X12_works_200 b_X12_works_205 b_X12_works_222 b_X12_works_239
  rw [nI_1]
  rcases hs with h | rfl
  · rw [if_pos h, if_neg (by decide)]
    simp only [eq_self, if_true]
  · rw [if_neg (by decide), if_pos rfl, if_neg (by decide)]
    simp only [eq_self, if_true]
/-- the ends of && and || -/
theorem works_pass {n f : Nat} {g : Gs} {L K : Nat} {o : Int32} (hK : K < L) (hL : L ≤ 8000) (ho : gIA g 14 K = o) (hs : o = 14 ∨ o = 16) {T : Nat} (hT : gI g 93 = nI T) (hT4 : T ≤ 400) : L_X12_works n (f + 1) g (nI L) (nI K) = L_X12_works n f g (nI L) (nI (K + 1)) := by
  have hne : o ≠ 13 ∧ o ≠ 15 ∧ o ≠ 17 ∧ o ≠ 18 ∧ ¬ o < 13 ∧ o ≠ 19 := by
    rcases hs with rfl | rfl <;> decide
  rw [works_48 hK hL ho hT hT4, w_plain hne.1 hne.2.1 hne.2.2.1 hne.2.2.2.1]
  unfold b_X12_works_186 b_X12_works_205 b_X12_works_222 b_X12_works_239
  rw [if_neg hne.2.2.2.2.1, if_neg hne.2.2.2.2.2, if_pos rfl, if_pos rfl, nI_1]
/-- && (e false) and || behind their first part: it leaps, or it takes the truth off -/
theorem works_skip {n f : Nat} {g : Gs} {L K : Nat} (e : Bool) (hK : K < L) (hL : L ≤ 8000) (ho : gIA g 14 K = if e = true then 15 else 13) {T A : Nat} (hT : gI g 93 = nI (T + 1)) (hT4 : T + 1 ≤ 400) (hA : gIA g 15 K = nI A) : L_X12_works n (f + 1) g (nI L) (nI K) = if (if gLA g 92 T = 0 then false else true) = e then L_X12_works n f g (nI L) (nI A) else L_X12_works n f (sI g 93 (nI T)) (nI L) (nI (K + 1)) := by
  have bK : inB (nI K) 8000 = true := inB_nI (by omega) (by decide)
  have cK : (nI K).toNatClampNeg = K := nI_clamp (by omega)
  rw [works_48 hK hL ho hT hT4, if_neg (show ¬ T + 1 = 0 by omega), Nat.add_sub_cancel]
  have e1 : gI g 93 - (1 : Int32) = nI T := by rw [hT]; exact nI_pred T
  unfold b_X12_works_48 b_X12_works_62 b_X12_works_74 b_X12_works_93 b_X12_works_97 b_X12_works_98 b_X12_works_150 b_X12_works_171 b_X12_works_176 b_X12_works_186 b_X12_works_205 b_X12_works_222 b_X12_works_239
  rw [nI_1, bK, cK, e1, hA]
  by_cases c : gLA g 92 T = 0
  · rw [if_pos c, if_pos c]
    cases e with
    | false => rfl
    | true => rfl
  · rw [if_neg c, if_neg c]
    cases e with
    | false => rfl
    | true => rfl
/-- behind the truth of a question -/
theorem works_ask1 {n f : Nat} {g : Gs} {L K : Nat} (hK : K < L) (hL : L ≤ 8000) (ho : gIA g 14 K = 17) {T A : Nat} (hT : gI g 93 = nI (T + 1)) (hT4 : T + 1 ≤ 400) (hA : gIA g 15 K = nI A) : L_X12_works n (f + 1) g (nI L) (nI K) = if gLA g 92 T = 0 then L_X12_works n f (sI g 93 (nI T)) (nI L) (nI A) else L_X12_works n f (sI g 93 (nI T)) (nI L) (nI (K + 1)) := by
  have bK : inB (nI K) 8000 = true := inB_nI (by omega) (by decide)
  have cK : (nI K).toNatClampNeg = K := nI_clamp (by omega)
  rw [works_48 hK hL ho hT hT4, if_neg (show ¬ T + 1 = 0 by omega), Nat.add_sub_cancel]
  have e1 : gI g 93 - (1 : Int32) = nI T := by rw [hT]; exact nI_pred T
  unfold b_X12_works_48 b_X12_works_62 b_X12_works_74 b_X12_works_93 b_X12_works_97 b_X12_works_98 b_X12_works_150 b_X12_works_171 b_X12_works_176 b_X12_works_186 b_X12_works_205 b_X12_works_222 b_X12_works_239
  rw [nI_1, bK, cK, e1]
  have hA' : gIA (sI g 93 (nI T)) 15 K = nI A := hA
  by_cases c : gLA g 92 T = 0
  · rw [if_pos c, if_pos c, hA', hA]
    rfl
  · rw [if_neg c, if_neg c]
    rfl
/-- behind the first part of a question -/
theorem works_ask2 {n f : Nat} {g g' : Gs} {L K l t : Nat} {x : Int64} (hK : K < L) (hL : L ≤ 8000) (ho : gIA g 14 K = 18) {T A : Nat} (hT : gI g 93 = nI (T + 1)) (hT4 : T + 1 ≤ 400) (hA : gIA g 15 K = nI A) (h16 : gIA g 16 K = nI (8 * l + t)) (hl : l ≤ 7) (ht : t ≤ 7) (hb : f_X12_become n g (gLA g 92 T) (nI l) (nI t) = some (x, g')) (hg : gIA g' = gIA g) : L_X12_works n (f + 1) g (nI L) (nI K) = L_X12_works n f (sLA g' 92 (vp_updL (gLA g' 92) T x)) (nI L) (nI A) := by
  have bK : inB (nI K) 8000 = true := inB_nI (by omega) (by decide)
  have cK : (nI K).toNatClampNeg = K := nI_clamp (by omega)
  have e3 : nI (8 * l + t) >>> ((3 : Int32) &&& 31) = nI l := by
    rw [pk_shrN (by omega) _ 3 (by decide)]
    congr 1; omega
  have e4 : nI (8 * l + t) &&& (7 : Int32) = nI t := by
    rw [pk_andN (by omega) 3 (by decide)]
    congr 1; omega
  have e1 : gI g 93 - (1 : Int32) = nI T := by rw [hT]; exact nI_pred T
  have key : ∀ s0 : Int32, b_X12_works_48 n (L_X12_works n f) g (nI L) (nI K) 18 s0 = L_X12_works n f (sLA g' 92 (vp_updL (gLA g' 92) T x)) (nI L) (nI A) := by
    intro s0
    have h98 : b_X12_works_48 n (L_X12_works n f) g (nI L) (nI K) 18 s0 = b_X12_works_98 n (L_X12_works n f) g (nI L) (nI K) 18 1 := by
      unfold b_X12_works_48 b_X12_works_62 b_X12_works_74 b_X12_works_93
      rw [if_neg (by decide), if_neg (by decide), if_pos rfl]
    rw [h98]
    unfold b_X12_works_98
    rw [if_pos rfl, e1, grd_t (inB_nI (by omega) (by decide)), grd_t bK, grd_t bK, cK, h16, e3, e4, nI_clamp (by omega), bnd_s hb, grd_t (inB_nI (by omega) (by decide))]
    unfold b_X12_works_150 b_X12_works_186 b_X12_works_205 b_X12_works_222 b_X12_works_239
    dsimp only
    rw [if_neg (by decide), if_neg (by decide), if_neg (by decide), if_neg (by decide), if_neg (by decide), if_pos rfl, if_neg (by decide), grd_t bK, cK]
    have : gIA (sLA g' 92 (vp_updL (gLA g' 92) T x)) 15 K = nI A := by
      show gIA g' 15 K = nI A
      rw [hg]; exact hA
    rw [this]
  rw [works_48 hK hL ho hT hT4, key]
/-- the end of works -/
theorem works_end {n f : Nat} {g : Gs} {L K T : Nat} (h : L ≤ K) (hK : K < 9000) (hT : gI g 93 = nI (T + 1)) (hT4 : T + 1 ≤ 400) : L_X12_works n (f + 1) g (nI L) (nI K) = some (1, sL g 94 (gLA g 92 T)) := by
  have e1 : gI g 93 - (1 : Int32) = nI T := by rw [hT]; exact nI_pred T
  show h_X12_works_7 n (L_X12_works n f) g (nI L) (nI K) = _
  unfold h_X12_works_7
  rw [if_pos (nI_le h (by omega)), e1, grd_t (inB_nI (by omega) (by decide)), nI_clamp (by omega)]
