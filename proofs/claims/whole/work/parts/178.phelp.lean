/-! parsing: the class's helpers -/
theorem CE.keep {G gc gc' : Gs} {i : Nat} {q : Nat × Nat × Nat} (h : CE G gc i q) (h0 : gIA gc' 0 i = gIA gc 0 i) (h1 : gIA gc' 1 i = gIA gc 1 i) (h2 : gIA gc' 2 i = gIA gc 2 i) (h3 : gIA gc' 3 i = gIA gc 3 i) (h5 : gIA gc' 5 i = gIA gc 5 i) (h6 : gLA gc' 6 i = gLA gc 6 i) (h7 : gDA gc' 7 i = gDA gc 7 i) : CE G gc' i q := by
  unfold CE
  rw [h0, h1, h2, h3, h5, h6, h7]; exact h
theorem RE.keep {G g g' : Gs} {i : Nat} {q : Nat × Nat × Nat} (h : RE G g i q) (h14 : gIA g' 14 (2000 + i) = gIA g 14 (2000 + i)) (h15 : gIA g' 15 (2000 + i) = gIA g 15 (2000 + i)) (h17 : gIA g' 17 (2000 + i) = gIA g 17 (2000 + i)) (h18 : gLA g' 18 (2000 + i) = gLA g 18 (2000 + i)) : RE G g' i q := by
  unfold RE
  rw [h14, h15, h17, h18]; exact h
theorem RE.fr {G g g' : Gs} {i : Nat} {q : Nat × Nat × Nat} {A : List Nat} (h : RE G g i q) (hf : Fr A g g') (hA : 14 ∉ A ∧ 15 ∉ A ∧ 17 ∉ A ∧ 18 ∉ A) : RE G g' i q := h.keep (by rw [(hf 14 hA.1).2.2.2.1]) (by rw [(hf 15 hA.2.1).2.2.2.1]) (by rw [(hf 17 hA.2.2.1).2.2.2.1]) (by rw [(hf 18 hA.2.2.2).2.2.2.2.1])
theorem CE.fr {G gc gc' : Gs} {i : Nat} {q : Nat × Nat × Nat} {A : List Nat} (h : CE G gc i q) (hf : Fr A gc gc') (hA : 0 ∉ A ∧ 1 ∉ A ∧ 2 ∉ A ∧ 3 ∉ A ∧ 5 ∉ A ∧ 6 ∉ A ∧ 7 ∉ A) : CE G gc' i q := h.keep (by rw [(hf 0 hA.1).2.2.2.1]) (by rw [(hf 1 hA.2.1).2.2.2.1]) (by rw [(hf 2 hA.2.2.1).2.2.2.1]) (by rw [(hf 3 hA.2.2.2.1).2.2.2.1]) (by rw [(hf 5 hA.2.2.2.2.1).2.2.2.1]) (by rw [(hf 6 hA.2.2.2.2.2.1).2.2.2.2.1]) (by rw [(hf 7 hA.2.2.2.2.2.2).2.2.2.2.2.1])
theorem RE.act {G g : Gs} {i A : Nat} {q : Nat × Nat × Nat} {o a p : Int32} (h : RE G g i q) (hi : i ≠ A) : RE G (actG g A o a p) i q := by
  refine h.keep ?_ ?_ ?_ ?_
  · show upd (gIA g 14) (2000 + A) o (2000 + i) = _; rw [pk_un (by omega)]
  · show upd (gIA g 15) (2000 + A) a (2000 + i) = _; rw [pk_un (by omega)]
  · show upd (gIA g 17) (2000 + A) p (2000 + i) = _; rw [pk_un (by omega)]
  · rfl
def addG (gc : Gs) (N : Nat) (o p : Int32) : Gs := sI (sDA (sLA (sIA (sIA (sIA (sIA (sIA (sIA gc 0 (upd (gIA gc 0) N o)) 1 (upd (gIA gc 1) N p)) 2 (upd (gIA gc 2) N 0)) 3 (upd (gIA gc 3) N 0)) 4 (upd (gIA gc 4) N 0)) 5 (upd (gIA gc 5) N 0)) 6 (vp_updL (gLA gc 6) N 0)) 7 (vf_upd (gDA gc 7) N FP.dconst0)) 8 (nI (N + 1))
theorem add_open {gc : Gs} {N : Nat} {o p : Int32} (h10 : gI gc 10 = 0) (h8 : gI gc 8 = nI N) (hN : N < 840) : f_X0_add gc o p = some (nI N, addG gc N o p) := by
  unfold f_X0_add addG
  rw [h10, h8, if_pos rfl, if_pos (show nI N < (840 : Int32) from nI_lt (b := 840) hN (by decide))]
  simp only [grd_t (inB_nI hN (by decide)), nI_clamp (show N < 2 ^ 31 by omega), nI_1]
theorem add_shut {gc : Gs} {o p : Int32} (h10 : ¬ gI gc 10 = 0) : f_X0_add gc o p = some (-1, gc) := by
  unfold f_X0_add
  rw [if_neg h10]
theorem addG_fr (gc : Gs) (N : Nat) (o p : Int32) : Fr [0, 1, 2, 3, 4, 5, 6, 7, 8] gc (addG gc N o p) := (((((((((Fr.sIA (by decide) _ _).trans (Fr.sIA (by decide) _ _)).trans (Fr.sIA (by decide) _ _)).trans (Fr.sIA (by decide) _ _)).trans (Fr.sIA (by decide) _ _)).trans (Fr.sIA (by decide) _ _)).trans (Fr.sLA (by decide) _ _)).trans (Fr.sDA (by decide) _ _)).trans (Fr.sI (by decide) _ _))
theorem CE.add {G gc : Gs} {i N : Nat} {q : Nat × Nat × Nat} {o p : Int32} (h : CE G gc i q) (hi : i ≠ N) : CE G (addG gc N o p) i q := by
  refine h.keep ?_ ?_ ?_ ?_ ?_ ?_ ?_
  · show upd (gIA gc 0) N o i = _; rw [pk_un hi]
  · show upd (gIA gc 1) N p i = _; rw [pk_un hi]
  · show upd (gIA gc 2) N 0 i = _; rw [pk_un hi]
  · show upd (gIA gc 3) N 0 i = _; rw [pk_un hi]
  · show upd (gIA gc 5) N 0 i = _; rw [pk_un hi]
  · show vp_updL (gLA gc 6) N 0 i = _; rw [pk_uLn hi]
  · show vf_upd (gDA gc 7) N FP.dconst0 i = _; exact if_neg hi
/-- what a new entry bears -/
theorem addG_at (gc : Gs) (N : Nat) (o p : Int32) : gIA (addG gc N o p) 0 N = o ∧ gIA (addG gc N o p) 1 N = p ∧ gIA (addG gc N o p) 2 N = 0 ∧ gIA (addG gc N o p) 3 N = 0 ∧ gIA (addG gc N o p) 5 N = 0 ∧ gLA (addG gc N o p) 6 N = 0 := by
  refine ⟨?_, ?_, ?_, ?_, ?_, ?_⟩
  · show upd (gIA gc 0) N o N = _; rw [pk_us]
  · show upd (gIA gc 1) N p N = _; rw [pk_us]
  · show upd (gIA gc 2) N 0 N = _; rw [pk_us]
  · show upd (gIA gc 3) N 0 N = _; rw [pk_us]
  · show upd (gIA gc 5) N 0 N = _; rw [pk_us]
  · show vp_updL (gLA gc 6) N 0 N = _; rw [pk_uLs]
theorem actG_at (g : Gs) (A : Nat) (o a p : Int32) : gIA (actG g A o a p) 14 (2000 + A) = o ∧ gIA (actG g A o a p) 15 (2000 + A) = a ∧ gIA (actG g A o a p) 17 (2000 + A) = p := by
  refine ⟨?_, ?_, ?_⟩
  · show upd (gIA g 14) (2000 + A) o (2000 + A) = _; rw [pk_us]
  · show upd (gIA g 15) (2000 + A) a (2000 + A) = _; rw [pk_us]
  · show upd (gIA g 17) (2000 + A) p (2000 + A) = _; rw [pk_us]
/-- counting a node -/
def shutC (gr gc : Gs) (p : Int32) : Gs × Gs := if gI gr 16 = -1 then (sI gr 16 p, sI gc 10 1) else (gr, gc)
theorem count7 {gr gc : Gs} {hP N : Nat} {p : Int32} (hR : gR gr 15 = some hP) (h9 : gI gc 9 = nI N) (hN : N < 100000) : f_X5_countNode hP gr gc p = some (if N < 500 then (gr, sI gc 9 (nI (N + 1))) else shutC gr (sI gc 9 (nI (N + 1))) p) := by
  have r : rEq (gR gr 15) hP = true := decide_eq_true hR
  unfold f_X5_countNode f_X5_noteTooMuch shutC
  simp only [grd_t r]
  rw [h9, nI_1]
  by_cases h : N < 500
  · rw [if_pos (show nI (N + 1) ≤ (500 : Int32) from nI_le (b := 500) (by omega) (by decide)), if_pos h]
  · rw [if_neg (show ¬ nI (N + 1) ≤ (500 : Int32) from nI_ge (a := 500) (by omega) (by omega)), if_neg h]
    by_cases h2 : gI gr 16 = -1
    · rw [if_pos h2, if_pos h2]; rfl
    · rw [if_neg h2, if_neg h2]; rfl
theorem addNamed7_open {gr gc : Gs} {hP N : Nat} {o p x s : Int32} (hR : gR gr 15 = some hP) (h10 : gI gc 10 = 0) (h8 : gI gc 8 = nI N) (hN : N < 840) : f_X5_addNamed hP gr gc o p x s = some (sIA (sIA (addG gc N o p) 5 (upd (gIA (addG gc N o p) 5) N x)) 3 (upd (gIA (addG gc N o p) 3) N s)) := by
  have r : rEq (gR gr 15) hP = true := decide_eq_true hR
  have ne : ¬ nI N = (-1 : Int32) := fun z => nI_pos (n := N) (by omega) (by rw [z]; decide)
  unfold f_X5_addNamed
  rw [grd_t r, bnd_s (add_open h10 h8 hN)]
  show (if nI N = (-1 : Int32) then _ else _) = _
  rw [if_neg ne]
  simp only [grd_t r, grd_t (inB_nI hN (by decide)), nI_clamp (show N < 2 ^ 31 by omega)]
theorem addNamed7_shut {gr gc : Gs} {hP : Nat} {o p x s : Int32} (hR : gR gr 15 = some hP) (h10 : ¬ gI gc 10 = 0) : f_X5_addNamed hP gr gc o p x s = some gc := by
  have r : rEq (gR gr 15) hP = true := decide_eq_true hR
  unfold f_X5_addNamed
  rw [grd_t r, bnd_s (add_shut h10)]
  rfl
def pushG (gr : Gs) (h : Nat) (o p m x : Int32) : Gs := sI (sIA (sIA (sIA (sIA gr 4 (upd (gIA gr 4) h o)) 5 (upd (gIA gr 5) h p)) 6 (upd (gIA gr 6) h m)) 7 (upd (gIA gr 7) h x)) 8 (nI (h + 1))
theorem push7 {gr : Gs} {h : Nat} {o p m x : Int32} (h8 : gI gr 8 = nI h) (hh : h < 320) : f_X5_push gr o p m x = some (2, pushG gr h o p m x) := by
  unfold f_X5_push pushG
  rw [h8, if_pos (show nI h < (320 : Int32) from nI_lt (b := 320) hh (by decide))]
  simp only [grd_t (inB_nI hh (by decide)), nI_clamp (show h < 2 ^ 31 by omega), nI_1]
theorem enter7 {gr : Gs} {h d : Nat} {o p m x : Int32} (h8 : gI gr 8 = nI h) (hh : h < 320) (h9 : gI gr 9 = nI d) (hd : d ≤ 40) : f_X5_enter gr o p m x = if d = 40 then some (0, gr) else some (2, pushG (sI gr 9 (nI (d + 1))) h o p m x) := by
  unfold f_X5_enter
  rw [h9, nI_1]
  by_cases h40 : d = 40
  · rw [if_neg (show ¬ nI d < (40 : Int32) from nI_nlt (b := 40) (by omega) (by omega)), if_pos h40]
  · rw [if_pos (show nI d < (40 : Int32) from nI_lt (b := 40) (by omega) (by decide)), if_neg h40, bnd_s (push7 (gr := sI gr 9 (nI (d + 1))) h8 hh)]
theorem pushG_fr (gr : Gs) (h : Nat) (o p m x : Int32) : Fr [4, 5, 6, 7, 8] gr (pushG gr h o p m x) := ((((Fr.sIA (by decide) _ _).trans (Fr.sIA (by decide) _ _)).trans (Fr.sIA (by decide) _ _)).trans (Fr.sIA (by decide) _ _)).trans (Fr.sI (by decide) _ _)
/-- ranks of signs -/
def rk (o : Nat) : Nat := if o = 49 ∨ o = 50 then 5 else if o = 51 ∨ o = 52 ∨ o = 53 then 6 else if 55 ≤ o ∧ o ≤ 58 then 4 else if o = 59 ∨ o = 60 then 3 else if o = 61 then 2 else if o = 62 then 1 else 0
theorem rank7 {o : Nat} (h : o < 100) : f_X5_rankOf (nI o) = some (nI (rk o)) := by
  have : ∀ q : Fin 100, f_X5_rankOf (nI q.val) = some (nI (rk q.val)) := by decide +kernel
  exact this ⟨o, h⟩
def isA (o : Nat) : Prop := o = 65 ∨ o = 54 ∨ o = 66
/-- does an open sign end ahead of a sign of rank r (e: the end of a ?'s last part too) -/
def clsd (o r : Nat) (e : Bool) : Prop := isA o ∨ (o = 70 ∧ e = true) ∨ r < rk o ∨ (rk o = r ∧ r ≠ 3 ∧ r ≠ 4 ∧ 0 < r)
/-- closing one open sign -/
def pop1 (hP : Nat) (gr gc : Gs) : Option (Gs × Gs) :=
  bnd (f_X5_writeTop hP (sI (sI gr 9 (gI gr 9 - (if gIA gr 4 ((gI gr 8) - 1).toNatClampNeg = 65 ∨ gIA gr 4 ((gI gr 8) - 1).toNatClampNeg = 54 ∨ gIA gr 4 ((gI gr 8) - 1).toNatClampNeg = 66 ∨ gIA gr 4 ((gI gr 8) - 1).toNatClampNeg = 70 then 1 else 0))) 8 ((gI gr 8) - 1)) gc (gIA gr 4 ((gI gr 8) - 1).toNatClampNeg)) (fun q => some (sI (sI gr 9 (gI gr 9 - (if gIA gr 4 ((gI gr 8) - 1).toNatClampNeg = 65 ∨ gIA gr 4 ((gI gr 8) - 1).toNatClampNeg = 54 ∨ gIA gr 4 ((gI gr 8) - 1).toNatClampNeg = 66 ∨ gIA gr 4 ((gI gr 8) - 1).toNatClampNeg = 70 then 1 else 0))) 8 ((gI gr 8) - 1), q))
theorem close_stop {n hP k : Nat} {gr gc : Gs} {r h c o : Nat} {e : Bool} (h8 : gI gr 8 = nI h) (hh : h ≤ 320) (hr : r ≤ 6) (hc : c < 319) (ho : 0 < h → gIA gr 4 (h - 1) = nI o ∧ o < 100 ∧ ¬ clsd o r e) : L_X5_closeParts n hP (k + 2) gr gc (nI r) (sgB e) 1 (nI c) = some (gr, gc) := by
  show h_X5_closeParts_5 n hP (L_X5_closeParts n hP (k + 1)) gr gc (nI r) (sgB e) 1 (nI c) = _
  unfold h_X5_closeParts_5
  rw [if_neg (show ¬ (320 : Int32) ≤ nI c from nI_ge (b := 320) (by omega) (by decide)), if_neg (show ¬ (1 : Int32) = 0 by decide), h8]
  by_cases h0 : h = 0
  · rw [if_pos (show nI h ≤ 0 by rw [h0]; decide)]
  · obtain ⟨o1, o2, o3⟩ := ho (by omega)
    have e1 : nI h - 1 = nI (h - 1) := nI_sub (a := h) (b := 1) (by omega)
    rw [if_neg (nI_nle (by omega) (by omega)), e1, grd_t (inB_nI (by omega) (by decide)), nI_clamp (by omega), o1, bnd_s (rank7 o2)]
    have nA : ¬ isA o := fun z => o3 (.inl z)
    have q : ∀ {x : Nat}, x < 100 → (nI o = nI x ↔ o = x) := fun hx => nI_eq (by omega) (by omega)
    have hk : rk o ≤ 6 := by unfold rk; split <;> (try split) <;> (try split) <;> (try split) <;> (try split) <;> (try split) <;> omega
    rw [if_neg (show ¬ nI o = (65 : Int32) from fun z => nA (.inl ((q (x := 65) (by decide)).mp z))), if_neg (show ¬ nI o = (54 : Int32) from fun z => nA (.inr (.inl ((q (x := 54) (by decide)).mp z)))), if_neg (show ¬ nI o = (66 : Int32) from fun z => nA (.inr (.inr ((q (x := 66) (by decide)).mp z))))]
    -- not closed
    have fin : ∀ v7 v8, b_X5_closeParts_142 n hP (L_X5_closeParts n hP (k + 1)) gr gc (nI r) (sgB e) (nI c) (nI o) v7 v8 = some (gr, gc) := by
      intro v7 v8
      unfold b_X5_closeParts_142 b_X5_closeParts_143 b_X5_closeParts_188
      rw [if_pos rfl, nI_1]
      show h_X5_closeParts_5 n hP (L_X5_closeParts n hP k) gr gc (nI r) (sgB e) 0 (nI (c + 1)) = _
      unfold h_X5_closeParts_5
      rw [if_neg (show ¬ (320 : Int32) ≤ nI (c + 1) from nI_ge (b := 320) (by omega) (by decide)), if_pos rfl]
    have f123 : ∀ v8 s0, (s0 = 0 ∨ ¬ 0 < r) → b_X5_closeParts_123 n hP (L_X5_closeParts n hP (k + 1)) gr gc (nI r) (sgB e) (nI c) (nI o) (nI (rk o)) 0 v8 s0 = some (gr, gc) := by
      intro v8 s0 hs
      unfold b_X5_closeParts_123
      rw [if_neg (show ¬ nI r < nI (rk o) from nI_nlt (Nat.not_lt.mp fun z => o3 (.inr (.inr (.inl z)))) (by omega))]
      rcases hs with hs | hs
      · rw [if_pos hs, fin]
      · by_cases hs0 : s0 = 0
        · rw [if_pos hs0, fin]
        · rw [if_neg hs0, if_pos (show nI r ≤ 0 by rw [show r = 0 by omega]; decide), fin]
    have f107 : ∀ s0, (s0 = 0 ∨ ¬ 0 < r) → b_X5_closeParts_107 n hP (L_X5_closeParts n hP (k + 1)) gr gc (nI r) (sgB e) (nI c) (nI o) (nI (rk o)) 0 (if o = 70 then 1 else 0) s0 = some (gr, gc) := by
      intro s0 hs
      unfold b_X5_closeParts_107
      rw [if_pos rfl]
      by_cases h70 : o = 70
      · have he : e = false := by
          rw [← Bool.not_eq_true]; exact fun z => o3 (.inr (.inl ⟨h70, z⟩))
        rw [if_pos h70, if_neg (show ¬ (1 : Int32) = 0 by decide), he, if_pos (show sgB false = 0 from rfl)]
        have := f123 1 s0 hs
        rw [he] at this; exact this
      · rw [if_neg h70, if_pos rfl, f123 0 s0 hs]
    have f84 : b_X5_closeParts_84 n hP (L_X5_closeParts n hP (k + 1)) gr gc (nI r) (sgB e) (nI c) (nI o) (nI (rk o)) 0 (if o = 70 then 1 else 0) = some (gr, gc) := by
      unfold b_X5_closeParts_84 b_X5_closeParts_106
      by_cases hq : rk o = r
      · rw [if_pos (show nI (rk o) = nI r by rw [hq])]
        by_cases h3 : r = 3
        · rw [if_pos (show nI r = (3 : Int32) by rw [h3]; rfl), f107 0 (.inl rfl)]
        · rw [if_neg (show ¬ nI r = (3 : Int32) from fun z => h3 ((nI_eq (b := 3) (by omega) (by decide)).mp z))]
          by_cases h4 : r = 4
          · rw [if_pos (show nI r = (4 : Int32) by rw [h4]; rfl), f107 0 (.inl rfl)]
          · rw [if_neg (show ¬ nI r = (4 : Int32) from fun z => h4 ((nI_eq (b := 4) (by omega) (by decide)).mp z)), f107 1 (.inr fun z => o3 (.inr (.inr (.inr ⟨hq, h3, h4, z⟩))))]
      · rw [if_neg (fun z => hq ((nI_eq (by omega) (by omega)).mp z)), f107 0 (.inl rfl)]
    unfold b_X5_closeParts_70
    by_cases h70 : o = 70
    · rw [if_pos (show nI o = (70 : Int32) by rw [h70]; rfl)]
      rw [if_pos h70] at f84; exact f84
    · rw [if_neg (show ¬ nI o = (70 : Int32) from fun z => h70 ((q (x := 70) (by decide)).mp z))]
      rw [if_neg h70] at f84; exact f84
