/-! parsing: the class's loop, step by step -/
/-- one turn of the loop: reader, scanner, code, stand -/
def stp (n hP : Nat) (gt g2 : Gs) (s : Gs × Gs × Gs × Int32) : Option (Gs × Gs × Gs × Int32) :=
  bnd (if s.2.2.2 = 3 then f_X5_readSign n hP (sI s.1 10 1) s.2.1 s.2.2.1 else if s.2.2.2 = 2 then f_X5_readPart hP (sI s.1 10 1) s.2.1 s.2.2.1 else f_X5_readBehind hP (sI s.1 10 1) s.2.1 s.2.2.1 s.2.2.2) (fun q => if gI q.2.1 10 = 0 then some (q.2.1, s.2.1, q.2.2, q.1) else if q.1 ≤ 1 then some (q.2.1, s.2.1, q.2.2, q.1) else bnd (f_X7_advance n s.2.1 gt g2) (fun z => some (q.2.1, z, q.2.2, q.1)))
theorem loop_step {n hP k c : Nat} {gt g2 : Gs} {s : Gs × Gs × Gs × Int32} {v1 v2 v3 v4 v5 : Int32} (hc : c ≤ 9000) (h2 : ¬ s.2.2.2 ≤ 1) : L_X5_readFormula n hP (k + 1) s.1 gt s.2.1 g2 s.2.2.1 v1 v2 v3 v4 v5 s.2.2.2 (nI c) = bnd (stp n hP gt g2 s) (fun q => L_X5_readFormula n hP k q.1 gt q.2.1 g2 q.2.2.1 v1 v2 v3 v4 v5 q.2.2.2 (nI (c + 1))) := by
  show h_X5_readFormula_25 n hP (L_X5_readFormula n hP k) s.1 gt s.2.1 g2 s.2.2.1 v1 v2 v3 v4 v5 s.2.2.2 (nI c) = _
  unfold h_X5_readFormula_25 stp
  rw [if_neg (show ¬ (9000 : Int32) < nI c from nI_nlt (a := 9000) hc (by decide)), if_neg h2]
  have f : ∀ q : Int32 × Gs × Gs, b_X5_readFormula_80 n hP (L_X5_readFormula n hP k) q.2.1 gt s.2.1 g2 q.2.2 v1 v2 v3 v4 v5 q.1 (nI c) = bnd (if gI q.2.1 10 = 0 then some (q.2.1, s.2.1, q.2.2, q.1) else if q.1 ≤ 1 then some (q.2.1, s.2.1, q.2.2, q.1) else bnd (f_X7_advance n s.2.1 gt g2) (fun z => some (q.2.1, z, q.2.2, q.1))) (fun q => L_X5_readFormula n hP k q.1 gt q.2.1 g2 q.2.2.1 v1 v2 v3 v4 v5 q.2.2.2 (nI (c + 1))) := by
    intro q
    unfold b_X5_readFormula_80 b_X5_readFormula_100
    rw [nI_1]
    by_cases h10 : gI q.2.1 10 = 0
    · rw [if_pos h10, if_pos h10]; rfl
    · rw [if_neg h10, if_neg h10]
      by_cases h1 : q.1 ≤ 1
      · rw [if_pos h1, if_pos h1]; rfl
      · rw [if_neg h1, if_neg h1]
        cases f_X7_advance n s.2.1 gt g2 <;> rfl
  have bb : ∀ (x : Option (Int32 × Gs × Gs)) (F : Int32 × Gs × Gs → Option (Gs × Gs × Gs × Int32)) (H : Gs × Gs × Gs × Int32 → Option (Int32 × Gs × Gs × Gs)), bnd (bnd x F) H = bnd x (fun q => bnd (F q) H) := by
    intro x F H; cases x <;> rfl
  by_cases h3 : s.2.2.2 = 3
  · rw [if_pos h3, if_pos h3, bb]; exact congrArg _ (funext f)
  · rw [if_neg h3, if_neg h3]
    by_cases h22 : s.2.2.2 = 2
    · rw [if_pos h22, if_pos h22, bb]; exact congrArg _ (funext f)
    · rw [if_neg h22, if_neg h22, bb]; exact congrArg _ (funext f)
/-- c turns lead from one to the other -/
def Gos (n hP : Nat) (gt g2 : Gs) : Nat → Gs × Gs × Gs × Int32 → Gs × Gs × Gs × Int32 → Prop
  | 0 => fun s s' => s' = s
  | c + 1 => fun s s' => ¬ s.2.2.2 ≤ 1 ∧ ∃ s1, stp n hP gt g2 s = some s1 ∧ Gos n hP gt g2 c s1 s'
theorem Gos.add {n hP : Nat} {gt g2 : Gs} {b : Nat} {s1 s2 : Gs × Gs × Gs × Int32} (h2 : Gos n hP gt g2 b s1 s2) : ∀ {a : Nat} {s : Gs × Gs × Gs × Int32}, Gos n hP gt g2 a s s1 → Gos n hP gt g2 (a + b) s s2 := by
  intro a
  induction a with
  | zero => intro s h; rw [Nat.zero_add]; rw [show s1 = s from h] at h2; exact h2
  | succ a ih =>
    intro s h
    obtain ⟨x, y, z, w⟩ := h
    rw [show a + 1 + b = (a + b) + 1 by omega]
    exact ⟨x, y, z, ih w⟩
theorem Gos.one {n hP : Nat} {gt g2 : Gs} {s s' : Gs × Gs × Gs × Int32} (h : ¬ s.2.2.2 ≤ 1) (hs : stp n hP gt g2 s = some s') : Gos n hP gt g2 1 s s' := ⟨h, s', hs, rfl⟩
theorem Gos.loop {n hP : Nat} {gt g2 : Gs} {v1 v2 v3 v4 v5 : Int32} : ∀ {m k c : Nat} {s s' : Gs × Gs × Gs × Int32}, Gos n hP gt g2 m s s' → c + m ≤ 9001 → L_X5_readFormula n hP (k + m) s.1 gt s.2.1 g2 s.2.2.1 v1 v2 v3 v4 v5 s.2.2.2 (nI c) = L_X5_readFormula n hP k s'.1 gt s'.2.1 g2 s'.2.2.1 v1 v2 v3 v4 v5 s'.2.2.2 (nI (c + m)) := by
  intro m
  induction m with
  | zero => intro k c s s' h _; rw [show s' = s from h]; rfl
  | succ m ih =>
    intro k c s s' h hc
    obtain ⟨x, y, z, w⟩ := h
    rw [show k + (m + 1) = (k + m) + 1 by omega, loop_step (by omega) x, bnd_s z, ih w (by omega), show c + 1 + m = c + (m + 1) by omega]
/-- a turn that takes its token -/
theorem stp_take {n hP : Nat} {gt g2 gr gs gc gr' gs' gc' : Gs} {st st' : Int32} (hq : (if st = 3 then f_X5_readSign n hP (sI gr 10 1) gs gc else if st = 2 then f_X5_readPart hP (sI gr 10 1) gs gc else f_X5_readBehind hP (sI gr 10 1) gs gc st) = some (st', gr', gc')) (h10 : gI gr' 10 = 1) (h1 : ¬ st' ≤ 1) (ha : f_X7_advance n gs gt g2 = some gs') : stp n hP gt g2 (gr, gs, gc, st) = some (gr', gs', gc', st') := by
  unfold stp
  rw [bnd_s hq]
  show (if gI gr' 10 = 0 then _ else if st' ≤ 1 then _ else bnd (f_X7_advance n gs gt g2) _) = _
  rw [if_neg (by rw [h10]; decide), if_neg h1, bnd_s ha]
/-- a turn that leaves it -/
theorem stp_leave {n hP : Nat} {gt g2 gr gs gc gr' gc' : Gs} {st st' : Int32} (hq : (if st = 3 then f_X5_readSign n hP (sI gr 10 1) gs gc else if st = 2 then f_X5_readPart hP (sI gr 10 1) gs gc else f_X5_readBehind hP (sI gr 10 1) gs gc st) = some (st', gr', gc')) (h10 : gI gr' 10 = 0 ∨ st' ≤ 1) : stp n hP gt g2 (gr, gs, gc, st) = some (gr', gs, gc', st') := by
  unfold stp
  rw [bnd_s hq]
  show (if gI gr' 10 = 0 then _ else if st' ≤ 1 then _ else bnd (f_X7_advance n gs gt g2) _) = _
  rcases h10 with h | h
  · rw [if_pos h]
  · by_cases h0 : gI gr' 10 = 0
    · rw [if_pos h0]
    · rw [if_neg h0, if_pos h]
/-- closing leaves all but height and nest -/
theorem clo_shape {hP : Nat} : ∀ {m h : Nat} {s q : Gs × Gs}, gI s.1 8 = nI (h + m) → clo hP m s = some q → gI q.1 8 = nI h ∧ Fr [8, 9] s.1 q.1 := by
  intro m
  induction m with
  | zero => intro h s q h8 hq; injection hq with hq; rw [← hq]; exact ⟨h8, Fr.refl _ _⟩
  | succ m ih =>
    intro h s q h8 hq
    obtain ⟨x, h1, h2⟩ := bnd_some hq
    obtain ⟨a, b⟩ := pop1_shape (h := h + m) h8 h1
    obtain ⟨c, d⟩ := ih a h2
    exact ⟨c, b.trans d⟩
theorem clo_add {hP : Nat} {b : Nat} {q1 q2 : Gs × Gs} (h2 : clo hP b q1 = some q2) : ∀ {a : Nat} {s : Gs × Gs}, clo hP a s = some q1 → clo hP (a + b) s = some q2 := by
  intro a
  induction a with
  | zero => intro s h; injection h with h; rw [Nat.zero_add, h]; exact h2
  | succ a ih =>
    intro s h
    obtain ⟨x, y, z⟩ := bnd_some h
    rw [show a + 1 + b = (a + b) + 1 by omega]
    show bnd (pop1 hP s.1 s.2) (fun q => clo hP (a + b) q) = _
    rw [bnd_s y]; exact ih z
theorem clo_one {hP : Nat} {gr gc gr' gc' : Gs} (h : pop1 hP gr gc = some (gr', gc')) : clo hP 1 (gr, gc) = some (gr', gc') := by
  show bnd (pop1 hP gr gc) (fun q => some q) = _
  rw [bnd_s h]
/-- all pending signs are closed ahead of a token -/
theorem close_all {n hP r m h : Nat} {e : Bool} {gr gc : Gs} {q : Gs × Gs} (hn : 400 ≤ n) (hr : r ≤ 6) (h8 : gI gr 8 = nI (h + m)) (hh : h + m ≤ 300) (hf : ∀ i, h ≤ i → i < h + m → ∃ o, gIA gr 4 i = nI o ∧ o < 100 ∧ clsd o r e) (hc : clo hP m (gr, gc) = some q) (hb : 0 < h → ∃ o, gIA gr 4 (h - 1) = nI o ∧ o < 100 ∧ ¬ clsd o r e) : f_X5_closeParts n hP gr gc (nI r) (sgB e) = some q := close_many hr m n 0 h gr gc q h8 (by omega) (by omega) (by omega) hf hc hb
