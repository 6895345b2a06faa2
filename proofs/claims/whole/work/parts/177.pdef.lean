/-! parsing: the words -/
/-- the class's scanner stands at token j of the reference -/
def TokAt (L : Nat) (B : Nat → Nat) (G gt : Gs) (j : Nat) (gsc : Gs) : Prop := ClsT gsc gt L B ∧ gI gsc 4 = nI (kc (tk G j)) ∧ gI gsc 5 = nI (ta G j) ∧ (tk G j ≠ 0 → tk G j ≠ 1 → gI gsc 3 = nI (te G j)) ∧ (tk G j = 2 → gI gsc 6 = nI (te G j - ta G j)) ∧ (tk G j = 3 → gI gsc 7 = nI (ts G j) ∧ VR (ts G j) (gLA G 12 j) (gL gsc 8) (gD gsc 9))
theorem TokAt.next {n : Nat} {g2 : Gs} {L T : Nat} {B : Nat → Nat} {G gt : Gs} {j : Nat} {gsc : Gs} (h : TokAt L B G gt j gsc) (hS : ScR n g2 L B G T) (hj : j + 1 < T) : ∃ g', f_X7_advance n gsc gt g2 = some g' ∧ TokAt L B G gt (j + 1) g' ∧ Fr [3, 4, 5, 6, 7, 8, 9, 10, 11] gsc g' := by
  obtain ⟨h1, h2, h3, h4, h5, h6⟩ := h
  obtain ⟨s1, s2, s3, s4, s5, s6⟩ := hS
  obtain ⟨t1, t2, t3, t4, _, t6⟩ := s4 (j + 1) hj
  rw [if_neg (by omega), Nat.add_sub_cancel] at t6
  obtain ⟨n0, n1⟩ := s5 j hj
  obtain ⟨g', x1, x2, x3, x4, x5, x6, x7⟩ := t6 gsc gt h1 (h4 n0 n1)
  exact ⟨g', x1, ⟨h1.fr x7 (by decide), x2, x3, x4, x5, x6⟩, x7⟩
theorem TokAt.first {n : Nat} {g2 : Gs} {L T : Nat} {B : Nat → Nat} {G gt : Gs} {gsc : Gs} (hS : ScR n g2 L B G T) (hc : ClsT gsc gt L B) (h3 : gI gsc 3 = 0) : ∃ g', f_X7_advance n gsc gt g2 = some g' ∧ TokAt L B G gt 0 g' ∧ Fr [3, 4, 5, 6, 7, 8, 9, 10, 11] gsc g' := by
  obtain ⟨s1, s2, s3, s4, s5, s6⟩ := hS
  obtain ⟨t1, t2, t3, t4, _, t6⟩ := s4 0 (by omega)
  rw [if_pos rfl] at t6
  obtain ⟨g', x1, x2, x3, x4, x5, x6, x7⟩ := t6 gsc gt hc h3
  exact ⟨g', x1, ⟨hc.fr x7 (by decide), x2, x3, x4, x5, x6⟩, x7⟩
theorem ScR.tok {n : Nat} {g2 : Gs} {L T : Nat} {B : Nat → Nat} {G : Gs} (hS : ScR n g2 L B G T) {j : Nat} (hj : j < T) : gIA G 9 j = nI (tk G j) ∧ gIA G 10 j = nI (ta G j) ∧ tk G j ∈ KS ∧ tk G j < 256 ∧ ta G j ≤ L := by
  obtain ⟨s1, s2, s3, s4, s5, s6⟩ := hS
  obtain ⟨t1, t2, t3, t4, t5, t6⟩ := s4 j hj
  exact ⟨t1, t2, t5.1, ks_lt t5.1, t5.2.2.1⟩
/-- the reference's op of the class's -/
def ro (o : Nat) : Nat := if o = 3 then 1 else if o = 18 then 2 else if o = 17 then 3 else if o = 63 then 4 else if o = 16 then 5 else if o = 64 then 6 else if o = 65 then 7 else if o = 54 then 8 else if o = 66 then 9 else if o ≤ 22 then 10 else if o ≤ 25 then 11 else if o = 67 then 13 else if o = 61 then 14 else if o = 68 then 15 else if o = 62 then 16 else if o = 69 then 17 else if o = 70 then 18 else if o = 44 then 19 else 12
/-- signs of two parts and functions: told by their token -/
def opT (o : Nat) : Prop := (19 ≤ o ∧ o ≤ 25) ∨ (49 ≤ o ∧ o ≤ 53) ∨ (55 ≤ o ∧ o ≤ 60)
def opN (o : Nat) : Prop := o = 63 ∨ o = 16 ∨ o = 64
def opJ (o : Nat) : Prop := 67 ≤ o ∧ o ≤ 70
/-- the reference holds entry q = (op, token of its place, what it speaks of) as its entry i -/
def RE (G g : Gs) (i : Nat) (q : Nat × Nat × Nat) : Prop :=
  gIA g 14 (2000 + i) = nI (ro q.1) ∧ gIA g 17 (2000 + i) = nI (ta G q.2.1) ∧
  (q.1 = 3 → (tk G q.2.1 = 3 ∧ gIA g 15 (2000 + i) = nI (ts G q.2.1) ∧ gLA g 18 (2000 + i) = gLA G 12 q.2.1) ∨ (tk G q.2.1 = 216 ∧ gIA g 15 (2000 + i) = 0 ∧ gLA g 18 (2000 + i) = 1) ∨ (tk G q.2.1 = 217 ∧ gIA g 15 (2000 + i) = 0 ∧ gLA g 18 (2000 + i) = 0)) ∧
  (opT q.1 → gIA g 15 (2000 + i) = nI (tk G q.2.1) ∧ kc (tk G q.2.1) = q.1 ∧ tk G q.2.1 ∈ KS) ∧ (q.1 = 66 → gIA g 15 (2000 + i) = nI q.2.2 ∧ q.2.2 ≤ 7) ∧
  (opJ q.1 → q.2.2 ≠ 9999 → gIA g 15 (2000 + i) = nI (2000 + q.2.2 + 1)) ∧ (q.1 = 44 → gIA g 15 (2000 + i) = nI (2000 + q.2.2))
/-- so does the class -/
def CE (G gc : Gs) (i : Nat) (q : Nat × Nat × Nat) : Prop :=
  gIA gc 0 i = nI q.1 ∧ gIA gc 1 i = nI (ta G q.2.1) ∧
  (q.1 = 3 → (tk G q.2.1 = 3 ∧ gIA gc 2 i = nI (ts G q.2.1) ∧ VR (ts G q.2.1) (gLA G 12 q.2.1) (gLA gc 6 i) (gDA gc 7 i) ∧ ts G q.2.1 ≤ 7 ∧ VI (ts G q.2.1) (gLA G 12 q.2.1)) ∨ (tk G q.2.1 = 216 ∧ gIA gc 2 i = 0 ∧ gLA gc 6 i = 1) ∨ (tk G q.2.1 = 217 ∧ gIA gc 2 i = 0 ∧ gLA gc 6 i = 0)) ∧
  (q.1 = 66 → gIA gc 2 i = nI q.2.2) ∧ (opN q.1 → gIA gc 5 i = nI (ta G q.2.2) ∧ gIA gc 3 i = nI (te G q.2.2 - ta G q.2.2) ∧ tk G q.2.2 = 2) ∧
  (opJ q.1 → q.2.2 ≠ 9999 → gIA gc 5 i = nI q.2.2) ∧ (q.1 = 44 → gIA gc 5 i = nI q.2.2)
/-- from j to j' lies a part -/
def Eg (E : Nat → Nat × Nat × Nat) : Nat → (Nat → Nat → Prop)
  | 0 => fun _ _ => False
  | m + 1 => fun j j' =>
    (j' = j + 1 ∧ ((E j).1 = 3 ∨ (E j).1 = 18 ∨ (E j).1 = 17 ∨ (E j).1 = 63 ∨ (E j).1 = 16)) ∨
    (∃ i, j' = i + 1 ∧ Eg E m j i ∧ ((E i).1 = 64 ∨ (E i).1 = 65 ∨ (E i).1 = 54 ∨ (E i).1 = 66 ∨ (19 ≤ (E i).1 ∧ (E i).1 ≤ 22))) ∨
    (∃ i k, j' = k + 1 ∧ Eg E m j i ∧ Eg E m i k ∧ opT (E k).1 ∧ ¬ (E k).1 ≤ 22) ∨
    (∃ (o : Bool) (i k : Nat), j' = k + 1 ∧ Eg E m j i ∧ (E i).1 = (if o = true then 68 else 67) ∧ (E i).2.2 = k ∧ Eg E m (i + 1) k ∧ (E k).1 = (if o = true then 62 else 61)) ∨
    (∃ i p k, j' = k + 1 ∧ Eg E m j i ∧ (E i).1 = 69 ∧ (E i).2.2 = p ∧ Eg E m (i + 1) p ∧ (E p).1 = 70 ∧ (E p).2.2 = k ∧ Eg E m (p + 1) k ∧ (E k).1 = 44 ∧ (E k).2.2 = p)
theorem Eg.lt {E : Nat → Nat × Nat × Nat} {m : Nat} : ∀ {j j' : Nat}, Eg E m j j' → j < j' := by
  induction m with
  | zero => intro j j' h; exact h.elim
  | succ m ih =>
    intro j j' h
    rcases h with ⟨h1, _⟩ | ⟨i, h1, h2, _⟩ | ⟨i, k, h1, h2, h3, _⟩ | ⟨o, i, k, h1, h2, _, _, h3, _⟩ | ⟨i, p, k, h1, h2, _, _, h3, _, _, h4, _⟩
    · omega
    · have := ih h2; omega
    · have := ih h2; have := ih h3; omega
    · have := ih h2; have := ih h3; omega
    · have := ih h2; have := ih h3; have := ih h4; omega
/-- only the entries from j to j' count -/
theorem Eg.ext {E E' : Nat → Nat × Nat × Nat} {m : Nat} : ∀ {j j' : Nat}, (∀ i, j ≤ i → i < j' → E' i = E i) → Eg E m j j' → Eg E' m j j' := by
  induction m with
  | zero => intro j j' _ h; exact h.elim
  | succ m ih =>
    intro j j' hE h
    rcases h with ⟨h1, h2⟩ | ⟨i, h1, h2, h3⟩ | ⟨i, k, h1, h2, h3, h4⟩ | ⟨o, i, k, h1, h2, h3, h4, h5, h6⟩ | ⟨i, p, k, h1, h2, h3, h4, h5, h6, h7, h8, h9, h10⟩
    · exact .inl ⟨h1, by rw [hE j (Nat.le_refl _) (by omega)]; exact h2⟩
    · have a := h2.lt
      exact .inr (.inl ⟨i, h1, ih (fun q q1 q2 => hE q q1 (by omega)) h2, by rw [hE i (by omega) (by omega)]; exact h3⟩)
    · have a := h2.lt; have b := h3.lt
      exact .inr (.inr (.inl ⟨i, k, h1, ih (fun q q1 q2 => hE q q1 (by omega)) h2, ih (fun q q1 q2 => hE q (by omega) (by omega)) h3, by rw [hE k (by omega) (by omega)]; exact h4⟩))
    · have a := h2.lt; have b := h5.lt
      exact .inr (.inr (.inr (.inl ⟨o, i, k, h1, ih (fun q q1 q2 => hE q q1 (by omega)) h2, by rw [hE i (by omega) (by omega)]; exact h3, by rw [hE i (by omega) (by omega)]; exact h4, ih (fun q q1 q2 => hE q (by omega) (by omega)) h5, by rw [hE k (by omega) (by omega)]; exact h6⟩)))
    · have a := h2.lt; have b := h5.lt; have c := h8.lt
      exact .inr (.inr (.inr (.inr ⟨i, p, k, h1, ih (fun q q1 q2 => hE q q1 (by omega)) h2, by rw [hE i (by omega) (by omega)]; exact h3, by rw [hE i (by omega) (by omega)]; exact h4, ih (fun q q1 q2 => hE q (by omega) (by omega)) h5, by rw [hE p (by omega) (by omega)]; exact h6, by rw [hE p (by omega) (by omega)]; exact h7, ih (fun q q1 q2 => hE q (by omega) (by omega)) h8, by rw [hE k (by omega) (by omega)]; exact h9, by rw [hE k (by omega) (by omega)]; exact h10⟩)))
theorem Eg.mono {E : Nat → Nat × Nat × Nat} {m m' : Nat} (hm : m ≤ m') : ∀ {j j' : Nat}, Eg E m j j' → Eg E m' j j' := by
  induction m generalizing m' with
  | zero => intro j j' h; exact h.elim
  | succ m ih =>
    intro j j' h
    obtain ⟨m', rfl⟩ : ∃ q, m' = q + 1 := ⟨m' - 1, by omega⟩
    have ih' : ∀ {j j' : Nat}, Eg E m j j' → Eg E m' j j' := ih (by omega)
    rcases h with h | ⟨i, h1, h2, h3⟩ | ⟨i, k, h1, h2, h3, h4⟩ | ⟨o, i, k, h1, h2, h3, h4, h5, h6⟩ | ⟨i, p, k, h1, h2, h3, h4, h5, h6, h7, h8, h9, h10⟩
    · exact .inl h
    · exact .inr (.inl ⟨i, h1, ih' h2, h3⟩)
    · exact .inr (.inr (.inl ⟨i, k, h1, ih' h2, ih' h3, h4⟩))
    · exact .inr (.inr (.inr (.inl ⟨o, i, k, h1, ih' h2, h3, h4, ih' h5, h6⟩)))
    · exact .inr (.inr (.inr (.inr ⟨i, p, k, h1, ih' h2, h3, h4, ih' h5, h6, h7, ih' h8, h9, h10⟩)))
/-- the slots that parsing changes in the reference -/
abbrev parA : List Nat := [14, 15, 16, 17, 18, 19, 20, 21, 22, 23, 24, 25, 27, 28, 29, 30, 31, 32]
/-! the reference's helpers -/
theorem cannot12 {g G : Gs} {n : Nat} {g2 : Gs} {L T : Nat} {B : Nat → Nat} {j : Nat} (hS : ScR n g2 L B G T) (hf : Fr parA G g) (h20 : gI g 20 = nI j) (hj : j < T) : f_X12_cannot g = some (0, sI (sI g 21 1) 22 (nI (ta G j))) := by
  have hT := hS.2.2.1
  unfold f_X12_cannot f_X12_fault
  rw [h20, grd_t (inB_nI (by omega) (by decide)), nI_clamp (by omega), (hf 10 (by decide)).2.2.2.1, (hS.tok hj).2.1]
  rfl
theorem need12 {g G : Gs} {n : Nat} {g2 : Gs} {L T : Nat} {B : Nat → Nat} {j K : Nat} (hS : ScR n g2 L B G T) (hf : Fr parA G g) (h20 : gI g 20 = nI j) (hj : j < T) (hK : K < 256) : f_X12_need g (nI K) = if tk G j = K then some (1, sI g 20 (nI (j + 1))) else some (0, sI (sI g 21 1) 22 (nI (ta G j))) := by
  have hT := hS.2.2.1
  obtain ⟨a1, a2, a3, a4, a5⟩ := hS.tok hj
  unfold f_X12_need
  rw [bnd_s (cannot12 hS hf h20 hj), h20, grd_t (inB_nI (by omega) (by decide)), nI_clamp (by omega), (hf 9 (by decide)).2.2.2.1, a1, nI_1]
  by_cases h : tk G j = K
  · rw [if_pos (by rw [h]), if_pos h]
  · rw [if_neg (fun z => h ((nI_eq (by omega) (by omega)).mp z)), if_neg h]; rfl
theorem deeper12 {g G : Gs} {n : Nat} {g2 : Gs} {L T : Nat} {B : Nat → Nat} {j d : Nat} (hS : ScR n g2 L B G T) (hf : Fr parA G g) (h20 : gI g 20 = nI j) (hj : j < T) (h25 : gI g 25 = nI d) (hd : d ≤ 40) : f_X12_deeper g = if d = 40 then some (0, sI (sI g 21 1) 22 (nI (ta G j))) else some (1, sI g 25 (nI (d + 1))) := by
  unfold f_X12_deeper
  rw [bnd_s (cannot12 hS hf h20 hj), h25, nI_1]
  by_cases h : d = 40
  · rw [if_pos (show nI d = (40 : Int32) by rw [h]; rfl), if_pos h]; rfl
  · rw [if_neg (show ¬ nI d = (40 : Int32) from fun z => h ((nI_eq (b := 40) (by omega) (by decide)).mp z)), if_neg h]
/-- nodes are counted, the 501st is too much -/
theorem node12 {g G : Gs} {n : Nat} {g2 : Gs} {L T : Nat} {B : Nat → Nat} {j N : Nat} (hS : ScR n g2 L B G T) (hf : Fr parA G g) (hj : j < T) (h24 : gI g 24 = nI N) (hN : N < 100000) : f_X12_node g (nI j) = some (if N = 500 ∧ gI g 23 < 0 then sI (sI g 24 (nI (N + 1))) 23 (nI (ta G j)) else sI g 24 (nI (N + 1))) := by
  have hT := hS.2.2.1
  unfold f_X12_node f_X12_much
  rw [h24, nI_1]
  by_cases h : N = 500
  · rw [if_pos (show nI (N + 1) = (501 : Int32) by rw [h]; rfl), grd_t (inB_nI (by omega) (by decide)), nI_clamp (by omega), (hf 10 (by decide)).2.2.2.1, (hS.tok hj).2.1]
    show bnd (if 0 ≤ gI g 23 then _ else _) _ = _
    by_cases h2 : gI g 23 < 0
    · rw [if_neg (Int32.not_le.mpr h2), if_pos ⟨h, h2⟩]; rfl
    · rw [if_pos (Int32.not_lt.mp h2), if_neg (fun z => h2 z.2)]; rfl
  · rw [if_neg (show ¬ nI (N + 1) = (501 : Int32) from fun z => by have := (nI_eq (b := 501) (by omega) (by decide)).mp z; omega), if_neg (fun z => h z.1)]
def actG (g : Gs) (A : Nat) (o a p : Int32) : Gs := sI (sIA (sIA (sIA (sIA g 14 (upd (gIA g 14) (2000 + A) o)) 15 (upd (gIA g 15) (2000 + A) a)) 16 (upd (gIA g 16) (2000 + A) 0)) 17 (upd (gIA g 17) (2000 + A) p)) 19 (nI (2000 + A + 1))
theorem act12 {g : Gs} {A : Nat} {o a p : Int32} (h19 : gI g 19 = nI (2000 + A)) (hA : A < 6000) : f_X12_act g o a p = some (nI (2000 + A), actG g A o a p) := by
  unfold f_X12_act actG
  rw [h19]
  simp only [grd_t (inB_nI (show 2000 + A < 8000 by omega) (by decide)), nI_clamp (show 2000 + A < 2 ^ 31 by omega), nI_1, nI_pred]
theorem actG_fr (g : Gs) (A : Nat) (o a p : Int32) : Fr [14, 15, 16, 17, 19] g (actG g A o a p) := ((((Fr.sIA (by decide) _ _).trans (Fr.sIA (by decide) _ _)).trans (Fr.sIA (by decide) _ _)).trans (Fr.sIA (by decide) _ _)).trans (Fr.sI (by decide) _ _)
/-- a row in the table of names -/
def nameG (g : Gs) (M : Nat) (s t a : Int32) : Gs := sI (sIA (sIA (sIA (sIA (sIA g 28 (upd (gIA g 28) M s)) 29 (upd (gIA g 29) M t)) 30 (upd (gIA g 30) M (if gI g 26 = 0 then 9999 else gI g 33 - 1))) 31 (upd (gIA g 31) M (if gI g 26 = 0 then 9999 else gI g 35))) 32 (upd (gIA g 32) M a)) 27 (nI (M + 1))
theorem name12 {g : Gs} {M : Nat} {s t a : Int32} (h27 : gI g 27 = nI M) (hM : M < 3001) : f_X12_name g s t a = some (nameG g M s t a) := by
  have i1 : inB (nI M) 3001 = true := inB_nI hM (by decide)
  have c1 : (nI M).toNatClampNeg = M := nI_clamp (by omega)
  unfold f_X12_name nameG
  rw [h27]
  simp only [grd_t i1, c1]
  by_cases h26 : gI g 26 = 0
  · rw [if_pos h26, if_pos h26, if_pos h26]
    unfold b_X12_name_47
    have e26 : gI (sIA (sIA g 28 (upd (gIA g 28) M s)) 29 (upd (gIA g 29) M t)) 26 = 0 := h26
    have e27 : gI (sIA (sIA g 28 (upd (gIA g 28) M s)) 29 (upd (gIA g 29) M t)) 27 = nI M := h27
    rw [e27, grd_t i1, if_pos e26, c1]
    unfold b_X12_name_73
    have e27' : ∀ f, gI (sIA (sIA (sIA g 28 (upd (gIA g 28) M s)) 29 (upd (gIA g 29) M t)) 30 f) 27 = nI M := fun _ => h27
    rw [e27', grd_t i1, grd_t i1, c1, nI_1]
    rfl
  · rw [if_neg h26, if_neg h26, if_neg h26]
    unfold b_X12_name_47
    have e26 : ¬ gI (sIA (sIA g 28 (upd (gIA g 28) M s)) 29 (upd (gIA g 29) M t)) 26 = 0 := h26
    have e27 : gI (sIA (sIA g 28 (upd (gIA g 28) M s)) 29 (upd (gIA g 29) M t)) 27 = nI M := h27
    rw [e27, grd_t i1, if_neg e26, c1]
    unfold b_X12_name_73
    have e27' : ∀ f, gI (sIA (sIA (sIA g 28 (upd (gIA g 28) M s)) 29 (upd (gIA g 29) M t)) 30 f) 27 = nI M := fun _ => h27
    rw [e27', grd_t i1, grd_t i1, c1, nI_1]
    rfl
theorem nameG_fr (g : Gs) (M : Nat) (s t a : Int32) : Fr [27, 28, 29, 30, 31, 32] g (nameG g M s t a) := (((((Fr.sIA (by decide) _ _).trans (Fr.sIA (by decide) _ _)).trans (Fr.sIA (by decide) _ _)).trans (Fr.sIA (by decide) _ _)).trans (Fr.sIA (by decide) _ _)).trans (Fr.sI (by decide) _ _)
