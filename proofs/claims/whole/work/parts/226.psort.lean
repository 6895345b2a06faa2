/-! sorts: depths, stacks, what each side begins with -/
/-- entries from a on that are no jumps, k of them looked at -/
def cnU (E : Nat → Nat × Nat × Nat) (a : Nat) : Nat → Nat
  | 0 => 0
  | k + 1 => cnU E a k + (if 67 ≤ (E (a + k)).1 ∧ (E (a + k)).1 ≤ 70 then 0 else 1)
def ecn (E : Nat → Nat × Nat × Nat) (a b : Nat) : Nat := cnU E a (b - a)
theorem cnU_add (E : Nat → Nat × Nat × Nat) (a k : Nat) : ∀ l, cnU E a (k + l) = cnU E a k + cnU E (a + k) l
  | 0 => rfl
  | l + 1 => by
    show cnU E a (k + l) + _ = cnU E a k + (cnU E (a + k) l + _)
    rw [cnU_add E a k l, Nat.add_assoc a k l]
    show _ + _ = _ + _ 
    exact Nat.add_assoc _ _ _
theorem ecn_add {E : Nat → Nat × Nat × Nat} {a b c : Nat} (h1 : a ≤ b) (h2 : b ≤ c) : ecn E a c = ecn E a b + ecn E b c := by
  unfold ecn
  rw [show c - a = (b - a) + (c - b) by omega, cnU_add, show a + (b - a) = b by omega]
theorem ecn_one {E : Nat → Nat × Nat × Nat} {a : Nat} (h : ¬ (67 ≤ (E a).1 ∧ (E a).1 ≤ 70)) : ecn E a (a + 1) = 1 := by
  unfold ecn
  rw [show a + 1 - a = 0 + 1 by omega]
  show cnU E a 0 + (if 67 ≤ (E (a + 0)).1 ∧ (E (a + 0)).1 ≤ 70 then 0 else 1) = 1
  rw [Nat.add_zero, if_neg h]; rfl
/-- Eg with the rows that a part wants while it is settled -/
def EgD (E : Nat → Nat × Nat × Nat) : Nat → (Nat → Nat → Nat → Prop)
  | 0 => fun _ _ _ => False
  | m + 1 => fun j j' d =>
    (j' = j + 1 ∧ d = 1 ∧ ((E j).1 = 3 ∨ (E j).1 = 18 ∨ (E j).1 = 17 ∨ (E j).1 = 63 ∨ (E j).1 = 16)) ∨
    (∃ i, j' = i + 1 ∧ EgD E m j i d ∧ ((E i).1 = 64 ∨ (E i).1 = 65 ∨ (E i).1 = 54 ∨ (E i).1 = 66 ∨ (19 ≤ (E i).1 ∧ (E i).1 ≤ 22))) ∨
    (∃ i k d1 d2, j' = k + 1 ∧ d = max d1 (d2 + 1) ∧ EgD E m j i d1 ∧ EgD E m i k d2 ∧ opT (E k).1 ∧ ¬ (E k).1 ≤ 22) ∨
    (∃ (o : Bool) (i k d1 d2 : Nat), j' = k + 1 ∧ d = max d1 (d2 + 1) ∧ EgD E m j i d1 ∧ (E i).1 = (if o = true then 68 else 67) ∧ (E i).2.2 = k ∧ EgD E m (i + 1) k d2 ∧ (E k).1 = (if o = true then 62 else 61)) ∨
    (∃ i p k d1 d2 d3, j' = k + 1 ∧ d = max d1 (max (d2 + 1) (d3 + 2)) ∧ EgD E m j i d1 ∧ (E i).1 = 69 ∧ (E i).2.2 = p ∧ EgD E m (i + 1) p d2 ∧ (E p).1 = 70 ∧ (E p).2.2 = k ∧ EgD E m (p + 1) k d3 ∧ (E k).1 = 44 ∧ (E k).2.2 = p)
theorem Eg.deep {E : Nat → Nat × Nat × Nat} {m : Nat} : ∀ {j j' : Nat}, Eg E m j j' → ∃ d, EgD E m j j' d ∧ 1 ≤ d ∧ 3 * d ≤ 2 * ecn E j j' + 1 := by
  induction m with
  | zero => intro j j' h; exact h.elim
  | succ m ih =>
    intro j j' h
    rcases h with ⟨h1, h2⟩ | ⟨i, h1, h2, h3⟩ | ⟨i, k, h1, h2, h3, h4, h5⟩ | ⟨o, i, k, h1, h2, h3, h4, h5, h6⟩ | ⟨i, p, k, h1, h2, h3, h4, h5, h6, h7, h8, h9, h10⟩
    · refine ⟨1, .inl ⟨h1, rfl, h2⟩, by omega, ?_⟩
      rw [h1, ecn_one (by omega)]; omega
    · obtain ⟨d, a1, a2, a3⟩ := ih h2
      refine ⟨d, .inr (.inl ⟨i, h1, a1, h3⟩), a2, ?_⟩
      have := h2.lt
      rw [h1, ecn_add (b := i) (by omega) (by omega)]; omega
    · obtain ⟨d1, a1, a2, a3⟩ := ih h2
      obtain ⟨d2, b1, b2, b3⟩ := ih h3
      refine ⟨_, .inr (.inr (.inl ⟨i, k, d1, d2, h1, rfl, a1, b1, h4, h5⟩)), by omega, ?_⟩
      have := h2.lt; have := h3.lt
      rw [h1, ecn_add (b := k) (by omega) (by omega), ecn_add (b := i) (c := k) (by omega) (by omega), ecn_one (a := k) (by unfold opT at h4; omega)]; omega
    · obtain ⟨d1, a1, a2, a3⟩ := ih h2
      obtain ⟨d2, b1, b2, b3⟩ := ih h5
      refine ⟨_, .inr (.inr (.inr (.inl ⟨o, i, k, d1, d2, h1, rfl, a1, h3, h4, b1, h6⟩))), by omega, ?_⟩
      have := h2.lt; have := h5.lt
      rw [h1, ecn_add (b := k) (by omega) (by omega), ecn_add (b := i + 1) (c := k) (by omega) (by omega), ecn_add (b := i) (c := i + 1) (by omega) (by omega), ecn_one (a := k) (by rw [h6]; cases o <;> decide)]; omega
    · obtain ⟨d1, a1, a2, a3⟩ := ih h2
      obtain ⟨d2, b1, b2, b3⟩ := ih h5
      obtain ⟨d3, c1, c2, c3⟩ := ih h8
      refine ⟨_, .inr (.inr (.inr (.inr ⟨i, p, k, d1, d2, d3, h1, rfl, a1, h3, h4, b1, h6, h7, c1, h9, h10⟩))), by omega, ?_⟩
      have := h2.lt; have := h5.lt; have := h8.lt
      rw [h1, ecn_add (b := k) (by omega) (by omega), ecn_add (b := p + 1) (c := k) (by omega) (by omega), ecn_add (b := p) (c := p + 1) (by omega) (by omega), ecn_add (b := i + 1) (c := p) (by omega) (by omega), ecn_add (b := i) (c := i + 1) (by omega) (by omega), ecn_one (a := k) (by rw [h9]; decide)]; omega
/-- the sorts on both stacks -/
def St (g gT : Gs) (T : Nat) (X : Nat → Nat) : Prop := gI g 58 = nI T ∧ gI gT 1 = nI T ∧ ∀ q, q < T → X q ≤ 7 ∧ gIA g 57 q = nI (X q) ∧ gIA gT 0 q = nI (X q)
def giv (g : Gs) (T : Nat) (x : Int32) : Gs := sI (sIA (sI g 58 (nI T)) 57 (upd (gIA g 57) T x)) 58 (nI (T + 1))
def giT (gT : Gs) (T : Nat) (x : Int32) : Gs := sI (sIA gT 0 (upd (gIA gT 0) T x)) 1 (nI (T + 1))
def upX (X : Nat → Nat) (T t : Nat) : Nat → Nat := fun q => if q = T then t else X q
theorem giv_ok {g : Gs} {T k : Nat} {c x : Int32} (hc : c = nI k) (h : gI g 58 = nI (T + k)) (hT : T < 400) : f_X12_gives g c x = some (giv g T x) := by
  unfold f_X12_gives giv
  rw [h, hc, nI_sub (by omega), show T + k - k = T by omega, grd_t (inB_nI hT (by decide)), nI_clamp (by omega), nI_1]
theorem giT_ok {gT : Gs} {T : Nat} {x : Int32} (h : gI gT 1 = nI T) (hT : T < 400) : f_X8_give gT x = some (1, giT gT T x) := by
  unfold f_X8_give giT
  rw [h, if_pos (show nI T < (512 : Int32) from nI_lt (b := 512) (by omega) (by decide)), grd_t (inB_nI (by omega) (by decide)), nI_clamp (by omega), nI_1]
theorem giv_fr (g : Gs) (T : Nat) (x : Int32) : Fr [57, 58] g (giv g T x) := ((Fr.sI (by decide) _ _).trans (Fr.sIA (by decide) _ _)).trans (Fr.sI (by decide) _ _)
theorem giT_fr (g : Gs) (T : Nat) (x : Int32) : Fr [0, 1] g (giT g T x) := (Fr.sIA (by decide) _ _).trans (Fr.sI (by decide) _ _)
theorem St.put {g g1 gT gT1 : Gs} {T t k : Nat} {X : Nat → Nat} (h : St g gT (T + k) X) (h1 : gIA g1 57 = gIA g 57) (h2 : gIA gT1 0 = gIA gT 0) (ht : t ≤ 7) : St (giv g1 T (nI t)) (giT gT1 T (nI t)) (T + 1) (upX X T t) := by
  refine ⟨rfl, rfl, fun q hq => ?_⟩
  show upX X T t q ≤ 7 ∧ upd (gIA g1 57) T (nI t) q = nI (upX X T t q) ∧ upd (gIA gT1 0) T (nI t) q = nI (upX X T t q)
  unfold upX
  by_cases z : q = T
  · rw [if_pos z, z, pk_us, pk_us]; exact ⟨ht, rfl, rfl⟩
  · rw [if_neg z, pk_un z, pk_un z, h1, h2]; exact h.2.2 q (by omega)
/-- what the reference begins with -/
theorem so_start {g gT : Gs} {T r l : Nat} {X : Nat → Nat} {v : Int32} (h : St g gT T X) (hT : T ≤ 400) (hr : r = if T = 0 then 0 else X (T - 1)) (hl : l = if T ≤ 1 then 0 else X (T - 2)) : f_X12_sorted g v = b_X12_sorted_66 g v (nI r) (nI l) (if 1 ≤ r ∧ 1 ≤ l then 1 else 0) := by
  obtain ⟨h1, _, h3⟩ := h
  have r7 : r ≤ 7 := by
    rw [hr]; split
    · omega
    · exact (h3 (T - 1) (by omega)).1
  have l7 : l ≤ 7 := by
    rw [hl]; split
    · omega
    · exact (h3 (T - 2) (by omega)).1
  have e46 : b_X12_sorted_46 g v (nI r) (nI l) = b_X12_sorted_66 g v (nI r) (nI l) (if 1 ≤ r ∧ 1 ≤ l then 1 else 0) := by
    unfold b_X12_sorted_46 b_X12_sorted_65 f_X12_isNumber
    by_cases zr : r = 0
    · rw [zr, if_pos (show nI 0 = (0 : Int32) from rfl), bnd_s rfl, if_pos rfl, if_neg (by omega)]
    · rw [if_neg (show ¬ nI r = (0 : Int32) from fun z => zr ((nI_eq (b := 0) (by omega) (by decide)).mp z)), bnd_s rfl, if_neg (by decide)]
      by_cases zl : l = 0
      · rw [zl, if_pos (show nI 0 = (0 : Int32) from rfl), bnd_s rfl, if_pos rfl, if_neg (by omega)]
      · rw [if_neg (show ¬ nI l = (0 : Int32) from fun z => zl ((nI_eq (b := 0) (by omega) (by decide)).mp z)), bnd_s rfl, if_neg (by decide), if_pos (by omega)]
  rw [← e46]
  unfold f_X12_sorted b_X12_sorted_22
  rw [h1]
  by_cases t0 : T = 0
  · rw [if_pos t0] at hr
    rw [if_pos (by omega)] at hl
    rw [t0, if_pos (show nI 0 ≤ 0 by decide), if_pos (show nI 0 ≤ 1 by decide), hr, hl]; rfl
  · rw [if_neg t0] at hr
    rw [if_neg (show ¬ nI T ≤ (0 : Int32) from nI_ge (a := 0) (b := T) (by omega) (by omega)), show (1 : Int32) = nI 1 from rfl, nI_sub (by omega), grd_t (inB_nI (by omega) (by decide)), nI_clamp (by omega), (h3 (T - 1) (by omega)).2.1, ← hr]
    by_cases t1 : T ≤ 1
    · rw [if_pos t1] at hl
      rw [if_pos (nI_le t1 (by omega)), hl]; rfl
    · rw [if_neg t1] at hl
      rw [if_neg (nI_ge (a := 1) (b := T) (by omega) (by omega)), show (2 : Int32) = nI 2 from rfl, nI_sub (by omega), grd_t (inB_nI (by omega) (by decide)), nI_clamp (by omega), (h3 (T - 2) (by omega)).2.1, ← hl]
/-- the class's branches -/
theorem set_two {gT gP gc : Gs} {i o : Nat} (hi : i < 840) (h0 : gIA gc 0 i = nI o) (ho : o ∈ [23, 24, 25, 49, 50, 51, 52, 53, 55, 56, 57, 58, 59, 60, 61, 62]) : f_X8_settle gT gP gc (nI i) = b_X8_settle_379 gT gP gc (nI i) := by
  unfold f_X8_settle
  rw [grd_t (inB_nI hi (by decide)), nI_clamp (by omega), h0]
  simp only [List.mem_cons, List.mem_nil_iff, or_false] at ho
  rcases ho with rfl | rfl | rfl | rfl | rfl | rfl | rfl | rfl | rfl | rfl | rfl | rfl | rfl | rfl | rfl | rfl <;> rfl
theorem set_one {gT gP gc : Gs} {i o : Nat} (hi : i < 840) (h0 : gIA gc 0 i = nI o) (ho : o ∈ [19, 20, 21, 22, 54, 64, 65, 66]) : f_X8_settle gT gP gc (nI i) = b_X8_settle_333 gT gP gc (nI i) := by
  unfold f_X8_settle
  rw [grd_t (inB_nI hi (by decide)), nI_clamp (by omega), h0]
  simp only [List.mem_cons, List.mem_nil_iff, or_false] at ho
  rcases ho with rfl | rfl | rfl | rfl | rfl | rfl | rfl | rfl <;> rfl
theorem set_jump {gT gP gc : Gs} {i o : Nat} (hi : i < 840) (h0 : gIA gc 0 i = nI o) (ho : o ∈ [67, 68, 69, 70]) : f_X8_settle gT gP gc (nI i) = some (1, gT, gc) := by
  unfold f_X8_settle
  rw [grd_t (inB_nI hi (by decide)), nI_clamp (by omega), h0]
  simp only [List.mem_cons, List.mem_nil_iff, or_false] at ho
  rcases ho with rfl | rfl | rfl | rfl <;> rfl
