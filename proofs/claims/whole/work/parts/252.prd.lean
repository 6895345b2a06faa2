/-! the reference's reading alone: entries below 2000, nodes counted -/
abbrev jmp (o : Int32) : Prop := o = 13 ∨ o = 15 ∨ o = 17 ∨ o = 18
def Iq (g0 g : Gs) (p : Nat) : Prop := Lw g0 g ∧ gI g 21 = 0 ∧ ∃ A, A ≤ 6000 ∧ gI g 19 = nI (2000 + A) ∧ gI g 24 = nI (rcU g A + p)
def Qq (g0 : Gs) (p : Nat) (x : Option (Int32 × Gs)) : Prop := ∀ b g', x = some (b, g') → Lw g0 g' ∧ (b ≠ 0 → Iq g0 g' p)
def Sq (F : Gs → Option (Int32 × Gs)) : Prop := ∀ g0 p g, Iq g0 g p → Qq g0 p (F g)
def Ax (a : Int32) : Prop := ∃ A, a = nI (2000 + A) ∧ A < 6000
theorem rcU_same {g g' : Gs} : ∀ {A : Nat}, (∀ k, k < A → gIA g' 14 (2000 + k) = gIA g 14 (2000 + k)) → rcU g' A = rcU g A := by
  intro A
  induction A with
  | zero => intro _; rfl
  | succ A ih =>
    intro h
    unfold rcU
    rw [ih (fun k hk => h k (by omega)), h A (by omega)]
theorem Lw.fr {X : List Nat} {a g g' : Gs} (h : Lw a g) (hf : Fr X g g') (hX : 14 ∉ X ∧ 15 ∉ X ∧ 16 ∉ X ∧ 17 ∉ X ∧ 18 ∉ X) : Lw a g' := by
  unfold Lw at *
  rw [(hf 14 hX.1).2.2.2.1, (hf 15 hX.2.1).2.2.2.1, (hf 16 hX.2.2.1).2.2.2.1, (hf 17 hX.2.2.2.1).2.2.2.1, (hf 18 hX.2.2.2.2).2.2.2.2.1]
  exact h
theorem Iq.fr {X : List Nat} {g0 g g' : Gs} {p : Nat} (h : Iq g0 g p) (hf : Fr X g g') (hX : 14 ∉ X ∧ 15 ∉ X ∧ 16 ∉ X ∧ 17 ∉ X ∧ 18 ∉ X ∧ 19 ∉ X ∧ 21 ∉ X ∧ 24 ∉ X) : Iq g0 g' p := by
  obtain ⟨x1, x2, x3, x4, x5, x6, x7, x8⟩ := hX
  obtain ⟨h1, h2, A, h3, h4, h5⟩ := h
  exact ⟨h1.fr hf ⟨x1, x2, x3, x4, x5⟩, by rw [(hf 21 x7).1]; exact h2, A, h3, by rw [(hf 19 x6).1]; exact h4, (hf 24 x8).1.trans (h5.trans (congrArg (fun z => nI (z + p)) (rcU_same (fun k _ => by rw [(hf 14 x1).2.2.2.1])).symm))⟩
theorem Iq.vI {g0 g : Gs} {p k : Nat} {v : Int32} (hk : k ∉ [14, 15, 16, 17, 18, 19, 21, 24]) (h : Iq g0 g p) : Iq g0 (sI g k v) p := by
  have e : ∀ q, q ∈ [14, 15, 16, 17, 18, 19, 21, 24] → q ∉ [k] := fun q hq hz => hk (by rw [List.mem_singleton] at hz; rw [← hz]; exact hq)
  exact h.fr (Fr.sI (List.mem_singleton_self k) _ _) ⟨e _ (by decide), e _ (by decide), e _ (by decide), e _ (by decide), e _ (by decide), e _ (by decide), e _ (by decide), e _ (by decide)⟩
theorem Iq.vIA {g0 g : Gs} {p k : Nat} {v : Nat → Int32} (hk : k ∉ [14, 15, 16, 17, 18, 19, 21, 24]) (h : Iq g0 g p) : Iq g0 (sIA g k v) p := by
  have e : ∀ q, q ∈ [14, 15, 16, 17, 18, 19, 21, 24] → q ∉ [k] := fun q hq hz => hk (by rw [List.mem_singleton] at hz; rw [← hz]; exact hq)
  exact h.fr (Fr.sIA (List.mem_singleton_self k) _ _) ⟨e _ (by decide), e _ (by decide), e _ (by decide), e _ (by decide), e _ (by decide), e _ (by decide), e _ (by decide), e _ (by decide)⟩
theorem Iq.vLA {g0 g : Gs} {p k : Nat} {v : Nat → Int64} (hk : k ∉ [14, 15, 16, 17, 18, 19, 21, 24]) (h : Iq g0 g p) : Iq g0 (sLA g k v) p := by
  have e : ∀ q, q ∈ [14, 15, 16, 17, 18, 19, 21, 24] → q ∉ [k] := fun q hq hz => hk (by rw [List.mem_singleton] at hz; rw [← hz]; exact hq)
  exact h.fr (Fr.sLA (List.mem_singleton_self k) _ _) ⟨e _ (by decide), e _ (by decide), e _ (by decide), e _ (by decide), e _ (by decide), e _ (by decide), e _ (by decide), e _ (by decide)⟩
theorem Iq.s15 {g0 g : Gs} {p : Nat} {a v : Int32} (ha : Ax a) (h : Iq g0 g p) : Iq g0 (sIA g 15 (upd (gIA g 15) a.toNatClampNeg v)) p := by
  obtain ⟨A, rfl, hA⟩ := ha
  obtain ⟨h1, h2, A', h3, h4, h5⟩ := h
  rw [nI_clamp (by omega)]
  refine ⟨fun q hq => ?_, h2, A', h3, h4, ?_⟩
  · obtain ⟨y1, y2, y3, y4, y5⟩ := h1 q hq
    refine ⟨y1, ?_, y3, y4, y5⟩
    show upd (gIA g 15) (2000 + A) v q = _
    rw [pk_un (by omega)]; exact y2
  · exact h5.trans (congrArg (fun z => nI (z + p)) (rcU_same (g := g) (g' := sIA g 15 (upd (gIA g 15) (2000 + A) v)) (fun k _ => rfl)).symm)
theorem Iq.s18 {g0 g : Gs} {p : Nat} {a : Int32} {v : Int64} (ha : Ax a) (h : Iq g0 g p) : Iq g0 (sLA g 18 (vp_updL (gLA g 18) a.toNatClampNeg v)) p := by
  obtain ⟨A, rfl, hA⟩ := ha
  obtain ⟨h1, h2, A', h3, h4, h5⟩ := h
  rw [nI_clamp (by omega)]
  refine ⟨fun q hq => ?_, h2, A', h3, h4, ?_⟩
  · obtain ⟨y1, y2, y3, y4, y5⟩ := h1 q hq
    refine ⟨y1, y2, y3, y4, ?_⟩
    show vp_updL (gLA g 18) (2000 + A) v q = _
    rw [pk_uLn (by omega)]; exact y5
  · exact h5.trans (congrArg (fun z => nI (z + p)) (rcU_same (g := g) (g' := sLA g 18 (vp_updL (gLA g 18) (2000 + A) v)) (fun k _ => rfl)).symm)
theorem Qq.ret {g0 g : Gs} {p : Nat} {b : Int32} (h : Iq g0 g p) : Qq g0 p (some (b, g)) := by
  intro b' g' e
  have e := Option.some.inj e
  cases e
  exact ⟨h.1, fun _ => h⟩
theorem Qq.non {g0 : Gs} {p : Nat} : Qq g0 p none := by
  intro b g' e; cases e
theorem Qq.gd {g0 : Gs} {p : Nat} {c : Bool} {x : Option (Int32 × Gs)} (h : Qq g0 p x) : Qq g0 p (grd c x) := fun b g' e => h b g' (grd_some e).2
theorem Qq.ite {g0 : Gs} {p : Nat} {c : Prop} [Decidable c] {x y : Option (Int32 × Gs)} (h : Qq g0 p x) (h' : Qq g0 p y) : Qq g0 p (if c then x else y) := by
  by_cases z : c
  · rw [if_pos z]; exact h
  · rw [if_neg z]; exact h'
theorem Qq.any {α : Type} {g0 : Gs} {p : Nat} {x : Option α} {K : α → Option (Int32 × Gs)} (h : ∀ q, x = some q → Qq g0 p (K q)) : Qq g0 p (bnd x K) := by
  intro b g' e
  obtain ⟨q, e1, e2⟩ := bnd_some e
  exact h q e1 b g' e2
theorem Qq.go {F : Gs → Option (Int32 × Gs)} {g0 g : Gs} {p : Nat} (hF : Sq F) (h : Iq g0 g p) : Qq g0 p (F g) := hF g0 p g h
theorem Qq.call {F : Gs → Option (Int32 × Gs)} {K : Int32 × Gs → Option (Int32 × Gs)} {g0 g : Gs} {p p' : Nat} (hF : Sq F) (h : Iq g0 g p) (hK : ∀ b g', Iq g0 g' p → Qq g0 p' (K (b, g'))) : Qq g0 p' (bnd (F g) (fun q => if q.1 = 0 then some ((0 : Int32), q.2) else K q)) := by
  intro b g' e
  obtain ⟨⟨b1, g1⟩, e1, e2⟩ := bnd_some e
  obtain ⟨l, i⟩ := hF g0 p g h b1 g1 e1
  by_cases z : b1 = 0
  · have e2 : (if b1 = 0 then some ((0 : Int32), g1) else K (b1, g1)) = some (b, g') := e2
    rw [if_pos z] at e2
    have e2 := Option.some.inj e2
    cases e2
    exact ⟨l, fun z => absurd rfl z⟩
  · have e2 : (if b1 = 0 then some ((0 : Int32), g1) else K (b1, g1)) = some (b, g') := e2
    rw [if_neg z] at e2
    exact hK b1 g1 (i z) b g' e2
theorem Qq.tail {F : Gs → Option (Int32 × Gs)} {g0 g : Gs} {p : Nat} (hF : Sq F) (h : Iq g0 g p) : Qq g0 p (bnd (F g) (fun q => grd (zB q.1) (some (q.1, q.2)))) := by
  intro b g' e
  obtain ⟨⟨b1, g1⟩, e1, e2⟩ := bnd_some e
  have e2 := Option.some.inj (grd_some e2).2
  cases e2
  exact hF g0 p g h _ _ e1
theorem Qq.act {K : Int32 × Gs → Option (Int32 × Gs)} {g0 g : Gs} {p p' : Nat} {o x y : Int32} (ho : ¬ jmp o) (h : Iq g0 g (p + 1)) (hK : ∀ a g', Ax a → Iq g0 g' p → Qq g0 p' (K (a, g'))) : Qq g0 p' (bnd (f_X12_act g o x y) K) := by
  intro b g' e
  obtain ⟨⟨a, g1⟩, e1, e2⟩ := bnd_some e
  obtain ⟨h1, h2, A, h3, h4, h5⟩ := h
  unfold f_X12_act at e1
  obtain ⟨i1, e1⟩ := grd_some e1
  have e1 := Option.some.inj (grd_some (grd_some (grd_some e1).2).2).2
  have hA : A < 6000 := by
    rw [h4] at i1
    have i1 := of_decide_eq_true i1
    rw [nI_clamp (by omega)] at i1
    omega
  rw [h4, nI_clamp (by omega), nI_1] at e1
  have ea : nI (2000 + A + 1) - 1 = a := (Prod.mk.inj e1).1
  have eg := (Prod.mk.inj e1).2
  have x14 : gIA g1 14 = upd (gIA g 14) (2000 + A) o := by rw [← eg]; rfl
  have x15 : gIA g1 15 = upd (gIA g 15) (2000 + A) x := by rw [← eg]; rfl
  have x16 : gIA g1 16 = upd (gIA g 16) (2000 + A) 0 := by rw [← eg]; rfl
  have x17 : gIA g1 17 = upd (gIA g 17) (2000 + A) y := by rw [← eg]; rfl
  have x18 : gLA g1 18 = gLA g 18 := by rw [← eg]; rfl
  have x19 : gI g1 19 = nI (2000 + A + 1) := by rw [← eg]; rfl
  have x21 : gI g1 21 = gI g 21 := by rw [← eg]; rfl
  have x24 : gI g1 24 = gI g 24 := by rw [← eg]; rfl
  have ea' : a = nI (2000 + A) := by
    rw [← ea]
    exact (nI_sub (a := 2000 + A + 1) (b := 1) (by omega)).trans (by rw [show 2000 + A + 1 - 1 = 2000 + A by omega])
  refine hK a g1 ⟨A, ea', hA⟩ ⟨fun q hq => ?_, x21.trans h2, A + 1, by omega, x19, ?_⟩ b g' e2
  · obtain ⟨y1, y2, y3, y4, y5⟩ := h1 q hq
    rw [x14, x15, x16, x17, x18, pk_un (by omega), pk_un (by omega), pk_un (by omega), pk_un (by omega)]
    exact ⟨y1, y2, y3, y4, y5⟩
  · have er : rcU g1 A = rcU g A := rcU_same (fun k hk => by rw [x14, pk_un (by omega)])
    have es : rcU g1 (A + 1) = rcU g A + 1 := by
      show rcU g1 A + (if jmp (gIA g1 14 (2000 + A)) then 0 else 1) = _
      rw [er, x14, pk_us, if_neg ho]
    rw [x24, h5, es]
    exact congrArg nI (by omega)
theorem Qq.actj {K : Int32 × Gs → Option (Int32 × Gs)} {g0 g : Gs} {p p' : Nat} {o x y : Int32} (ho : jmp o) (h : Iq g0 g p) (hK : ∀ a g', Ax a → Iq g0 g' p → Qq g0 p' (K (a, g'))) : Qq g0 p' (bnd (f_X12_act g o x y) K) := by
  intro b g' e
  obtain ⟨⟨a, g1⟩, e1, e2⟩ := bnd_some e
  obtain ⟨h1, h2, A, h3, h4, h5⟩ := h
  unfold f_X12_act at e1
  obtain ⟨i1, e1⟩ := grd_some e1
  have e1 := Option.some.inj (grd_some (grd_some (grd_some e1).2).2).2
  have hA : A < 6000 := by
    rw [h4] at i1
    have i1 := of_decide_eq_true i1
    rw [nI_clamp (by omega)] at i1
    omega
  rw [h4, nI_clamp (by omega), nI_1] at e1
  have ea : nI (2000 + A + 1) - 1 = a := (Prod.mk.inj e1).1
  have eg := (Prod.mk.inj e1).2
  have x14 : gIA g1 14 = upd (gIA g 14) (2000 + A) o := by rw [← eg]; rfl
  have x15 : gIA g1 15 = upd (gIA g 15) (2000 + A) x := by rw [← eg]; rfl
  have x16 : gIA g1 16 = upd (gIA g 16) (2000 + A) 0 := by rw [← eg]; rfl
  have x17 : gIA g1 17 = upd (gIA g 17) (2000 + A) y := by rw [← eg]; rfl
  have x18 : gLA g1 18 = gLA g 18 := by rw [← eg]; rfl
  have x19 : gI g1 19 = nI (2000 + A + 1) := by rw [← eg]; rfl
  have x21 : gI g1 21 = gI g 21 := by rw [← eg]; rfl
  have x24 : gI g1 24 = gI g 24 := by rw [← eg]; rfl
  have ea' : a = nI (2000 + A) := by
    rw [← ea]
    exact (nI_sub (a := 2000 + A + 1) (b := 1) (by omega)).trans (by rw [show 2000 + A + 1 - 1 = 2000 + A by omega])
  refine hK a g1 ⟨A, ea', hA⟩ ⟨fun q hq => ?_, x21.trans h2, A + 1, by omega, x19, ?_⟩ b g' e2
  · obtain ⟨y1, y2, y3, y4, y5⟩ := h1 q hq
    rw [x14, x15, x16, x17, x18, pk_un (by omega), pk_un (by omega), pk_un (by omega), pk_un (by omega)]
    exact ⟨y1, y2, y3, y4, y5⟩
  · have er : rcU g1 A = rcU g A := rcU_same (fun k hk => by rw [x14, pk_un (by omega)])
    have es : rcU g1 (A + 1) = rcU g A + 0 := by
      show rcU g1 A + (if jmp (gIA g1 14 (2000 + A)) then 0 else 1) = _
      rw [er, x14, pk_us, if_pos ho]
    rw [x24, h5, es]
    exact congrArg nI (by omega)
theorem Qq.much {K : Gs → Option (Int32 × Gs)} {g0 g : Gs} {p p' : Nat} {x : Int32} (h : Iq g0 g p) (hK : ∀ g', Iq g0 g' p → Qq g0 p' (K g')) : Qq g0 p' (bnd (f_X12_much g x) K) := by
  refine Qq.any fun q e => hK q ?_
  unfold f_X12_much at e
  by_cases c : (0 : Int32) ≤ gI g 23
  · rw [if_pos c] at e; cases e; exact h
  · rw [if_neg c] at e; cases e; exact h.vI (by decide)
theorem Qq.node {K : Gs → Option (Int32 × Gs)} {g0 g : Gs} {p p' : Nat} {x : Int32} (h : Iq g0 g p) (hK : ∀ g', Iq g0 g' (p + 1) → Qq g0 p' (K g')) : Qq g0 p' (bnd (f_X12_node g x) K) := by
  have h' : Iq g0 (sI g 24 (gI g 24 + 1)) (p + 1) := by
    obtain ⟨h1, h2, A, h3, h4, h5⟩ := h
    refine ⟨h1, h2, A, h3, h4, ?_⟩
    show gI g 24 + 1 = _
    rw [h5, nI_1]
    exact congrArg (fun z => nI (z + (p + 1))) (rcU_same (A := A) (g := g) (g' := sI g 24 (nI (rcU g A + p + 1))) (fun k _ => rfl)).symm
  refine Qq.any fun q e => hK q ?_
  unfold f_X12_node at e
  by_cases c : gI g 24 + 1 = (501 : Int32)
  · rw [if_pos c] at e
    obtain ⟨q1, e1, e2⟩ := bnd_some (grd_some e).2
    cases e2
    unfold f_X12_much at e1
    by_cases c : (0 : Int32) ≤ gI (sI g 24 (gI g 24 + 1)) 23
    · rw [if_pos c] at e1; cases e1; exact h'
    · rw [if_neg c] at e1; cases e1; exact h'.vI (by decide)
  · rw [if_neg c] at e; cases e; exact h'
theorem Qq.name {K : Gs → Option (Int32 × Gs)} {g0 g : Gs} {p p' : Nat} {x y z : Int32} (h : Iq g0 g p) (hK : ∀ g', Iq g0 g' p → Qq g0 p' (K g')) : Qq g0 p' (bnd (f_X12_name g x y z) K) := by
  refine Qq.any fun q e => hK q ?_
  have key : ∀ (g1 : Gs) (a b c : Int32), Iq g0 g1 p → b_X12_name_47 g1 a b c = some q → Iq g0 q p := by
    intro g1 a b c h1 e
    unfold b_X12_name_47 b_X12_name_73 at e
    have e := (grd_some e).2
    by_cases c : gI g1 26 = 0
    · rw [if_pos c] at e
      have e := (grd_some (grd_some e).2).2
      cases e
      exact (((h1.vIA (by decide)).vIA (by decide)).vIA (by decide)).vI (by decide)
    · rw [if_neg c] at e
      have e := (grd_some (grd_some e).2).2
      cases e
      exact (((h1.vIA (by decide)).vIA (by decide)).vIA (by decide)).vI (by decide)
  unfold f_X12_name at e
  have e := (grd_some (grd_some e).2).2
  by_cases c : gI g 26 = 0
  · rw [if_pos c] at e
    exact key _ _ _ _ ((h.vIA (by decide)).vIA (by decide)) e
  · rw [if_neg c] at e
    exact key _ _ _ _ ((h.vIA (by decide)).vIA (by decide)) e
theorem sq_fault (x y : Int32) : Sq (fun g => f_X12_fault g x y) := by
  intro g0 p g h b g' e
  have e := Option.some.inj e
  cases e
  exact ⟨h.1.fr (X := [21, 22]) ((Fr.sI (by decide) _ _).trans (Fr.sI (by decide) _ _)) (by decide), fun z => absurd rfl z⟩
theorem sq_cannot : Sq f_X12_cannot := by
  intro g0 p g h
  unfold f_X12_cannot
  exact Qq.gd (Qq.tail (sq_fault _ _) h)
theorem sq_need (x : Int32) : Sq (fun g => f_X12_need g x) := by
  intro g0 p g h
  show Qq g0 p (f_X12_need g x)
  unfold f_X12_need
  exact Qq.gd (Qq.ite (Qq.ret (h.vI (by decide))) (Qq.tail sq_cannot h))
theorem sq_deeper : Sq f_X12_deeper := by
  intro g0 p g h
  unfold f_X12_deeper
  exact Qq.ite (Qq.tail sq_cannot h) (Qq.ret (h.vI (by decide)))
def Sz (F : Gs → Option (Int32 × Gs)) : Prop := ∀ g0 p g, Iq g0 g p → ∀ b g', F g = some (b, g') → Lw g0 g' ∧ b = 0
theorem Qq.bad {F : Gs → Option (Int32 × Gs)} {g0 g : Gs} {p p' : Nat} (hF : Sz F) (h : Iq g0 g p) : Qq g0 p' (bnd (F g) (fun q => grd (zB q.1) (some (q.1, q.2)))) := by
  intro b g' e
  obtain ⟨⟨b1, g1⟩, e1, e2⟩ := bnd_some e
  have e2 := Option.some.inj (grd_some e2).2
  cases e2
  obtain ⟨l, z⟩ := hF g0 p g h _ _ e1
  exact ⟨l, fun y => absurd z y⟩
theorem sz_fault (x y : Int32) : Sz (fun g => f_X12_fault g x y) := by
  intro g0 p g h b g' e
  have e := Option.some.inj e
  cases e
  exact ⟨h.1.fr (X := [21, 22]) ((Fr.sI (by decide) _ _).trans (Fr.sI (by decide) _ _)) (by decide), rfl⟩
theorem sz_cannot : Sz f_X12_cannot := by
  intro g0 p g h b g' e
  unfold f_X12_cannot at e
  obtain ⟨⟨b1, g1⟩, e1, e2⟩ := bnd_some (grd_some e).2
  have e2 := Option.some.inj (grd_some e2).2
  cases e2
  exact sz_fault _ _ g0 p g h _ _ e1
def RCs (rc : RCT) : Prop := Sq rc.1 ∧ Sq rc.2.1 ∧ Sq rc.2.2.1 ∧ Sq rc.2.2.2.1 ∧ Sq rc.2.2.2.2.1 ∧ Sq rc.2.2.2.2.2.1 ∧ Sq rc.2.2.2.2.2.2.1 ∧ (∀ x, Sq (fun g => rc.2.2.2.2.2.2.2.1 g x)) ∧ Sq rc.2.2.2.2.2.2.2.2
theorem sq_named (n : Nat) (rc : RCT) (H : RCs rc) : Sq (f_X12_named n rc) := by
  obtain ⟨h1, h2, h3, h4, h5, h6, h7, h8, h9⟩ := H
  intro g0 p g h
  unfold f_X12_named
  repeat' (first
    | with_reducible assumption
    | (with_reducible apply Iq.vI; decide)
    | (with_reducible apply Iq.vIA; decide)
    | (with_reducible apply Iq.vLA; decide)
    | with_reducible apply Iq.s15
    | with_reducible apply Iq.s18
    | with_reducible refine Qq.gd ?_
    | with_reducible refine Qq.ite ?_ ?_
    | with_reducible apply Qq.node
    | with_reducible apply Qq.name
    | with_reducible apply Qq.much
    | (with_reducible apply Qq.act; decide)
    | (with_reducible apply Qq.actj; decide)
    | with_reducible refine Qq.ret ?_
    | with_reducible apply Qq.call h9
    | with_reducible refine Qq.tail h9 ?_
    | with_reducible refine Qq.go h9 ?_
    | with_reducible apply Qq.call (sq_need _)
    | with_reducible apply Qq.call sq_deeper
    | with_reducible refine Qq.tail (sq_need _) ?_
    | with_reducible apply Qq.bad sz_cannot
    | with_reducible apply Qq.bad (sz_fault _ _)
    | (with_reducible refine Qq.any (x := f_X12_isSort _) ?_; intro _ _)
    | with_reducible intro _)
theorem sq_primary (n : Nat) (rc : RCT) (H : RCs rc) : Sq (f_X12_primary n rc) := by
  obtain ⟨h1, h2, h3, h4, h5, h6, h7, h8, h9⟩ := H
  intro g0 p g h
  unfold f_X12_primary b_X12_primary_489 b_X12_primary_514 b_X12_primary_394 b_X12_primary_191 b_X12_primary_212 b_X12_primary_89 b_X12_primary_117 b_X12_primary_164
  repeat' (first
    | with_reducible assumption
    | (with_reducible apply Iq.vI; decide)
    | (with_reducible apply Iq.vIA; decide)
    | (with_reducible apply Iq.vLA; decide)
    | with_reducible apply Iq.s15
    | with_reducible apply Iq.s18
    | with_reducible refine Qq.gd ?_
    | with_reducible refine Qq.ite ?_ ?_
    | with_reducible apply Qq.node
    | with_reducible apply Qq.name
    | with_reducible apply Qq.much
    | (with_reducible apply Qq.act; decide)
    | (with_reducible apply Qq.actj; decide)
    | with_reducible refine Qq.ret ?_
    | with_reducible apply Qq.call h9
    | with_reducible apply Qq.call h1
    | with_reducible refine Qq.tail h9 ?_
    | with_reducible refine Qq.tail h1 ?_
    | with_reducible refine Qq.go h9 ?_
    | with_reducible refine Qq.go h1 ?_
    | with_reducible apply Qq.call (sq_need _)
    | with_reducible apply Qq.call sq_deeper
    | with_reducible refine Qq.tail (sq_need _) ?_
    | with_reducible apply Qq.bad sz_cannot
    | with_reducible apply Qq.bad (sz_fault _ _)
    | (with_reducible refine Qq.any (x := f_X12_isSort _) ?_; intro _ _)
    | with_reducible intro _)
theorem sq_single (n : Nat) (rc : RCT) (H : RCs rc) : Sq (f_X12_single n rc) := by
  obtain ⟨h1, h2, h3, h4, h5, h6, h7, h8, h9⟩ := H
  intro g0 p g h
  unfold f_X12_single b_X12_single_42 b_X12_single_43 b_X12_single_65 b_X12_single_132 b_X12_single_174 b_X12_single_184
  repeat' (first
    | with_reducible assumption
    | (with_reducible apply Iq.vI; decide)
    | (with_reducible apply Iq.vIA; decide)
    | (with_reducible apply Iq.vLA; decide)
    | with_reducible apply Iq.s15
    | with_reducible apply Iq.s18
    | with_reducible refine Qq.gd ?_
    | with_reducible refine Qq.ite ?_ ?_
    | with_reducible apply Qq.node
    | with_reducible apply Qq.name
    | with_reducible apply Qq.much
    | (with_reducible apply Qq.act; decide)
    | (with_reducible apply Qq.actj; decide)
    | with_reducible refine Qq.ret ?_
    | with_reducible apply Qq.call h3
    | with_reducible apply Qq.call h2
    | with_reducible refine Qq.tail h3 ?_
    | with_reducible refine Qq.tail h2 ?_
    | with_reducible refine Qq.go h3 ?_
    | with_reducible refine Qq.go h2 ?_
    | with_reducible apply Qq.call (sq_need _)
    | with_reducible apply Qq.call sq_deeper
    | with_reducible refine Qq.tail (sq_need _) ?_
    | with_reducible apply Qq.bad sz_cannot
    | with_reducible apply Qq.bad (sz_fault _ _)
    | (with_reducible refine Qq.any (x := f_X12_isSort _) ?_; intro _ _)
    | with_reducible intro _)
theorem sq_Lproduct (n : Nat) (rc : RCT) (H : RCs rc) : ∀ k, Sq (L_X12_product n rc k) := by
  intro k
  obtain ⟨h1, h2, h3, h4, h5, h6, h7, h8, h9⟩ := H
  induction k with
  | zero => intro g0 p g h; exact Qq.non
  | succ k ih =>
  intro g0 p g h
  show Qq g0 p (h_X12_product_9 n rc (L_X12_product n rc k) g)
  unfold h_X12_product_9 b_X12_product_51
  repeat' (first
    | with_reducible assumption
    | (with_reducible apply Iq.vI; decide)
    | (with_reducible apply Iq.vIA; decide)
    | (with_reducible apply Iq.vLA; decide)
    | with_reducible apply Iq.s15
    | with_reducible apply Iq.s18
    | with_reducible refine Qq.gd ?_
    | with_reducible refine Qq.ite ?_ ?_
    | with_reducible apply Qq.node
    | with_reducible apply Qq.name
    | with_reducible apply Qq.much
    | (with_reducible apply Qq.act; decide)
    | (with_reducible apply Qq.actj; decide)
    | with_reducible refine Qq.ret ?_
    | with_reducible apply Qq.call h3
    | with_reducible apply Qq.call ih
    | with_reducible refine Qq.tail h3 ?_
    | with_reducible refine Qq.tail ih ?_
    | with_reducible refine Qq.go h3 ?_
    | with_reducible refine Qq.go ih ?_
    | with_reducible apply Qq.call (sq_need _)
    | with_reducible apply Qq.call sq_deeper
    | with_reducible refine Qq.tail (sq_need _) ?_
    | with_reducible apply Qq.bad sz_cannot
    | with_reducible apply Qq.bad (sz_fault _ _)
    | (with_reducible refine Qq.any (x := f_X12_isSort _) ?_; intro _ _)
    | with_reducible intro _)
theorem sq_product (n : Nat) (rc : RCT) (H : RCs rc) : Sq (f_X12_product n rc) := by
  have hl := sq_Lproduct n rc H n
  obtain ⟨h1, h2, h3, h4, h5, h6, h7, h8, h9⟩ := H
  intro g0 p g h
  unfold f_X12_product
  repeat' (first
    | with_reducible assumption
    | (with_reducible apply Iq.vI; decide)
    | (with_reducible apply Iq.vIA; decide)
    | (with_reducible apply Iq.vLA; decide)
    | with_reducible apply Iq.s15
    | with_reducible apply Iq.s18
    | with_reducible refine Qq.gd ?_
    | with_reducible refine Qq.ite ?_ ?_
    | with_reducible apply Qq.node
    | with_reducible apply Qq.name
    | with_reducible apply Qq.much
    | (with_reducible apply Qq.act; decide)
    | (with_reducible apply Qq.actj; decide)
    | with_reducible refine Qq.ret ?_
    | with_reducible apply Qq.call h3
    | with_reducible apply Qq.call hl
    | with_reducible refine Qq.tail h3 ?_
    | with_reducible refine Qq.tail hl ?_
    | with_reducible refine Qq.go h3 ?_
    | with_reducible refine Qq.go hl ?_
    | with_reducible apply Qq.call (sq_need _)
    | with_reducible apply Qq.call sq_deeper
    | with_reducible refine Qq.tail (sq_need _) ?_
    | with_reducible apply Qq.bad sz_cannot
    | with_reducible apply Qq.bad (sz_fault _ _)
    | (with_reducible refine Qq.any (x := f_X12_isSort _) ?_; intro _ _)
    | with_reducible intro _)
theorem sq_Lsum (n : Nat) (rc : RCT) (H : RCs rc) : ∀ k, Sq (L_X12_sum n rc k) := by
  intro k
  obtain ⟨h1, h2, h3, h4, h5, h6, h7, h8, h9⟩ := H
  induction k with
  | zero => intro g0 p g h; exact Qq.non
  | succ k ih =>
  intro g0 p g h
  show Qq g0 p (h_X12_sum_9 n rc (L_X12_sum n rc k) g)
  unfold h_X12_sum_9 b_X12_sum_37
  repeat' (first
    | with_reducible assumption
    | (with_reducible apply Iq.vI; decide)
    | (with_reducible apply Iq.vIA; decide)
    | (with_reducible apply Iq.vLA; decide)
    | with_reducible apply Iq.s15
    | with_reducible apply Iq.s18
    | with_reducible refine Qq.gd ?_
    | with_reducible refine Qq.ite ?_ ?_
    | with_reducible apply Qq.node
    | with_reducible apply Qq.name
    | with_reducible apply Qq.much
    | (with_reducible apply Qq.act; decide)
    | (with_reducible apply Qq.actj; decide)
    | with_reducible refine Qq.ret ?_
    | with_reducible apply Qq.call h4
    | with_reducible apply Qq.call ih
    | with_reducible refine Qq.tail h4 ?_
    | with_reducible refine Qq.tail ih ?_
    | with_reducible refine Qq.go h4 ?_
    | with_reducible refine Qq.go ih ?_
    | with_reducible apply Qq.call (sq_need _)
    | with_reducible apply Qq.call sq_deeper
    | with_reducible refine Qq.tail (sq_need _) ?_
    | with_reducible apply Qq.bad sz_cannot
    | with_reducible apply Qq.bad (sz_fault _ _)
    | (with_reducible refine Qq.any (x := f_X12_isSort _) ?_; intro _ _)
    | with_reducible intro _)
theorem sq_sum (n : Nat) (rc : RCT) (H : RCs rc) : Sq (f_X12_sum n rc) := by
  have hl := sq_Lsum n rc H n
  obtain ⟨h1, h2, h3, h4, h5, h6, h7, h8, h9⟩ := H
  intro g0 p g h
  unfold f_X12_sum
  repeat' (first
    | with_reducible assumption
    | (with_reducible apply Iq.vI; decide)
    | (with_reducible apply Iq.vIA; decide)
    | (with_reducible apply Iq.vLA; decide)
    | with_reducible apply Iq.s15
    | with_reducible apply Iq.s18
    | with_reducible refine Qq.gd ?_
    | with_reducible refine Qq.ite ?_ ?_
    | with_reducible apply Qq.node
    | with_reducible apply Qq.name
    | with_reducible apply Qq.much
    | (with_reducible apply Qq.act; decide)
    | (with_reducible apply Qq.actj; decide)
    | with_reducible refine Qq.ret ?_
    | with_reducible apply Qq.call h4
    | with_reducible apply Qq.call hl
    | with_reducible refine Qq.tail h4 ?_
    | with_reducible refine Qq.tail hl ?_
    | with_reducible refine Qq.go h4 ?_
    | with_reducible refine Qq.go hl ?_
    | with_reducible apply Qq.call (sq_need _)
    | with_reducible apply Qq.call sq_deeper
    | with_reducible refine Qq.tail (sq_need _) ?_
    | with_reducible apply Qq.bad sz_cannot
    | with_reducible apply Qq.bad (sz_fault _ _)
    | (with_reducible refine Qq.any (x := f_X12_isSort _) ?_; intro _ _)
    | with_reducible intro _)
theorem sq_compares (n : Nat) (rc : RCT) (H : RCs rc) : Sq (f_X12_compares n rc) := by
  obtain ⟨h1, h2, h3, h4, h5, h6, h7, h8, h9⟩ := H
  intro g0 p g h
  unfold f_X12_compares b_X12_compares_47
  repeat' (first
    | with_reducible assumption
    | (with_reducible apply Iq.vI; decide)
    | (with_reducible apply Iq.vIA; decide)
    | (with_reducible apply Iq.vLA; decide)
    | with_reducible apply Iq.s15
    | with_reducible apply Iq.s18
    | with_reducible refine Qq.gd ?_
    | with_reducible refine Qq.ite ?_ ?_
    | with_reducible apply Qq.node
    | with_reducible apply Qq.name
    | with_reducible apply Qq.much
    | (with_reducible apply Qq.act; decide)
    | (with_reducible apply Qq.actj; decide)
    | with_reducible refine Qq.ret ?_
    | with_reducible apply Qq.call h5
    | with_reducible refine Qq.tail h5 ?_
    | with_reducible refine Qq.go h5 ?_
    | with_reducible apply Qq.call (sq_need _)
    | with_reducible apply Qq.call sq_deeper
    | with_reducible refine Qq.tail (sq_need _) ?_
    | with_reducible apply Qq.bad sz_cannot
    | with_reducible apply Qq.bad (sz_fault _ _)
    | (with_reducible refine Qq.any (x := f_X12_isSort _) ?_; intro _ _)
    | with_reducible intro _)
theorem sq_equals (n : Nat) (rc : RCT) (H : RCs rc) : Sq (f_X12_equals n rc) := by
  obtain ⟨h1, h2, h3, h4, h5, h6, h7, h8, h9⟩ := H
  intro g0 p g h
  unfold f_X12_equals b_X12_equals_41
  repeat' (first
    | with_reducible assumption
    | (with_reducible apply Iq.vI; decide)
    | (with_reducible apply Iq.vIA; decide)
    | (with_reducible apply Iq.vLA; decide)
    | with_reducible apply Iq.s15
    | with_reducible apply Iq.s18
    | with_reducible refine Qq.gd ?_
    | with_reducible refine Qq.ite ?_ ?_
    | with_reducible apply Qq.node
    | with_reducible apply Qq.name
    | with_reducible apply Qq.much
    | (with_reducible apply Qq.act; decide)
    | (with_reducible apply Qq.actj; decide)
    | with_reducible refine Qq.ret ?_
    | with_reducible apply Qq.call h6
    | with_reducible refine Qq.tail h6 ?_
    | with_reducible refine Qq.go h6 ?_
    | with_reducible apply Qq.call (sq_need _)
    | with_reducible apply Qq.call sq_deeper
    | with_reducible refine Qq.tail (sq_need _) ?_
    | with_reducible apply Qq.bad sz_cannot
    | with_reducible apply Qq.bad (sz_fault _ _)
    | (with_reducible refine Qq.any (x := f_X12_isSort _) ?_; intro _ _)
    | with_reducible intro _)
theorem sq_Lchoice (n : Nat) (rc : RCT) (H : RCs rc) : ∀ k v w, Sq (fun g => L_X12_choice n rc k g v w) := by
  intro k
  obtain ⟨h1, h2, h3, h4, h5, h6, h7, h8, h9⟩ := H
  induction k with
  | zero => intro v w g0 p g h; exact Qq.non
  | succ k ih =>
  intro v w g0 p g h
  show Qq g0 p (h_X12_choice_39 n rc (L_X12_choice n rc k) g v w)
  unfold h_X12_choice_39 b_X12_choice_87 b_X12_choice_125 b_X12_choice_137
  repeat' (first
    | with_reducible assumption
    | (with_reducible apply Iq.vI; decide)
    | (with_reducible apply Iq.vIA; decide)
    | (with_reducible apply Iq.vLA; decide)
    | with_reducible apply Iq.s15
    | with_reducible apply Iq.s18
    | with_reducible refine Qq.gd ?_
    | with_reducible refine Qq.ite ?_ ?_
    | with_reducible apply Qq.node
    | with_reducible apply Qq.name
    | with_reducible apply Qq.much
    | (with_reducible apply Qq.act; decide)
    | (with_reducible apply Qq.actj; decide)
    | with_reducible refine Qq.ret ?_
    | with_reducible apply Qq.call h7
    | with_reducible apply Qq.call (h8 _)
    | with_reducible apply Qq.call (ih _ _)
    | with_reducible refine Qq.tail h7 ?_
    | with_reducible refine Qq.tail (h8 _) ?_
    | with_reducible refine Qq.tail (ih _ _) ?_
    | with_reducible refine Qq.go h7 ?_
    | with_reducible refine Qq.go (h8 _) ?_
    | with_reducible refine Qq.go (ih _ _) ?_
    | with_reducible apply Qq.call (sq_need _)
    | with_reducible apply Qq.call sq_deeper
    | with_reducible refine Qq.tail (sq_need _) ?_
    | with_reducible apply Qq.bad sz_cannot
    | with_reducible apply Qq.bad (sz_fault _ _)
    | (with_reducible refine Qq.any (x := f_X12_isSort _) ?_; intro _ _)
    | with_reducible intro _)
theorem sq_choice (n : Nat) (rc : RCT) (H : RCs rc) (x : Int32) : Sq (fun g => f_X12_choice n rc g x) := by
  have hl := sq_Lchoice n rc H n
  obtain ⟨h1, h2, h3, h4, h5, h6, h7, h8, h9⟩ := H
  intro g0 p g h
  show Qq g0 p (f_X12_choice n rc g x)
  unfold f_X12_choice b_X12_choice_12
  repeat' (first
    | with_reducible assumption
    | (with_reducible apply Iq.vI; decide)
    | (with_reducible apply Iq.vIA; decide)
    | (with_reducible apply Iq.vLA; decide)
    | with_reducible apply Iq.s15
    | with_reducible apply Iq.s18
    | with_reducible refine Qq.gd ?_
    | with_reducible refine Qq.ite ?_ ?_
    | with_reducible apply Qq.node
    | with_reducible apply Qq.name
    | with_reducible apply Qq.much
    | (with_reducible apply Qq.act; decide)
    | (with_reducible apply Qq.actj; decide)
    | with_reducible refine Qq.ret ?_
    | with_reducible apply Qq.call h7
    | with_reducible apply Qq.call (h8 _)
    | with_reducible apply Qq.call (hl _ _)
    | with_reducible refine Qq.tail h7 ?_
    | with_reducible refine Qq.tail (h8 _) ?_
    | with_reducible refine Qq.tail (hl _ _) ?_
    | with_reducible refine Qq.go h7 ?_
    | with_reducible refine Qq.go (h8 _) ?_
    | with_reducible refine Qq.go (hl _ _) ?_
    | with_reducible apply Qq.call (sq_need _)
    | with_reducible apply Qq.call sq_deeper
    | with_reducible refine Qq.tail (sq_need _) ?_
    | with_reducible apply Qq.bad sz_cannot
    | with_reducible apply Qq.bad (sz_fault _ _)
    | (with_reducible refine Qq.any (x := f_X12_isSort _) ?_; intro _ _)
    | with_reducible intro _)
theorem sq_formula (n : Nat) (rc : RCT) (H : RCs rc) : Sq (f_X12_formula n rc) := by
  obtain ⟨h1, h2, h3, h4, h5, h6, h7, h8, h9⟩ := H
  intro g0 p g h
  unfold f_X12_formula
  repeat' (first
    | with_reducible assumption
    | (with_reducible apply Iq.vI; decide)
    | (with_reducible apply Iq.vIA; decide)
    | (with_reducible apply Iq.vLA; decide)
    | with_reducible apply Iq.s15
    | with_reducible apply Iq.s18
    | with_reducible refine Qq.gd ?_
    | with_reducible refine Qq.ite ?_ ?_
    | with_reducible apply Qq.node
    | with_reducible apply Qq.name
    | with_reducible apply Qq.much
    | (with_reducible apply Qq.act; decide)
    | (with_reducible apply Qq.actj; decide)
    | with_reducible refine Qq.ret ?_
    | with_reducible apply Qq.call h9
    | with_reducible apply Qq.call (h8 _)
    | with_reducible refine Qq.tail h9 ?_
    | with_reducible refine Qq.tail (h8 _) ?_
    | with_reducible refine Qq.go h9 ?_
    | with_reducible refine Qq.go (h8 _) ?_
    | with_reducible apply Qq.call (sq_need _)
    | with_reducible apply Qq.call sq_deeper
    | with_reducible refine Qq.tail (sq_need _) ?_
    | with_reducible apply Qq.bad sz_cannot
    | with_reducible apply Qq.bad (sz_fault _ _)
    | (with_reducible refine Qq.any (x := f_X12_isSort _) ?_; intro _ _)
    | with_reducible intro _)
theorem sq_rc (n : Nat) : ∀ d, RCs (RC n d) := by
  intro d
  induction d with
  | zero => exact ⟨fun _ _ _ _ => Qq.non, fun _ _ _ _ => Qq.non, fun _ _ _ _ => Qq.non, fun _ _ _ _ => Qq.non, fun _ _ _ _ => Qq.non, fun _ _ _ _ => Qq.non, fun _ _ _ _ => Qq.non, fun _ _ _ _ _ => Qq.non, fun _ _ _ _ => Qq.non⟩
  | succ d ih => exact ⟨sq_named n _ ih, sq_primary n _ ih, sq_single n _ ih, sq_product n _ ih, sq_sum n _ ih, sq_compares n _ ih, sq_equals n _ ih, sq_choice n _ ih, sq_formula n _ ih⟩
theorem sq_ff (n : Nat) : Sq (ff_X12_formula n) := (sq_rc n 420).2.2.2.2.2.2.2.2
