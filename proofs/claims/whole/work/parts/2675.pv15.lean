/-! the plan's number of the class's state is left alone -/
def V15 {α : Type} (c : Int32) (pr : α → Gs) (x : Option α) : Prop := ∀ q, x = some q → gI (pr q) 16 = c
theorem V15.gd {α : Type} {c : Int32} {pr : α → Gs} {b : Bool} {x : Option α} (h : V15 c pr x) : V15 c pr (grd b x) := fun q e => h q (grd_some e).2
theorem V15.ite {α : Type} {c : Int32} {pr : α → Gs} {p : Prop} [Decidable p] {x y : Option α} (h : V15 c pr x) (h' : V15 c pr y) : V15 c pr (if p then x else y) := by
  by_cases z : p
  · rw [if_pos z]; exact h
  · rw [if_neg z]; exact h'
theorem V15.any {α β : Type} {c : Int32} {pr : α → Gs} {x : Option β} {K : β → Option α} (h : ∀ q, x = some q → V15 c pr (K q)) : V15 c pr (bnd x K) := by
  intro r e
  obtain ⟨q, e1, e2⟩ := bnd_some e
  exact h q e1 r e2
theorem V15.ret {α : Type} {c : Int32} {pr : α → Gs} {q : α} (h : gI (pr q) 16 = c) : V15 c pr (some q) := by
  intro r e
  rw [← Option.some.inj e]; exact h
theorem jam15 {gs gs' : Gs} {r a b : Int32} (h : f_X9_noteJam gs r a b = some gs') : gI gs' 16 = gI gs 16 := (noteJam_fr h 16 (by decide)).1
theorem strike15 {gs gs' : Gs} {b : Int32} (h : f_X9_noteStrike gs b = some gs') : gI gs' 16 = gI gs 16 := by
  have : V15 (gI gs 16) id (f_X9_noteStrike gs b) := by
    unfold f_X9_noteStrike b_X9_noteStrike_29
    exact .gd (.ite (.gd (.gd (.gd (.ret rfl)))) (.gd (.gd (.gd (.gd (.ret rfl))))))
  exact this gs' h
theorem store15 {gm gs : Gs} {a b c : Int32} {q : Gs × Gs} (h : f_X1_store gm gs a b c = some q) : gI q.2 16 = gI gs 16 := by
  have : V15 (gI gs 16) Prod.snd (f_X1_store gm gs a b c) := by
    unfold f_X1_store
    exact .any (fun q _ => .gd (.gd (.gd (.gd (.ret rfl)))))
  exact this q h
theorem begin15 {gs gs' : Gs} (h : f_X9_beginTick gs = some gs') : gI gs' 16 = gI gs 16 := by
  have : V15 (gI gs 16) id (f_X9_beginTick gs) := by
    unfold f_X9_beginTick
    exact .any (fun q _ => .gd (.gd (.gd (.gd (.ret rfl)))))
  exact this gs' h
theorem turn15 {n : Nat} {g2 gp gc : Gs} {v2 : Int32} : ∀ k (gm gs : Gs) (v3 : Int32), V15 (gI gs 16) Prod.snd (L_X1_turn n k gm g2 gs gp gc v2 v3) := by
  intro k
  induction k with
  | zero => intro gm gs v3 q e; cases e
  | succ k ih =>
    intro gm gs v3
    have nx : ∀ gX gY v, gI gY 16 = gI gs 16 → V15 (gI gs 16) Prod.snd (L_X1_turn n k gX g2 gY gp gc v2 v) := fun gX gY v e => by rw [← e]; exact ih gX gY v
    show V15 (gI gs 16) Prod.snd (h_X1_turn_19 n (L_X1_turn n k) gm g2 gs gp gc v2 v3)
    unfold h_X1_turn_19 b_X1_turn_131
    exact .ite (.ret rfl) (.gd (.gd (.any fun q _ => .ite (.any fun r e => nx _ _ _ (jam15 e)) (.ite (.gd (.ite (nx _ _ _ rfl) (.any fun r e => nx _ _ _ (strike15 e)))) (.gd (.gd (.any fun r e => nx _ _ _ (store15 e))))))))
theorem turn15' {n : Nat} {gm g2 gs gp gc : Gs} {q : Gs × Gs} (h : f_X1_turn n gm g2 gs gp gc = some q) : gI q.2 16 = gI gs 16 := by
  unfold f_X1_turn at h
  obtain ⟨g1, e1, e2⟩ := bnd_some h
  exact (turn15 _ _ _ _ q e2).trans (begin15 e1)
theorem tick15 {n h8 : Nat} {gT g2 gp gc : Gs} {v1 : Int32} : ∀ k (gs gm : Gs) (v2 : Int32), V15 (gI gs 16) (fun q : Int64 × Gs × Gs => q.2.1) (L_X11_tick n h8 k gT g2 gs gm gp gc v1 v2) := by
  intro k
  induction k with
  | zero => intro gs gm v2 q e; cases e
  | succ k ih =>
    intro gs gm v2
    show V15 (gI gs 16) _ (h_X11_tick_17 n h8 (L_X11_tick n h8 k) gT g2 gs gm gp gc v1 v2)
    unfold h_X11_tick_17
    exact .ite (.ret rfl) (.gd (.any fun q e => by rw [← turn15' e]; exact ih _ _ _))
theorem tick15' {n h8 : Nat} {gT g2 gs gm gp gc : Gs} {x : Int32} {q : Int64 × Gs × Gs} (h : f_X11_tick n h8 gT g2 gs gm gp gc x = some q) : gI q.2.1 16 = gI gs 16 := by
  have : V15 (gI gs 16) (fun q : Int64 × Gs × Gs => q.2.1) (f_X11_tick n h8 gT g2 gs gm gp gc x) := by
    unfold f_X11_tick
    exact .ite (.ret rfl) (.ite (tick15 _ _ _ _) (.ret rfl))
  exact this q h
theorem set15 {h8 : Nat} {gT g2 gs gp : Gs} {x : Int32} {y : Int64} {q : Int32 × Gs} (h : f_X11_set h8 gT g2 gs gp x y = some q) : gI q.2 16 = gI gs 16 := by
  have h70 : ∀ v, V15 (gI gs 16) Prod.snd (b_X11_set_70 h8 gT g2 gs gp x y v) := fun v => by
    unfold b_X11_set_70
    exact .any fun _ _ => .gd (.any fun _ _ => .gd (.gd (.gd (.gd (.gd (.ret rfl))))))
  have h54 : ∀ v, V15 (gI gs 16) Prod.snd (b_X11_set_54 h8 gT g2 gs gp x y v) := fun v => by
    unfold b_X11_set_54
    exact .ite (.any fun _ _ => .ite (.ret rfl) (h70 v)) (h70 v)
  have : V15 (gI gs 16) Prod.snd (f_X11_set h8 gT g2 gs gp x y) := by
    unfold f_X11_set
    exact .ite (.ret rfl) (.gd (.ite (.ret rfl) (.gd (.gd (.ite (.ret rfl) (.gd (.gd (.ite (.any fun _ _ => .ite (.ret rfl) (h54 _)) (h54 _)))))))))
  exact this q h
theorem step15 {gT g2 gs : Gs} {y : Int64} {q : Int32 × Gs} (h : f_X11_step gT g2 gs y = some q) : gI q.2 16 = gI gs 16 := by
  have : V15 (gI gs 16) Prod.snd (f_X11_step gT g2 gs y) := by
    unfold f_X11_step
    exact .any fun _ _ => .ite (.ret rfl) (.any fun _ _ => .ret rfl)
  exact this q h
theorem await15 {n h8 h10 h11 : Nat} {gT gt g2 gp gq gc gr gsc gN gS : Gs} {v1 : Int32} : ∀ k (gs gm : Gs) (v3 : Int32), V15 (gI gs 16) (fun q : Int32 × Gs × Gs × Gs × Gs × Gs × Gs × Gs × Gs => q.2.2.1) (L_X11_await n h8 h10 h11 k gT gt g2 gs gm gp gq gc gr gsc gN gS v1 v3) := by
  intro k
  induction k with
  | zero => intro gs gm v3 q e; cases e
  | succ k ih =>
    intro gs gm v3
    show V15 (gI gs 16) _ (h_X11_await_55 n h8 h10 h11 (L_X11_await n h8 h10 h11 k) gT gt g2 gs gm gp gq gc gr gsc gN gS v1 v3)
    unfold h_X11_await_55 b_X11_await_111
    exact .ite (.ret rfl) (.gd (.any fun q _ => .ite (.ret rfl) (.gd (.ite (.ite (ih _ _ _) (.gd (.any fun r e => by rw [← turn15' e]; exact ih _ _ _))) (.ret rfl)))))
theorem await15' {n h8 h10 h11 : Nat} {gT gt g2 gs gm gp gq gc gr gsc gN gS : Gs} {x : Int32} {q : Int32 × Gs × Gs × Gs × Gs × Gs × Gs × Gs × Gs} (h : f_X11_await n h8 h10 h11 gT gt g2 gs gm gp gq gc gr gsc gN gS x = some q) : gI q.2.2.1 16 = gI gs 16 := by
  have h44 : ∀ gX c1 c2 c3 c4 c5, V15 (gI gs 16) (fun q : Int32 × Gs × Gs × Gs × Gs × Gs × Gs × Gs × Gs => q.2.2.1) (b_X11_await_44 n h8 h10 h11 (L_X11_await n h8 h10 h11 n) gX gt g2 gs gm gp gq c1 c2 c3 c4 c5 x) := fun gX c1 c2 c3 c4 c5 => by
    unfold b_X11_await_44
    exact .ite (await15 _ _ _ _) (.ret rfl)
  have : V15 (gI gs 16) (fun q : Int32 × Gs × Gs × Gs × Gs × Gs × Gs × Gs × Gs => q.2.2.1) (f_X11_await n h8 h10 h11 gT gt g2 gs gm gp gq gc gr gsc gN gS x) := by
    unfold f_X11_await b_X11_await_11
    exact .ite (.ret rfl) (.ite (.any fun q _ => by
      unfold b_X11_await_22
      exact .ite (.gd (.ite (h44 _ _ _ _ _ _) (h44 _ _ _ _ _ _))) (h44 _ _ _ _ _ _)) (.ret rfl))
  exact this q h
