/-! the reference's reading alone: things, bells, cams, all -/
theorem bec_fr {n : Nat} {g g' : Gs} {v r : Int64} {t u : Int32} (h : f_X12_become n g v t u = some (r, g')) : Fr [0, 1, 2] g g' := by
  sorry
theorem Qq.bec {K : Int64 × Gs → Option (Int32 × Gs)} {n : Nat} {g0 g : Gs} {p p' : Nat} {v : Int64} {t u : Int32} (h : Iq g0 g p) (hK : ∀ r g', Iq g0 g' p → Qq g0 p' (K (r, g'))) : Qq g0 p' (bnd (f_X12_become n g v t u) K) := by
  refine Qq.any fun q e => ?_
  obtain ⟨r, g'⟩ := q
  exact hK r g' (h.fr (bec_fr e) (by decide))
theorem sq_thing (n : Nat) : Sq (f_X12_thing n) := by
  have hf := sq_ff n
  intro g0 p g h
  unfold f_X12_thing b_X12_thing_20 b_X12_thing_86 b_X12_thing_296
  repeat' (first
    | assumption
    | refine Iq.sI (by decide) ?_
    | refine Iq.sIA (by decide) ?_
    | refine Iq.sLA (by decide) ?_
    | refine Iq.s15 ?_ ?_
    | refine Iq.s18 ?_ ?_
    | refine Qq.grd ?_
    | refine Qq.ite ?_ ?_
    | refine Qq.node ?_ ?_
    | refine Qq.name ?_ ?_
    | refine Qq.bec ?_ ?_
    | refine Qq.much ?_ ?_
    | refine Qq.act (by decide) ?_ ?_
    | refine Qq.actj (by decide) ?_ ?_
    | refine Qq.ret ?_
    | refine Qq.call hf ?_ ?_
    | refine Qq.tail hf ?_
    | refine Qq.go hf ?_
    | refine Qq.call (sq_need _) ?_ ?_
    | refine Qq.call sq_deeper ?_ ?_
    | refine Qq.tail (sq_need _) ?_
    | refine Qq.tail sq_cannot ?_
    | refine Qq.tail (sq_fault _ _) ?_
    | (refine Qq.any (x := f_X12_isSort _) ?_; intro _ _)
    | intro _)
theorem sq_bell (n : Nat) : Sq (f_X12_bell n) := by
  have hf := sq_ff n
  intro g0 p g h
  unfold f_X12_bell b_X12_bell_65
  repeat' (first
    | assumption
    | refine Iq.sI (by decide) ?_
    | refine Iq.sIA (by decide) ?_
    | refine Iq.sLA (by decide) ?_
    | refine Iq.s15 ?_ ?_
    | refine Iq.s18 ?_ ?_
    | refine Qq.grd ?_
    | refine Qq.ite ?_ ?_
    | refine Qq.node ?_ ?_
    | refine Qq.name ?_ ?_
    | refine Qq.bec ?_ ?_
    | refine Qq.much ?_ ?_
    | refine Qq.act (by decide) ?_ ?_
    | refine Qq.actj (by decide) ?_ ?_
    | refine Qq.ret ?_
    | refine Qq.call hf ?_ ?_
    | refine Qq.tail hf ?_
    | refine Qq.go hf ?_
    | refine Qq.call (sq_need _) ?_ ?_
    | refine Qq.call sq_deeper ?_ ?_
    | refine Qq.tail (sq_need _) ?_
    | refine Qq.tail sq_cannot ?_
    | refine Qq.tail (sq_fault _ _) ?_
    | (refine Qq.any (x := f_X12_isSort _) ?_; intro _ _)
    | intro _)
theorem sq_Lcam (n : Nat) : ∀ k v w, Sq (fun g => L_X12_cam n k g v w) := by
  intro k
  induction k with
  | zero => intro v w g0 p g h; exact Qq.non
  | succ k ih =>
  intro v w g0 p g h
  show Qq g0 p (h_X12_cam_125 n (L_X12_cam n k) g v w)
  unfold h_X12_cam_125 b_X12_cam_148 b_X12_cam_163 b_X12_cam_215 b_X12_cam_264 b_X12_cam_304 b_X12_cam_319
  repeat' (first
    | assumption
    | refine Iq.sI (by decide) ?_
    | refine Iq.sIA (by decide) ?_
    | refine Iq.sLA (by decide) ?_
    | refine Iq.s15 ?_ ?_
    | refine Iq.s18 ?_ ?_
    | refine Qq.grd ?_
    | refine Qq.ite ?_ ?_
    | refine Qq.node ?_ ?_
    | refine Qq.name ?_ ?_
    | refine Qq.bec ?_ ?_
    | refine Qq.much ?_ ?_
    | refine Qq.act (by decide) ?_ ?_
    | refine Qq.actj (by decide) ?_ ?_
    | refine Qq.ret ?_
    | refine Qq.call (ih _ _) ?_ ?_
    | refine Qq.tail (ih _ _) ?_
    | refine Qq.go (ih _ _) ?_
    | refine Qq.call (sq_need _) ?_ ?_
    | refine Qq.call sq_deeper ?_ ?_
    | refine Qq.tail (sq_need _) ?_
    | refine Qq.tail sq_cannot ?_
    | refine Qq.tail (sq_fault _ _) ?_
    | (refine Qq.any (x := f_X12_isSort _) ?_; intro _ _)
    | intro _)
theorem sq_cam (n : Nat) : Sq (f_X12_cam n) := by
  have hl := sq_Lcam n n
  intro g0 p g h
  unfold f_X12_cam b_X12_cam_65
  repeat' (first
    | assumption
    | refine Iq.sI (by decide) ?_
    | refine Iq.sIA (by decide) ?_
    | refine Iq.sLA (by decide) ?_
    | refine Iq.s15 ?_ ?_
    | refine Iq.s18 ?_ ?_
    | refine Qq.grd ?_
    | refine Qq.ite ?_ ?_
    | refine Qq.node ?_ ?_
    | refine Qq.name ?_ ?_
    | refine Qq.much ?_ ?_
    | refine Qq.act (by decide) ?_ ?_
    | refine Qq.actj (by decide) ?_ ?_
    | refine Qq.ret ?_
    | refine Qq.call (hl _ _) ?_ ?_
    | refine Qq.tail (hl _ _) ?_
    | refine Qq.go (hl _ _) ?_
    | refine Qq.call (sq_need _) ?_ ?_
    | refine Qq.call sq_deeper ?_ ?_
    | refine Qq.tail (sq_need _) ?_
    | refine Qq.tail sq_cannot ?_
    | refine Qq.tail (sq_fault _ _) ?_
    | (refine Qq.any (x := f_X12_isSort _) ?_; intro _ _)
    | intro _)
theorem sq_Lreads (n : Nat) : ∀ k, Sq (L_X12_reads n k) := by
  intro k
  have ht := sq_thing n
  have hb := sq_bell n
  have hc := sq_cam n
  induction k with
  | zero => intro g0 p g h; exact Qq.non
  | succ k ih =>
  intro g0 p g h
  show Qq g0 p (h_X12_reads_20 n (L_X12_reads n k) g)
  unfold h_X12_reads_20 b_X12_reads_56 b_X12_reads_95
  repeat' (first
    | assumption
    | refine Iq.sI (by decide) ?_
    | refine Iq.sIA (by decide) ?_
    | refine Iq.sLA (by decide) ?_
    | refine Iq.s15 ?_ ?_
    | refine Iq.s18 ?_ ?_
    | refine Qq.grd ?_
    | refine Qq.ite ?_ ?_
    | refine Qq.node ?_ ?_
    | refine Qq.name ?_ ?_
    | refine Qq.much ?_ ?_
    | refine Qq.act (by decide) ?_ ?_
    | refine Qq.actj (by decide) ?_ ?_
    | refine Qq.ret ?_
    | refine Qq.call ih ?_ ?_
    | refine Qq.call ht ?_ ?_
    | refine Qq.call hb ?_ ?_
    | refine Qq.call hc ?_ ?_
    | refine Qq.call sq_cannot ?_ ?_
    | refine Qq.tail ih ?_
    | refine Qq.tail ht ?_
    | refine Qq.tail hb ?_
    | refine Qq.tail hc ?_
    | refine Qq.tail sq_cannot ?_
    | refine Qq.go ih ?_
    | refine Qq.go ht ?_
    | refine Qq.go hb ?_
    | refine Qq.go hc ?_
    | refine Qq.go sq_cannot ?_
    | refine Qq.call (sq_need _) ?_ ?_
    | refine Qq.call sq_deeper ?_ ?_
    | refine Qq.tail (sq_need _) ?_
    | refine Qq.tail sq_cannot ?_
    | refine Qq.tail (sq_fault _ _) ?_
    | (refine Qq.any (x := f_X12_isSort _) ?_; intro _ _)
    | intro _)
theorem rd_ok (n : Nat) : RdOk n := by
  intro g b g' h19 h24 h23 h27 h21 e
  have hi : Iq g (sI (sI (sI (sI g 33 (0 : Int32)) 34 (0 : Int32)) 35 (0 : Int32)) 36 (0 : Int32)) 0 := ((((show Iq g g 0 from ⟨fun _ _ => ⟨rfl, rfl, rfl, rfl, rfl⟩, h21, 0, by omega, h19, h24⟩).sI (by decide)).sI (by decide)).sI (by decide)).sI (by decide)
  obtain ⟨l, w⟩ := sq_Lreads n n g 0 _ hi b g' e
  refine ⟨l, fun hb => ?_⟩
  obtain ⟨_, w2, A, w3, w4, w5⟩ := w (by rw [hb]; decide)
  refine ⟨w2, fun A' N hA hN e19 e24 => ?_⟩
  have eA : 2000 + A = 2000 + A' := (nI_eq (by omega) (by omega)).mp (w4.symm.trans e19)
  have hr : ∀ A, rcU g' A ≤ A := by
    intro A
    induction A with
    | zero => exact Nat.le_refl _
    | succ A ih => unfold rcU; split <;> omega
  have := hr A
  have eN := (nI_eq (by omega) (by omega)).mp (w5.symm.trans e24)
  rw [show A' = A by omega]
  omega
