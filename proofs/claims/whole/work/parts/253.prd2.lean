/-! the reference's reading alone: things, bells, cams, all -/
theorem open_fr {g g' : Gs} {v : Int64} {t : Int32} (h : f_X12_open g v t = some g') : Fr [0, 1, 2] g g' := by
  have f3 : ∀ a b c, Fr [0, 1, 2] g (sI (sL (sI g 0 a) 1 b) 2 c) := fun a b c => ((Fr.sI (by decide) _ _).trans (Fr.sL (by decide) _ _)).trans (Fr.sI (by decide) _ _)
  have f4 : ∀ a b d c, Fr [0, 1, 2] g (sI (sL (sL (sI g 0 a) 1 b) 1 d) 2 c) := fun a b d c => (((Fr.sI (by decide) _ _).trans (Fr.sL (by decide) _ _)).trans (Fr.sL (by decide) _ _)).trans (Fr.sI (by decide) _ _)
  have key : ∀ s0, b_X12_open_12 g v t s0 = some g' → Fr [0, 1, 2] g g' := by
    intro s0 h
    unfold b_X12_open_12 b_X12_open_58 b_X12_open_76 b_X12_open_117 b_X12_open_135 at h
    have h := (grd_some h).2
    split at h <;> split at h <;> split at h <;> (cases h; first | exact f3 _ _ _ | exact f4 _ _ _ _)
  unfold f_X12_open at h
  split at h <;> exact key _ h
theorem tow_fr {n : Nat} {g g' : Gs} {v r : Int64} {t u : Int32} (h : f_X12_towards n g v t u = some (r, g')) : Fr [0, 1, 2] g g' := by
  have key : ∀ (q : Gs) (s : Int64), b_X12_towards_21 n q s = some (r, g') → q = g' := by
    intro q s h
    unfold b_X12_towards_21 at h
    split at h
    · cases h; rfl
    · split at h
      · split at h
        · obtain ⟨z, _, h⟩ := bnd_some h
          split at h
          · split at h
            · obtain ⟨z, _, h⟩ := bnd_some h
              cases h; rfl
            · split at h <;> (cases h; rfl)
          · split at h <;> (cases h; rfl)
        · split at h
          · obtain ⟨z, _, h⟩ := bnd_some h
            cases h; rfl
          · split at h <;> (cases h; rfl)
      · cases h; rfl
  unfold f_X12_towards at h
  obtain ⟨q, h1, h2⟩ := bnd_some h
  split at h2 <;> (rw [← key _ _ h2]; exact open_fr h1)
theorem bec_fr {n : Nat} {g g' : Gs} {v r : Int64} {t u : Int32} (h : f_X12_become n g v t u = some (r, g')) : Fr [0, 1, 2] g g' := by
  unfold f_X12_become at h
  split at h
  · cases h; exact Fr.refl _ _
  · obtain ⟨a, _, h⟩ := bnd_some h
    split at h
    · obtain ⟨b, _, h⟩ := bnd_some h
      split at h
      · obtain ⟨c, _, h⟩ := bnd_some h
        cases h; exact Fr.refl _ _
      · split at h
        · obtain ⟨c, h1, h⟩ := bnd_some h
          cases h; exact tow_fr h1
        · obtain ⟨c, h1, h⟩ := bnd_some h
          obtain ⟨d, _, h⟩ := bnd_some h
          cases h; exact tow_fr h1
    · obtain ⟨b, _, h⟩ := bnd_some h
      split at h
      · obtain ⟨c, _, h⟩ := bnd_some h
        cases h; exact Fr.refl _ _
      · obtain ⟨c, h1, h⟩ := bnd_some h
        obtain ⟨d, _, h⟩ := bnd_some h
        cases h; exact open_fr h1
theorem Qq.bec {K : Int64 × Gs → Option (Int32 × Gs)} {n : Nat} {g0 g : Gs} {p p' : Nat} {v : Int64} {t u : Int32} (h : Iq g0 g p) (hK : ∀ r g', Iq g0 g' p → Qq g0 p' (K (r, g'))) : Qq g0 p' (bnd (f_X12_become n g v t u) K) := by
  refine Qq.any fun q e => ?_
  obtain ⟨r, g'⟩ := q
  exact hK r g' (h.fr (bec_fr e) (by decide))
theorem sq_thing (n : Nat) : Sq (f_X12_thing n) := by
  have hf := sq_ff n
  intro g0 p g h
  unfold f_X12_thing b_X12_thing_20 b_X12_thing_86 b_X12_thing_296
  repeat' (first
    | with_reducible assumption
    | (with_reducible apply Iq.vI; decide)
    | (with_reducible apply Iq.vIA; decide)
    | (with_reducible apply Iq.vLA; decide)
    | with_reducible apply Iq.s15
    | with_reducible apply Iq.s18
    | with_reducible refine Qq.gd ?_
    | with_reducible refine Qq.ite ?_ ?_
    | with_reducible apply Qq.node
    | with_reducible apply Qq.name
    | with_reducible apply Qq.bec
    | with_reducible apply Qq.much
    | (with_reducible apply Qq.act; decide)
    | (with_reducible apply Qq.actj; decide)
    | with_reducible refine Qq.ret ?_
    | with_reducible apply Qq.call hf
    | with_reducible refine Qq.tail hf ?_
    | with_reducible refine Qq.go hf ?_
    | with_reducible apply Qq.call (sq_need _)
    | with_reducible apply Qq.call sq_deeper
    | with_reducible refine Qq.tail (sq_need _) ?_
    | with_reducible apply Qq.bad sz_cannot
    | with_reducible apply Qq.bad (sz_fault _ _)
    | (with_reducible refine Qq.any (x := f_X12_isSort _) ?_; intro _ _)
    | with_reducible intro _)
theorem sq_bell (n : Nat) : Sq (f_X12_bell n) := by
  have hf := sq_ff n
  intro g0 p g h
  unfold f_X12_bell b_X12_bell_65
  repeat' (first
    | with_reducible assumption
    | (with_reducible apply Iq.vI; decide)
    | (with_reducible apply Iq.vIA; decide)
    | (with_reducible apply Iq.vLA; decide)
    | with_reducible apply Iq.s15
    | with_reducible apply Iq.s18
    | with_reducible refine Qq.gd ?_
    | with_reducible refine Qq.ite ?_ ?_
    | with_reducible apply Qq.node
    | with_reducible apply Qq.name
    | with_reducible apply Qq.bec
    | with_reducible apply Qq.much
    | (with_reducible apply Qq.act; decide)
    | (with_reducible apply Qq.actj; decide)
    | with_reducible refine Qq.ret ?_
    | with_reducible apply Qq.call hf
    | with_reducible refine Qq.tail hf ?_
    | with_reducible refine Qq.go hf ?_
    | with_reducible apply Qq.call (sq_need _)
    | with_reducible apply Qq.call sq_deeper
    | with_reducible refine Qq.tail (sq_need _) ?_
    | with_reducible apply Qq.bad sz_cannot
    | with_reducible apply Qq.bad (sz_fault _ _)
    | (with_reducible refine Qq.any (x := f_X12_isSort _) ?_; intro _ _)
    | with_reducible intro _)
theorem sq_Lcam (n : Nat) : ∀ k v w, Sq (fun g => L_X12_cam n k g v w) := by
  intro k
  induction k with
  | zero => intro v w g0 p g h; exact Qq.non
  | succ k ih =>
  intro v w g0 p g h
  show Qq g0 p (h_X12_cam_125 n (L_X12_cam n k) g v w)
  unfold h_X12_cam_125 b_X12_cam_148 b_X12_cam_163 b_X12_cam_215 b_X12_cam_264 b_X12_cam_304 b_X12_cam_319
  repeat' (first
    | with_reducible assumption
    | (with_reducible apply Iq.vI; decide)
    | (with_reducible apply Iq.vIA; decide)
    | (with_reducible apply Iq.vLA; decide)
    | with_reducible apply Iq.s15
    | with_reducible apply Iq.s18
    | with_reducible refine Qq.gd ?_
    | with_reducible refine Qq.ite ?_ ?_
    | with_reducible apply Qq.node
    | with_reducible apply Qq.name
    | with_reducible apply Qq.bec
    | with_reducible apply Qq.much
    | (with_reducible apply Qq.act; decide)
    | (with_reducible apply Qq.actj; decide)
    | with_reducible refine Qq.ret ?_
    | with_reducible apply Qq.call (ih _ _)
    | with_reducible refine Qq.tail (ih _ _) ?_
    | with_reducible refine Qq.go (ih _ _) ?_
    | with_reducible apply Qq.call (sq_need _)
    | with_reducible apply Qq.call sq_deeper
    | with_reducible refine Qq.tail (sq_need _) ?_
    | with_reducible apply Qq.bad sz_cannot
    | with_reducible apply Qq.bad (sz_fault _ _)
    | (with_reducible refine Qq.any (x := f_X12_isSort _) ?_; intro _ _)
    | with_reducible intro _)
theorem sq_cam (n : Nat) : Sq (f_X12_cam n) := by
  have hl := sq_Lcam n n
  intro g0 p g h
  unfold f_X12_cam b_X12_cam_65
  repeat' (first
    | with_reducible assumption
    | (with_reducible apply Iq.vI; decide)
    | (with_reducible apply Iq.vIA; decide)
    | (with_reducible apply Iq.vLA; decide)
    | with_reducible apply Iq.s15
    | with_reducible apply Iq.s18
    | with_reducible refine Qq.gd ?_
    | with_reducible refine Qq.ite ?_ ?_
    | with_reducible apply Qq.node
    | with_reducible apply Qq.name
    | with_reducible apply Qq.much
    | (with_reducible apply Qq.act; decide)
    | (with_reducible apply Qq.actj; decide)
    | with_reducible refine Qq.ret ?_
    | with_reducible apply Qq.call (hl _ _)
    | with_reducible refine Qq.tail (hl _ _) ?_
    | with_reducible refine Qq.go (hl _ _) ?_
    | with_reducible apply Qq.call (sq_need _)
    | with_reducible apply Qq.call sq_deeper
    | with_reducible refine Qq.tail (sq_need _) ?_
    | with_reducible apply Qq.bad sz_cannot
    | with_reducible apply Qq.bad (sz_fault _ _)
    | (with_reducible refine Qq.any (x := f_X12_isSort _) ?_; intro _ _)
    | with_reducible intro _)
theorem sq_Lreads (n : Nat) : ∀ k, Sq (L_X12_reads n k) := by
  intro k
  have ht := sq_thing n
  have hb := sq_bell n
  have hc := sq_cam n
  induction k with
  | zero => intro g0 p g h; exact Qq.non
  | succ k ih =>
  intro g0 p g h
  show Qq g0 p (h_X12_reads_20 n (L_X12_reads n k) g)
  unfold h_X12_reads_20 b_X12_reads_56 b_X12_reads_95
  repeat' (first
    | with_reducible assumption
    | (with_reducible apply Iq.vI; decide)
    | (with_reducible apply Iq.vIA; decide)
    | (with_reducible apply Iq.vLA; decide)
    | with_reducible apply Iq.s15
    | with_reducible apply Iq.s18
    | with_reducible refine Qq.gd ?_
    | with_reducible refine Qq.ite ?_ ?_
    | with_reducible apply Qq.node
    | with_reducible apply Qq.name
    | with_reducible apply Qq.much
    | (with_reducible apply Qq.act; decide)
    | (with_reducible apply Qq.actj; decide)
    | with_reducible refine Qq.ret ?_
    | with_reducible apply Qq.call ih
    | with_reducible apply Qq.call ht
    | with_reducible apply Qq.call hb
    | with_reducible apply Qq.call hc
    | with_reducible apply Qq.call sq_cannot
    | with_reducible refine Qq.tail ih ?_
    | with_reducible refine Qq.tail ht ?_
    | with_reducible refine Qq.tail hb ?_
    | with_reducible refine Qq.tail hc ?_
    | with_reducible refine Qq.tail sq_cannot ?_
    | with_reducible refine Qq.go ih ?_
    | with_reducible refine Qq.go ht ?_
    | with_reducible refine Qq.go hb ?_
    | with_reducible refine Qq.go hc ?_
    | with_reducible refine Qq.go sq_cannot ?_
    | with_reducible apply Qq.call (sq_need _)
    | with_reducible apply Qq.call sq_deeper
    | with_reducible refine Qq.tail (sq_need _) ?_
    | with_reducible apply Qq.bad sz_cannot
    | with_reducible apply Qq.bad (sz_fault _ _)
    | (with_reducible refine Qq.any (x := f_X12_isSort _) ?_; intro _ _)
    | with_reducible intro _)
theorem rd_ok (n : Nat) : RdOk n := by
  intro g b g' h19 h24 h23 h27 h21 e
  have hi : Iq g (sI (sI (sI (sI g 33 (0 : Int32)) 34 (0 : Int32)) 35 (0 : Int32)) 36 (0 : Int32)) 0 := ((((show Iq g g 0 from ⟨fun _ _ => ⟨rfl, rfl, rfl, rfl, rfl⟩, h21, 0, by omega, h19, h24⟩).vI (by decide)).vI (by decide)).vI (by decide)).vI (by decide)
  obtain ⟨l, w⟩ := sq_Lreads n n g 0 _ hi b g' e
  refine ⟨l, fun hb => ?_⟩
  obtain ⟨_, w2, A, w3, w4, w5⟩ := w (by rw [hb]; decide)
  refine ⟨w2, fun A' N hA hN e19 e24 => ?_⟩
  have eA : 2000 + A = 2000 + A' := (nI_eq (by omega) (by omega)).mp (w4.symm.trans e19)
  have hr : ∀ A, rcU g' A ≤ A := by
    intro A
    induction A with
    | zero => exact Nat.le_refl _
    | succ A ih => unfold rcU; split <;> omega
  have := hr A
  have eN := (nI_eq (by omega) (by omega)).mp (w5.symm.trans e24)
  rw [show A' = A by omega]
  omega
