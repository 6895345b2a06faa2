/-! parsing: levels of signs of two parts -/
theorem Pd.up {n hP L T : Nat} {g2 G gt : Gs} {B : Nat → Nat} {ρ : Nat} {g gr gs gc gA : Gs} {j h d N A M jA : Nat} {E : Nat → Nat × Nat × Nat} (hp : Pd n hP L T g2 G gt B (ρ + 1) g gr gs gc j h d N A M E gA jA) : Pd n hP L T g2 G gt B ρ g gr gs gc j h d N A M E gA jA := by
  obtain ⟨c, m, N', A', M', mm, E', gr0, gs0, gc0, gr1, gc1, p1, p2, p3, p4, p5, p6, p7, p8⟩ := hp
  refine ⟨c, m, N', A', M', mm, E', gr0, gs0, gc0, gr1, gc1, p1, p2, p3, p4, p5, p6, fun i i1 i2 => ?_, p8⟩
  obtain ⟨o, o1, o2, o3⟩ := p7 i i1 i2
  exact ⟨o, o1, o2, PF_up o3⟩
theorem Pd.at {n hP L T : Nat} {g2 G gt : Gs} {B : Nat → Nat} {ρ : Nat} {g gr gs gc gA : Gs} {j h d N A M jA : Nat} {E : Nat → Nat × Nat × Nat} (hp : Pd n hP L T g2 G gt B ρ g gr gs gc j h d N A M E gA jA) : Fr parA G gA ∧ gI gA 20 = nI jA ∧ jA < T ∧ j < jA := by
  obtain ⟨c, m, N', A', M', mm, E', gr0, gs0, gc0, gr1, gc1, p1, p2, p3, p4, p5, p6, p7, p8, _⟩ := hp
  exact ⟨p8.1.1, p8.1.2.1, p8.2.2.2.2.1, p3⟩
theorem Bl.up {gr : Gs} {h ρ : Nat} (hb : Bl gr h ρ) (h0 : ρ ≤ 6) : Bl gr h (ρ + 1) := by
  intro z
  obtain ⟨o, o1, o2, o3⟩ := hb z
  refine ⟨o, o1, o2, ?_⟩
  rcases o3 with o3 | o3
  · omega
  · exact .inr ⟨by omega, o3.2⟩
theorem PF_cl {ρ o : Nat} (h0 : 0 < ρ) (h3 : ρ ≠ 3) (h4 : ρ ≠ 4) (h : PF ρ o) : clsd o ρ false := by
  rcases h with z | z | z
  · exact .inl z
  · by_cases hz : rk o = ρ
    · exact .inr (.inr (.inr ⟨hz, h3, h4, h0⟩))
    · exact .inr (.inr (.inl (by omega)))
  · omega
theorem TC_down {ρ k : Nat} (h0 : 0 < ρ) (h : TC (ρ + 1) k) (hk : rk k ≠ ρ) : TC ρ k := by
  unfold TC at h ⊢
  rw [if_neg (by omega)] at h
  rw [if_neg (by omega)]
  omega
/-- what a sign of two parts does in the reference -/
def goP (w : Gs → Nat → Int32) (F : Gs → Option (Int32 × Gs)) (jA : Nat) (gA : Gs) (C : Gs → Option (Int32 × Gs)) : Option (Int32 × Gs) := bnd (f_X12_node gA (nI jA)) (fun q => bnd (F (sI q 20 (gI q 20 + 1))) (fun q6 => if q6.1 = 0 then some (0, q6.2) else bnd (f_X12_act q6.2 12 (w q6.2 jA) (gIA q6.2 10 jA)) (fun q => C q.2)))
theorem go_eq {n L T : Nat} {g2 G : Gs} {B : Nat → Nat} {w : Gs → Nat → Int32} {F : Gs → Option (Int32 × Gs)} {jA : Nat} {gA g1 gC : Gs} {b : Int32} {C : Gs → Option (Int32 × Gs)} (hS : ScR n g2 L B G T) (hj : jA < T) (h1 : f_X12_node gA (nI jA) = some g1) (h2 : gI g1 20 = nI jA) (h3 : F (sI g1 20 (nI (jA + 1))) = some (b, gC)) : goP w F jA gA C = if b = 0 then some (0, gC) else bnd (f_X12_act gC 12 (w gC jA) (gIA gC 10 jA)) (fun q => C q.2) := by
  unfold goP
  rw [bnd_s h1, h2, nI_1, bnd_s h3]
theorem go_act {n L T : Nat} {g2 G : Gs} {B : Nat → Nat} {jA : Nat} {gC : Gs} (hS : ScR n g2 L B G T) (hj : jA < T) (hf : Fr parA G gC) : gIA gC 9 jA = nI (tk G jA) ∧ gIA gC 10 jA = nI (ta G jA) := by
  obtain ⟨k1, k2, _⟩ := hS.tok hj
  exact ⟨by rw [(hf 9 (by decide)).2.2.2.1, k1], by rw [(hf 10 (by decide)).2.2.2.1, k2]⟩
theorem lev_loop {n hP L T : Nat} {g2 G gt : Gs} {B : Nat → Nat} {ρ c D : Nat} {w : Gs → Nat → Int32} {F : Gs → Option (Int32 × Gs)} {Lp : Nat → Gs → Option (Int32 × Gs)} (hS : ScR n g2 L B G T) (hn : 20000 ≤ n) (hρ : ρ = 5 ∨ ρ = 6) (hw : ∀ gC jA, Fr parA G gC → jA < T → w gC jA = nI (tk G jA)) (hF : LV n hP L T g2 G gt B (ρ + 1) c D F) (stop : ∀ k gA jA, Fr parA G gA → gI gA 20 = nI jA → jA < T → rk (kc (tk G jA)) ≠ ρ → Lp (k + 1) gA = some (1, gA)) (go : ∀ k gA jA, Fr parA G gA → gI gA 20 = nI jA → jA < T → rk (kc (tk G jA)) = ρ → Lp (k + 1) gA = goP w F jA gA (Lp k)) : LV n hP L T g2 G gt B ρ (c + 1) (D + 1) (fun g => bnd (F g) (fun q => if q.1 = 0 then some (0, q.2) else Lp n q.2)) := by
  intro g gr gs gc j h d N A M E hm hb hh hD
  have hT := hS.2.2.1
  have loop : ∀ k gA jA, T - jA < k → Pd n hP L T g2 G gt B ρ g gr gs gc j h d N A M E gA jA → TC (ρ + 1) (kc (tk G jA)) → ∃ b g', Lp k gA = some (b, g') ∧ OutL n hP L T g2 G gt B ρ g gr gs gc j h d N A M E b g' := by
    intro k
    induction k with
    | zero => intro gA jA hk; omega
    | succ k ih =>
      intro gA jA hk hp ht
      obtain ⟨a1, a2, a3, a4⟩ := hp.at
      by_cases hr : rk (kc (tk G jA)) = ρ
      · obtain ⟨g1, x1, x2, b, gC, x3, x4⟩ := bin_plain (c := c) (D := D) hS hn hm.bd.1 hp hr (fun o _ => PF_cl (by omega) (by omega) (by omega)) hb (by omega) (by omega) hF (by omega)
        rw [go k gA jA a1 a2 a3 hr, go_eq hS a3 x1 x2 x3]
        rcases x4 with ⟨rfl, y1, v, g3, y2, y3⟩ | ⟨rfl, y1⟩
        · obtain ⟨z1, z2⟩ := go_act hS a3 y1
          rw [if_neg (by decide), hw gC jA y1 a3, z2, bnd_s y2]
          rcases y3 with ⟨j3, w1, w2, w3, _⟩ | ⟨w1, _⟩
          · exact ih g3 j3 (by omega) w2 w3
          · omega
        · exact ⟨0, gC, by rw [if_pos rfl], .inr (.inr ⟨rfl, y1⟩)⟩
      · exact ⟨1, gA, stop k gA jA a1 a2 a3 hr, .inl ⟨rfl, jA, hp, TC_down (by omega) ht hr⟩⟩
  obtain ⟨b, g', f1, f2⟩ := hF g gr gs gc j h d N A M E hm (hb.up (by omega)) (by omega) (by omega)
  show ∃ b g', bnd (F g) (fun q => if q.1 = 0 then some (0, q.2) else Lp n q.2) = some (b, g') ∧ _
  rw [bnd_s f1]
  rcases f2 with ⟨rfl, j3, o1, o2⟩ | ⟨rfl, o1, o2⟩ | ⟨rfl, o1⟩
  · exact loop n g' j3 (by omega) o1.up o2
  · omega
  · exact ⟨0, g', rfl, .inr (.inr ⟨rfl, o1⟩)⟩
theorem Doom.down {n hP L T : Nat} {g2 G gt : Gs} {B : Nat → Nat} {r r' : Nat} {gr gs gc g' : Gs} {j N A : Nat} (h : Doom n hP L T g2 G gt B r gr gs gc j N A g') (hr : r' ≤ r) : Doom n hP L T g2 G gt B r' gr gs gc j N A g' := by
  obtain ⟨j', N', A', a1, a2, a3, a4, a5, a6⟩ := h
  refine ⟨j', N', A', a1, a2, a3, a4, ?_, a6⟩
  rcases a5 with z | z
  · exact .inl z
  · exact .inr ⟨by omega, z.2⟩
theorem lev_once {n hP L T : Nat} {g2 G gt : Gs} {B : Nat → Nat} {ρ c D : Nat} {w : Gs → Nat → Int32} {F Cn : Gs → Option (Int32 × Gs)} (hS : ScR n g2 L B G T) (hn : 20000 ≤ n) (hρ : ρ = 3 ∨ ρ = 4) (hw : ∀ gC jA, Fr parA G gC → jA < T → w gC jA = nI (tk G jA)) (hF : LV n hP L T g2 G gt B (ρ + 1) c D F) (stop : ∀ gA jA, Fr parA G gA → gI gA 20 = nI jA → jA < T → rk (kc (tk G jA)) ≠ ρ → Cn gA = some (1, gA)) (go : ∀ gA jA, Fr parA G gA → gI gA 20 = nI jA → jA < T → rk (kc (tk G jA)) = ρ → Cn gA = goP w F jA gA (fun g => some (1, g))) : LV n hP L T g2 G gt B ρ (c + 1) (D + 1) (fun g => bnd (F g) (fun q => if q.1 = 0 then some (0, q.2) else Cn q.2)) := by
  intro g gr gs gc j h d N A M E hm hb hh hD
  have hT := hS.2.2.1
  have bd := hm.bd
  obtain ⟨b, gA, f1, f2⟩ := hF g gr gs gc j h d N A M E hm (hb.up (by omega)) (by omega) (by omega)
  show ∃ b g', bnd (F g) (fun q => if q.1 = 0 then some (0, q.2) else Cn q.2) = some (b, g') ∧ _
  rw [bnd_s f1]
  rcases f2 with ⟨rfl, jA, hp, ht⟩ | ⟨rfl, o1, o2⟩ | ⟨rfl, o1⟩
  · show ∃ b g', Cn gA = some (b, g') ∧ _
    obtain ⟨a1, a2, a3, a4⟩ := hp.at
    by_cases hr : rk (kc (tk G jA)) = ρ
    · obtain ⟨g1, x1, x2, b, gC, x3, x4⟩ := bin_plain (c := c) (D := D) hS hn hm.bd.1 hp hr (fun o _ ho => by
        rcases ho with z | z | z
        · exact .inl z
        · exact .inr (.inr (.inl (by omega)))
        · omega) hb (by omega) (by omega) hF (by omega)
      rw [go gA jA a1 a2 a3 hr, go_eq hS a3 x1 x2 x3]
      rcases x4 with ⟨rfl, y1, v, g3, y2, y3⟩ | ⟨rfl, y1⟩
      · obtain ⟨z1, z2⟩ := go_act hS a3 y1
        rw [if_neg (by decide), hw gC jA y1 a3, z2, bnd_s y2]
        rcases y3 with ⟨j3, w1, w2, w3, w4⟩ | ⟨w1, w2⟩
        · by_cases hr3 : rk (kc (tk G j3)) = ρ
          · have w5 := w4 hρ hr3
            obtain ⟨c', m, N', A', M', mm, E', gr0, gs0, gc0, gr1, gc1, p1, p2, p3, p4, p5, p6, p7, p8, p9, ⟨p10, p11, p12, p13, p14⟩, _⟩ := id w2
            exact ⟨1, g3, rfl, .inr (.inl ⟨rfl, by omega, j3, N', A', p8.1.2.1, p8.1.2.2.2.2.1, p8.1.1, ⟨p10, p11, p13⟩, by omega, w5⟩)⟩
          · exact ⟨1, g3, rfl, .inl ⟨rfl, j3, w2, TC_down (by omega) w3 hr3⟩⟩
        · exact ⟨1, g3, rfl, .inr (.inl ⟨rfl, by omega, w2⟩)⟩
      · exact ⟨0, gC, by rw [if_pos rfl], .inr (.inr ⟨rfl, y1⟩)⟩
    · exact ⟨1, gA, stop gA jA a1 a2 a3 hr, .inl ⟨rfl, jA, hp.up, TC_down (by omega) ht hr⟩⟩
  · obtain ⟨j', A', a1, a2, a3, a4, a5, a6⟩ := o2.bd bd.1 bd.2.1 hT
    show ∃ b g', Cn gA = some (b, g') ∧ _
    exact ⟨1, gA, stop gA j' a5 a1 a4 (by omega), .inr (.inl ⟨rfl, by omega, o2.down (by omega)⟩)⟩
  · exact ⟨0, gA, rfl, .inr (.inr ⟨rfl, o1⟩)⟩
/-- what && and || do in the reference -/
def goS (F : Gs → Option (Int32 × Gs)) (o1 o2 : Int32) (jA : Nat) (gA : Gs) (C : Gs → Option (Int32 × Gs)) : Option (Int32 × Gs) := bnd (f_X12_node gA (nI jA)) (fun q => bnd (f_X12_act (sI q 20 (gI q 20 + 1)) o1 0 (gIA (sI q 20 (gI q 20 + 1)) 10 jA)) (fun q7 => bnd (F q7.2) (fun q9 => if q9.1 = 0 then some (0, q9.2) else bnd (f_X12_act q9.2 o2 0 (gIA q9.2 10 jA)) (fun q12 => grd (inB q7.1 8000) (C (sIA q12.2 15 (upd (gIA q12.2 15) q7.1.toNatClampNeg (gI q12.2 19))))))))
theorem lev_skip {n hP L T : Nat} {g2 G gt : Gs} {B : Nat → Nat} {ρ c D so ko : Nat} {F : Gs → Option (Int32 × Gs)} {Lp : Nat → Gs → Option (Int32 × Gs)} (hS : ScR n g2 L B G T) (hn : 20000 ≤ n) (hso : (ρ = 2 ∧ ko = 61 ∧ so = 67) ∨ (ρ = 1 ∧ ko = 62 ∧ so = 68)) (hF : LV n hP L T g2 G gt B (ρ + 1) c D F) (stop : ∀ k gA jA, Fr parA G gA → gI gA 20 = nI jA → jA < T → rk (kc (tk G jA)) ≠ ρ → Lp (k + 1) gA = some (1, gA)) (go : ∀ k gA jA, Fr parA G gA → gI gA 20 = nI jA → jA < T → kc (tk G jA) = ko → Lp (k + 1) gA = goS F (nI (ro so)) (nI (ro ko)) jA gA (Lp k)) : LV n hP L T g2 G gt B ρ (c + 1) (D + 1) (fun g => bnd (F g) (fun q => if q.1 = 0 then some (0, q.2) else Lp n q.2)) := by
  intro g gr gs gc j h d N A M E hm hb hh hD
  have hT := hS.2.2.1
  have bd := hm.bd
  have loop : ∀ k gA jA, T - jA < k → Pd n hP L T g2 G gt B ρ g gr gs gc j h d N A M E gA jA → TC (ρ + 1) (kc (tk G jA)) → ∃ b g', Lp k gA = some (b, g') ∧ OutL n hP L T g2 G gt B ρ g gr gs gc j h d N A M E b g' := by
    intro k
    induction k with
    | zero => intro gA jA hk; omega
    | succ k ih =>
      intro gA jA hk hp ht
      obtain ⟨a1, a2, a3, a4⟩ := hp.at
      by_cases hr : rk (kc (tk G jA)) = ρ
      · have hko : kc (tk G jA) = ko := by
          have e := kc_lt (hS.tok a3).2.2.1
          have : ∀ x : Fin 100, (rk x.val = 2 → x.val = 61) ∧ (rk x.val = 1 → x.val = 62) := by decide
          have := this ⟨kc (tk G jA), e⟩
          rcases hso with ⟨z1, z2, z3⟩ | ⟨z1, z2, z3⟩
          · rw [z2]; exact this.1 (by show rk (kc (tk G jA)) = 2; omega)
          · rw [z2]; exact this.2 (by show rk (kc (tk G jA)) = 1; omega)
        obtain ⟨g1, A0, gB, x1, x2, x2a, x2b, x2c, b, gC, x3, x4⟩ := bin_skip (c := c) (D := D) (so := so) hS hn hm.bd.1 hp hr (by omega) (fun o _ => PF_cl (by omega) (by omega) (by omega)) hb (by omega) (by omega) hF (by omega)
        obtain ⟨y1, y2⟩ := go_act hS a3 x2c
        rw [go k gA jA a1 a2 a3 hko]
        unfold goS
        rw [bnd_s x1, x2, nI_1, y2, bnd_s x2b, bnd_s x3]
        rcases x4 with ⟨rfl, y3, A2, g3, y4, y5, y6⟩ | ⟨rfl, y3⟩
        · obtain ⟨z1, z2⟩ := go_act hS a3 y3
          rw [hko] at y4
          show ∃ b g', bnd (f_X12_act gC (nI (ro ko)) 0 (gIA gC 10 jA)) _ = some (b, g') ∧ _
          rw [z2, bnd_s y4]
          show ∃ b g', grd (inB (nI (2000 + A0)) 8000) (Lp k (sIA g3 15 (upd (gIA g3 15) (nI (2000 + A0)).toNatClampNeg (gI g3 19)))) = some (b, g') ∧ _
          rw [grd_t (inB_nI (by omega) (by decide)), nI_clamp (by omega), y5]
          rcases y6 with ⟨j3, w1, w2, w3⟩ | w1
          · exact ih _ j3 (by omega) w2 w3
          · obtain ⟨j', A', b1, b2, b3, b4, b5, b6⟩ := w1.bd bd.1 bd.2.1 hT
            obtain ⟨k, rfl⟩ : ∃ q, k = q + 1 := ⟨k - 1, by omega⟩
            exact ⟨1, _, stop k _ j' b5 b1 b4 (by omega), .inr (.inl ⟨rfl, by omega, w1⟩)⟩
        · exact ⟨0, gC, rfl, .inr (.inr ⟨rfl, y3⟩)⟩
      · exact ⟨1, gA, stop k gA jA a1 a2 a3 hr, .inl ⟨rfl, jA, hp, TC_down (by omega) ht hr⟩⟩
  obtain ⟨b, g', f1, f2⟩ := hF g gr gs gc j h d N A M E hm (hb.up (by omega)) (by omega) (by omega)
  show ∃ b g', bnd (F g) (fun q => if q.1 = 0 then some (0, q.2) else Lp n q.2) = some (b, g') ∧ _
  rw [bnd_s f1]
  rcases f2 with ⟨rfl, j3, o1, o2⟩ | ⟨rfl, o1, o2⟩ | ⟨rfl, o1⟩
  · exact loop n g' j3 (by omega) o1.up o2
  · obtain ⟨j', A', b1, b2, b3, b4, b5, b6⟩ := o2.bd bd.1 bd.2.1 hT
    obtain ⟨k, hk⟩ : ∃ q, n = q + 1 := ⟨n - 1, by omega⟩
    refine ⟨1, g', ?_, .inr (.inl ⟨rfl, by omega, o2.down (by omega)⟩)⟩
    show Lp n g' = _
    have := stop k g' j' b5 b1 b4 (by omega)
    rw [← hk] at this; exact this
  · exact ⟨0, g', rfl, .inr (.inr ⟨rfl, o1⟩)⟩
