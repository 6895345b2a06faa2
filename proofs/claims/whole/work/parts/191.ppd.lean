/-! parsing: what reading a level comes to -/
abbrev rdA : List Nat := [4, 5, 6, 7, 8, 9, 10, 11, 12, 13, 16]
abbrev scA : List Nat := [3, 4, 5, 6, 7, 8, 9, 10, 11]
abbrev cdA : List Nat := [0, 1, 2, 3, 4, 5, 6, 7, 8, 9, 10]
def FC (gc gc' : Gs) : Prop := Fr cdA gc gc' ∧ (gI gc' 10 = 0 → gI gc 10 = 0)
theorem FC.trans {a b c : Gs} (h : FC a b) (h' : FC b c) : FC a c := ⟨h.1.trans h'.1, fun z => h.2 (h'.2 z)⟩
theorem FC.of {a b : Gs} {X : List Nat} (h : Fr X a b) (h10 : 10 ∉ X) (hX : ∀ k, k ∈ X → k ∈ cdA) : FC a b := ⟨h.mono hX, fun z => by rw [← (h 10 h10).1]; exact z⟩
/-- what stays: reader below height h, scanner, code, names below M -/
def Kp (gr gs gc g gr' gs' gc' g' : Gs) (h M : Nat) : Prop := Fr rdA gr gr' ∧ (∀ i, i < h → gIA gr' 4 i = gIA gr 4 i ∧ gIA gr' 5 i = gIA gr 5 i ∧ gIA gr' 6 i = gIA gr 6 i ∧ gIA gr' 7 i = gIA gr 7 i) ∧ Fr scA gs gs' ∧ FC gc gc' ∧ Nk g g' 0 M
theorem Kp.trans {gr gs gc g gr' gs' gc' g' gr'' gs'' gc'' g'' : Gs} {h M h' M' : Nat} (a : Kp gr gs gc g gr' gs' gc' g' h M) (b : Kp gr' gs' gc' g' gr'' gs'' gc'' g'' h' M') (hh : h ≤ h') (hM : M ≤ M') : Kp gr gs gc g gr'' gs'' gc'' g'' h M := by
  obtain ⟨a1, a2, a3, a4, a5⟩ := a
  obtain ⟨b1, b2, b3, b4, b5⟩ := b
  refine ⟨a1.trans b1, fun i hi => ?_, a3.trans b3, a4.trans b4, a5.trans b5 (by omega) (by omega)⟩
  obtain ⟨x1, x2, x3, x4⟩ := a2 i hi
  obtain ⟨y1, y2, y3, y4⟩ := b2 i (by omega)
  exact ⟨y1.trans x1, y2.trans x2, y3.trans x3, y4.trans x4⟩
/-- pending signs of a level of rank r -/
def PF (r o : Nat) : Prop := isA o ∨ max r 1 ≤ rk o ∨ (r = 0 ∧ o = 70)
/-- the token behind a level of rank r -/
def TC (r k : Nat) : Prop := if r = 0 then rk k = 0 ∧ k ≠ 44 else rk k < r
/-- the open sign below a level of rank r -/
def Bl (gr : Gs) (h r : Nat) : Prop := 0 < h → ∃ o, gIA gr 4 (h - 1) = nI o ∧ o < 100 ∧ (r = 7 ∨ (rk o < max r 1 ∧ ¬ isA o))
def Pd (n hP L T : Nat) (g2 G gt : Gs) (B : Nat → Nat) (r : Nat) (g gr gs gc : Gs) (j h d N A M : Nat) (E : Nat → Nat × Nat × Nat) (g' : Gs) (j' : Nat) : Prop := ∃ (c m N' A' M' mm : Nat) (E' : Nat → Nat × Nat × Nat) (gr0 gs0 gc0 gr1 gc1 : Gs), Gos n hP gt g2 c (gr, gs, gc, 2) (gr0, gs0, gc0, 3) ∧ c ≤ 2 * (j' - j) ∧ j < j' ∧ clo hP m (sI gr0 10 1, gc0) = some (gr1, gc1) ∧ gI gr0 8 = nI (h + m) ∧ h + m ≤ 300 ∧ (∀ i, h ≤ i → i < h + m → ∃ o, gIA gr0 4 i = nI o ∧ o < 100 ∧ PF r o) ∧ MS n hP L T g2 G gt B g' gr1 gs0 gc1 j' h d N' A' M' E' ∧ Kp gr gs gc g gr1 gs0 gc1 g' h M ∧ (3 * A' + 5 * N + 2 ≤ 5 * N' + 3 * A ∧ N' + j ≤ N + j' ∧ M' + j ≤ M + j' ∧ A ≤ A' ∧ M ≤ M') ∧ (∀ i, i < A → E' i = E i) ∧ Nm G g' E' A A' M M' j j' ∧ Eg E' mm A A'
/-- the class refuses at token j' -/
def Rfd (n hP L T : Nat) (g2 G gt : Gs) (B : Nat → Nat) (gr gs gc : Gs) (j j' : Nat) : Prop := j ≤ j' ∧ j' < T ∧ ∃ c gr' gs' gc', Gos n hP gt g2 c (gr, gs, gc, 2) (gr', gs', gc', 0) ∧ c ≤ 2 * (j' - j) + 1 ∧ TokAt L B G gt j' gs' ∧ Fr rdA gr gr' ∧ Fr scA gs gs' ∧ Fr cdA gc gc'
/-- the reference goes on, the class has refused: a second == or < -/
def Doom (n hP L T : Nat) (g2 G gt : Gs) (B : Nat → Nat) (r : Nat) (gr gs gc : Gs) (j N A : Nat) (g' : Gs) : Prop := ∃ j' N' A', gI g' 20 = nI j' ∧ gI g' 19 = nI (2000 + A') ∧ Fr parA G g' ∧ (3 * A' + 5 * N + 2 ≤ 5 * N' + 3 * A ∧ N' + j ≤ N + j' ∧ A ≤ A') ∧ (rk (kc (tk G j')) = 4 ∨ (r ≤ 3 ∧ rk (kc (tk G j')) = 3)) ∧ Rfd n hP L T g2 G gt B gr gs gc j j'
/-- both refuse -/
def Rf (n hP L T : Nat) (g2 G gt : Gs) (B : Nat → Nat) (gr gs gc : Gs) (j : Nat) (g' : Gs) : Prop := ∃ j', gI g' 21 = 1 ∧ gI g' 22 = nI (ta G j') ∧ Fr parA G g' ∧ Rfd n hP L T g2 G gt B gr gs gc j j'
def OutL (n hP L T : Nat) (g2 G gt : Gs) (B : Nat → Nat) (r : Nat) (g gr gs gc : Gs) (j h d N A M : Nat) (E : Nat → Nat × Nat × Nat) (b : Int32) (g' : Gs) : Prop := (b = 1 ∧ ∃ j', Pd n hP L T g2 G gt B r g gr gs gc j h d N A M E g' j' ∧ TC r (kc (tk G j'))) ∨ (b = 1 ∧ r ≤ 4 ∧ Doom n hP L T g2 G gt B r gr gs gc j N A g') ∨ (b = 0 ∧ Rf n hP L T g2 G gt B gr gs gc j g')
def LV (n hP L T : Nat) (g2 G gt : Gs) (B : Nat → Nat) (r c D : Nat) (F : Gs → Option (Int32 × Gs)) : Prop := ∀ (g gr gs gc : Gs) (j h d N A M : Nat) (E : Nat → Nat × Nat × Nat), MS n hP L T g2 G gt B g gr gs gc j h d N A M E → Bl gr h r → h + 1 ≤ 7 * d + max r 1 → 10 * (40 - d) + c ≤ D → ∃ b g', F g = some (b, g') ∧ OutL n hP L T g2 G gt B r g gr gs gc j h d N A M E b g'
theorem Rfd.after {n hP L T : Nat} {g2 G gt : Gs} {B : Nat → Nat} {gr gs gc gr' gs' gc' g g' : Gs} {j j1 j' c h M : Nat} (h1 : Rfd n hP L T g2 G gt B gr' gs' gc' j1 j') (hg : Gos n hP gt g2 c (gr, gs, gc, 2) (gr', gs', gc', 2)) (hc : c ≤ 2 * (j1 - j)) (hj : j ≤ j1) (hk : Kp gr gs gc g gr' gs' gc' g' h M) : Rfd n hP L T g2 G gt B gr gs gc j j' := by
  obtain ⟨a1, a2, x, r1, s1, c1, b1, b2, b3, b4, b5, b6⟩ := h1
  exact ⟨by omega, a2, _, r1, s1, c1, Gos.add b1 hg, by omega, b3, hk.1.trans b4, hk.2.2.1.trans b5, hk.2.2.2.1.1.trans b6⟩
/-- behind every token but the last one lies another -/
theorem tok_more {n L T : Nat} {g2 G : Gs} {B : Nat → Nat} {j : Nat} (hS : ScR n g2 L B G T) (hj : j < T) (hk : 2 ≤ kc (tk G j)) : j + 1 < T := by
  by_cases h : j + 1 < T
  · exact h
  · have : j = T - 1 := by omega
    rcases hS.2.2.2.2.2 with z | z
    · rw [this, z] at hk; exact absurd hk (by decide)
    · rw [this, z] at hk; exact absurd hk (by decide)
theorem kc_lt {K : Nat} (h : K ∈ KS) : kc K < 100 := by
  have : ∀ x ∈ KS, kc x < 100 := by decide
  exact this K h
theorem rk_ge {o : Nat} (h : 0 < rk o) : 49 ≤ o ∧ o ≤ 62 ∧ o ≠ 54 := by
  unfold rk at h
  split at h <;> (try split at h) <;> (try split at h) <;> (try split at h) <;> (try split at h) <;> (try split at h) <;> omega
/-- reader and code ahead of a token behind a whole part: all pending signs are closed -/
theorem pend_close {n hP : Nat} {r ρ m h : Nat} {e : Bool} {gr0 gc0 gr1 gc1 : Gs} (hn : 20000 ≤ n) (hρ : ρ ≤ 6) (hc : clo hP m (sI gr0 10 1, gc0) = some (gr1, gc1)) (h8 : gI gr0 8 = nI (h + m)) (hh : h + m ≤ 300) (hf : ∀ i, h ≤ i → i < h + m → ∃ o, gIA gr0 4 i = nI o ∧ o < 100 ∧ PF r o) (hcl : ∀ o, o < 100 → PF r o → clsd o ρ e) (hb : 0 < h → ∃ o, gIA gr1 4 (h - 1) = nI o ∧ o < 100 ∧ ¬ clsd o ρ e) : f_X5_closeParts n hP (sI gr0 10 1) gc0 (nI ρ) (sgB e) = some (gr1, gc1) := by
  have sh := clo_shape (h := h) (s := (sI gr0 10 1, gc0)) h8 hc
  have e4 : gIA gr1 4 = gIA gr0 4 := (sh.2 4 (by decide)).2.2.2.1
  refine close_all (h := h) (m := m) (by omega) hρ h8 hh (fun i i1 i2 => ?_) hc (fun z => ?_)
  · obtain ⟨o, o1, o2, o3⟩ := hf i i1 i2
    exact ⟨o, o1, o2, hcl o o2 o3⟩
  · obtain ⟨o, o1, o2, o3⟩ := hb z
    rw [e4] at o1
    exact ⟨o, o1, o2, o3⟩
