/-! parsing: more of closing; names -/
theorem ClS_shut {G gr gc : Gs} {hP h d N A A' : Nat} {E E' : Nat → Nat × Nat × Nat} (hC : CS G gr gc hP h d N A E) (h10 : ¬ gI gc 10 = 0) : CS G gr gc hP h d N A' E' := by
  obtain ⟨c1, c2, c3, c4, c5, c6⟩ := hC
  exact ⟨c1, c2, c3, c4, c5, fun z => absurd z h10⟩
theorem CS.patch {G gr gc : Gs} {hP h d N A m o p x : Nat} {E : Nat → Nat × Nat × Nat} (hC : CS G gr gc hP h d N A E) (hm : m < A) (hE : E m = (o, p, 9999)) (ho : opJ o) : CS G gr (sIA gc 5 (upd (gIA gc 5) m (nI x))) hP h d N A (upE E m (o, p, x)) := by
  obtain ⟨c1, c2, c3, c4, c5, c6⟩ := hC
  refine ⟨c1, c2, c3, c4, c5, fun z => ?_⟩
  obtain ⟨o1, o2, o3⟩ := c6 z
  refine ⟨o1, o2, fun i hi => ?_⟩
  by_cases him : i = m
  · rw [him, upE_s]
    have := o3 m hm
    rw [hE] at this
    unfold opJ at ho
    refine ⟨this.1, this.2.1, fun z => ?_, fun z => ?_, fun z => ?_, fun _ _ => ?_, fun z => ?_⟩
    · have z : o = 3 := z; omega
    · have z : o = 66 := z; omega
    · have z : o = 63 ∨ o = 16 ∨ o = 64 := z; omega
    · show upd (gIA gc 5) m (nI x) m = _; rw [pk_us]
    · have z : o = 44 := z; omega
  · rw [upE_n him]
    refine (o3 i hi).keep rfl rfl rfl rfl ?_ rfl rfl
    show upd (gIA gc 5) m (nI x) i = _; rw [pk_un him]
theorem pop_join {G gr gc : Gs} {hP h d N A K p m so p' : Nat} {E : Nat → Nat × Nat × Nat} (hC : CS G gr gc hP (h + 1) d N A E) (hb : 3 * A ≤ 5 * N) (hh : h < 320) (hK : K = 61 ∨ K = 62) (h4 : gIA gr 4 h = nI K) (h5 : gIA gr 5 h = nI (ta G p)) (h6 : gI gc 10 = 0 → gIA gr 6 h = nI m) (hm : m < A) (hE : E m = (so, p', 9999)) (hso : opJ so) : Pop G hP h d N A E gr gc d (upE (upE E A (K, p, 0)) m (so, p', A)) := by
  have k0 : dl K = 0 := by rcases hK with rfl | rfl <;> rfl
  have fr : Fr [8, 9] gr (sI (sI gr 9 (nI (d - dl K))) 8 (nI h)) := (Fr.sI (by decide) _ _).trans (Fr.sI (by decide) _ _)
  have ed : nI (d - dl K) = nI d := by rw [k0]; rfl
  by_cases h10 : gI gc 10 = 0
  · obtain ⟨r1, r2⟩ := hC.room hb h10
    refine ⟨_, _, pop1_eq hC.1 hC.2.1 hh h4 (by omega) (by omega) (write_join hC.2.2.1 rfl hh h10 r2 r1 hK (h6 h10) (by omega)), ?_, fr, (addG_fr _ _ _ _).trans (Fr.sIA (by decide) _ _)⟩
    have c := (hC.put (q := (K, p, 0)) (gc' := addG gc A (nI K) (gIA gr 5 h)) rfl rfl fun _ => ⟨rfl, fun i hi => ((hC.2.2.2.2.2 h10).2.2 i hi).add (by omega), by
      obtain ⟨q1, q2, _⟩ := addG_at gc A (nI K) (gIA gr 5 h)
      exact ce_P (by omega) (by omega) (by unfold opN; omega) (by unfold opJ; omega) (by omega) q1 (by rw [q2, h5])⟩).rd (gr' := sI (sI gr 9 (nI (d - dl K))) 8 (nI h)) (h' := h) (d' := d) rfl ed rfl rfl
    exact c.patch (by omega) (by rw [upE_n (by omega)]; exact hE) hso
  · exact ⟨_, _, pop1_eq hC.1 hC.2.1 hh h4 (by omega) (by omega) (write_shut hC.2.2.1 rfl hh h10), (ClS_shut hC h10).rd rfl ed rfl rfl, fr, Fr.refl _ _⟩
theorem pop_else {G gr gc : Gs} {hP h d N A p m p' : Nat} {E : Nat → Nat × Nat × Nat} (hC : CS G gr gc hP (h + 1) (d + 1) N A E) (hb : 3 * A ≤ 5 * N) (hh : h < 320) (h4 : gIA gr 4 h = nI 70) (h5 : gIA gr 5 h = nI (ta G p)) (h6 : gI gc 10 = 0 → gIA gr 6 h = nI m) (hm : m < A) (hE : E m = (70, p', 9999)) : Pop G hP h (d + 1) N A E gr gc d (upE (upE E A (44, p, m)) m (70, p', A)) := by
  have fr : Fr [8, 9] gr (sI (sI gr 9 (nI (d + 1 - dl 70))) 8 (nI h)) := (Fr.sI (by decide) _ _).trans (Fr.sI (by decide) _ _)
  by_cases h10 : gI gc 10 = 0
  · obtain ⟨r1, r2⟩ := hC.room hb h10
    refine ⟨_, _, pop1_eq hC.1 hC.2.1 hh h4 (by decide) (by show 1 ≤ d + 1; omega) (write_else hC.2.2.1 rfl hh h10 r2 r1 (h6 h10) (by omega)), ?_, fr, ((addG_fr _ _ _ _).trans (Fr.sIA (by decide) _ _)).trans (Fr.sIA (by decide) _ _)⟩
    have c := (hC.put (q := (44, p, m)) (gc' := sIA (addG gc A 44 (gIA gr 5 h)) 5 (upd (gIA (addG gc A 44 (gIA gr 5 h)) 5) A (nI m))) rfl rfl fun _ => ⟨rfl, fun i hi => by
        refine (((hC.2.2.2.2.2 h10).2.2 i hi).add (N := A) (o := 44) (p := gIA gr 5 h) (by omega)).keep rfl rfl rfl rfl ?_ rfl rfl
        show upd _ A _ i = _; rw [pk_un (by omega)], by
      obtain ⟨q1, q2, _⟩ := addG_at gc A 44 (gIA gr 5 h)
      refine ⟨q1, by rw [← h5]; exact q2, fun z => absurd z (show ¬ (44 : Nat) = 3 by decide), fun z => absurd z (show ¬ (44 : Nat) = 66 by decide), fun z => ?_, fun z => ?_, fun _ => ?_⟩
      · have z : 44 = 63 ∨ 44 = 16 ∨ 44 = 64 := z; omega
      · have z : 67 ≤ 44 ∧ 44 ≤ 70 := z; omega
      · show upd _ A _ A = _; rw [pk_us]⟩).rd (gr' := sI (sI gr 9 (nI (d + 1 - dl 70))) 8 (nI h)) (h' := h) (d' := d) rfl rfl rfl rfl
    exact c.patch (by omega) (by rw [upE_n (by omega)]; exact hE) (by unfold opJ; omega)
  · exact ⟨_, _, pop1_eq hC.1 hC.2.1 hh h4 (by decide) (by show 1 ≤ d + 1; omega) (write_shut hC.2.2.1 rfl hh h10), (ClS_shut hC h10).rd rfl rfl rfl rfl, fr, Fr.refl _ _⟩
/-- the : of a ? -/
theorem else_both {G gr gc : Gs} {hP h d N A p m p' : Nat} {E : Nat → Nat × Nat × Nat} (hC : CS G gr gc hP (h + 1) d N A E) (hb : 3 * A ≤ 5 * N) (hh : h < 320) (h5 : gIA gr 5 h = nI (ta G p)) (h6 : gI gc 10 = 0 → gIA gr 6 h = nI m) (hm : m < A) (hE : E m = (69, p', 9999)) : ∃ gr' gc', f_X5_readElse hP gr gc = some (2, gr', gc') ∧ CS G gr' gc' hP (h + 1) d N (A + 1) (upE (upE E A (70, p, 9999)) m (69, p', A)) ∧ Fr [4, 6] gr gr' ∧ Fr [0, 1, 2, 3, 4, 5, 6, 7, 8] gc gc' ∧ gIA gr' 4 h = 70 ∧ gIA gr' 5 h = nI (ta G p) ∧ (gI gc' 10 = 0 → gIA gr' 6 h = nI A) ∧ (∀ i, i < h → gIA gr' 4 i = gIA gr 4 i ∧ gIA gr' 6 i = gIA gr 6 i) := by
  by_cases h10 : gI gc 10 = 0
  · obtain ⟨r1, r2⟩ := hC.room hb h10
    refine ⟨_, _, else_open hC.2.2.1 hC.1 hh h10 r2 r1 (h6 h10) (by omega), ?_, (Fr.sIA (by decide) _ _).trans (Fr.sIA (by decide) _ _), (addG_fr _ _ _ _).trans (Fr.sIA (by decide) _ _), ?_, h5, fun _ => ?_, fun i hi => ⟨?_, ?_⟩⟩
    · have c := (hC.put (q := (70, p, 9999)) (gc' := addG gc A 70 (gIA gr 5 h)) rfl rfl fun _ => ⟨rfl, fun i hi => ((hC.2.2.2.2.2 h10).2.2 i hi).add (by omega), by
        obtain ⟨q1, q2, _⟩ := addG_at gc A 70 (gIA gr 5 h)
        exact ce_P (by omega) (by omega) (by unfold opN; omega) (fun _ => rfl) (by omega) q1 (by rw [q2, h5])⟩).rd (gr' := sIA (sIA gr 4 (upd (gIA gr 4) h 70)) 6 (upd (gIA gr 6) h (nI A))) (h' := h + 1) (d' := d) hC.1 hC.2.1 rfl rfl
      exact c.patch (by omega) (by rw [upE_n (by omega)]; exact hE) (by unfold opJ; omega)
    · show upd _ h _ h = _; rw [pk_us]
    · show upd _ h _ h = _; rw [pk_us]
    · show upd _ h _ i = _; rw [pk_un (by omega)]
    · show upd _ h _ i = _; rw [pk_un (by omega)]
  · refine ⟨_, _, else_shut hC.2.2.1 hC.1 hh h10, (ClS_shut hC h10).rd hC.1 hC.2.1 rfl rfl, (Fr.sIA (by decide) _ _).trans (Fr.sIA (by decide) _ _), Fr.refl _ _, ?_, h5, fun z => absurd z h10, fun i hi => ⟨?_, ?_⟩⟩
    · show upd _ h _ h = _; rw [pk_us]
    · show upd _ h _ i = _; rw [pk_un (by omega)]
    · show upd _ h _ i = _; rw [pk_un (by omega)]
/-! names -/
def nt (g : Gs) (i : Nat) : Nat := (gIA g 29 i).toNatClampNeg
def Nrow (G g : Gs) (E : Nat → Nat × Nat × Nat) (i A A' j j' : Nat) : Prop := gIA g 29 i = nI (nt g i) ∧ j ≤ nt g i ∧ nt g i < j' ∧ gIA g 30 i = (if gI G 26 = 0 then 9999 else gI G 33 - 1) ∧ gIA g 31 i = (if gI G 26 = 0 then 9999 else gI G 35) ∧ ∃ a, A ≤ a ∧ a < A' ∧ gIA g 32 i = nI (2000 + a) ∧ opN (E a).1 ∧ (E a).2.2 = nt g i ∧ gIA g 28 i = (if (E a).1 = 64 then 2 else 1)
def Nm (G g : Gs) (E : Nat → Nat × Nat × Nat) (A A' M M' j j' : Nat) : Prop := (∀ i, M ≤ i → i < M' → Nrow G g E i A A' j j') ∧ (∀ i i', M ≤ i → i < i' → i' < M' → nt g i < nt g i') ∧ (∀ a, A ≤ a → a < A' → opN (E a).1 → ∃ i, M ≤ i ∧ i < M' ∧ nt g i = (E a).2.2 ∧ gIA g 32 i = nI (2000 + a))
/-- the rows of names from M to M' are the same -/
def Nk (g g' : Gs) (M M' : Nat) : Prop := ∀ i, M ≤ i → i < M' → gIA g' 28 i = gIA g 28 i ∧ gIA g' 29 i = gIA g 29 i ∧ gIA g' 30 i = gIA g 30 i ∧ gIA g' 31 i = gIA g 31 i ∧ gIA g' 32 i = gIA g 32 i
theorem Nk.fr {g g' : Gs} {X : List Nat} (M M' : Nat) (h : Fr X g g') (hX : 28 ∉ X ∧ 29 ∉ X ∧ 30 ∉ X ∧ 31 ∉ X ∧ 32 ∉ X) : Nk g g' M M' := fun i _ _ => ⟨by rw [(h 28 hX.1).2.2.2.1], by rw [(h 29 hX.2.1).2.2.2.1], by rw [(h 30 hX.2.2.1).2.2.2.1], by rw [(h 31 hX.2.2.2.1).2.2.2.1], by rw [(h 32 hX.2.2.2.2).2.2.2.1]⟩
theorem Nk.trans {g g' g'' : Gs} {M M' K K' : Nat} (h : Nk g g' M M') (h' : Nk g' g'' K K') (hK : K ≤ M) (hK' : M' ≤ K') : Nk g g'' M M' := fun i i1 i2 => by
  obtain ⟨a1, a2, a3, a4, a5⟩ := h i i1 i2
  obtain ⟨b1, b2, b3, b4, b5⟩ := h' i (by omega) (by omega)
  exact ⟨b1.trans a1, b2.trans a2, b3.trans a3, b4.trans a4, b5.trans a5⟩
theorem Nk.ntE {g g' : Gs} {M M' i : Nat} (h : Nk g g' M M') (h1 : M ≤ i) (h2 : i < M') : nt g' i = nt g i := by
  unfold nt; rw [(h i h1 h2).2.1]
theorem Nm.keep {G g g' : Gs} {E E' : Nat → Nat × Nat × Nat} {A A' M M' j j' K K' : Nat} (h : Nm G g E A A' M M' j j') (hk : Nk g g' K K') (hK : K ≤ M) (hK' : M' ≤ K') (hE : ∀ a, A ≤ a → a < A' → (opN (E a).1 ∨ opN (E' a).1) → E' a = E a) : Nm G g' E' A A' M M' j j' := by
  obtain ⟨h1, h2, h3⟩ := h
  refine ⟨fun i i1 i2 => ?_, fun i i' i1 i2 i3 => ?_, fun a a1 a2 a3 => ?_⟩
  · obtain ⟨x1, x2, x3, x4, x5, a, a1, a2, a3, a4, a5, a6⟩ := h1 i i1 i2
    obtain ⟨k1, k2, k3, k4, k5⟩ := hk i (by omega) (by omega)
    have e := hk.ntE (i := i) (by omega) (by omega)
    have ea := hE a a1 a2 (.inl a4)
    refine ⟨by rw [e, k2]; exact x1, by rw [e]; exact x2, by rw [e]; exact x3, by rw [k3]; exact x4, by rw [k4]; exact x5, a, a1, a2, by rw [k5]; exact a3, by rw [ea]; exact a4, by rw [ea, e]; exact a5, by rw [ea, k1]; exact a6⟩
  · rw [hk.ntE (i := i) (by omega) (by omega), hk.ntE (i := i') (by omega) (by omega)]; exact h2 i i' i1 i2 i3
  · have ea := hE a a1 a2 (.inr a3)
    rw [ea] at a3 ⊢
    obtain ⟨i, i1, i2, i3, i4⟩ := h3 a a1 a2 a3
    exact ⟨i, i1, i2, by rw [hk.ntE (i := i) (by omega) (by omega)]; exact i3, by rw [(hk i (by omega) (by omega)).2.2.2.2]; exact i4⟩
theorem Nm.wide {G g : Gs} {E : Nat → Nat × Nat × Nat} {A A' M M' j j' k k' : Nat} (h : Nm G g E A A' M M' j j') (hj : k ≤ j) (hj' : j' ≤ k') : Nm G g E A A' M M' k k' := by
  obtain ⟨h1, h2, h3⟩ := h
  refine ⟨fun i i1 i2 => ?_, h2, h3⟩
  obtain ⟨x1, x2, x3, x4⟩ := h1 i i1 i2
  exact ⟨x1, by omega, by omega, x4⟩
theorem Nm.join {G g : Gs} {E : Nat → Nat × Nat × Nat} {A A1 A2 M M1 M2 j j1 j2 : Nat} (h : Nm G g E A A1 M M1 j j1) (h' : Nm G g E A1 A2 M1 M2 j1 j2) (hA : A ≤ A1) (hA' : A1 ≤ A2) (hM : M ≤ M1) (hM' : M1 ≤ M2) (hj : j ≤ j1) (hj' : j1 ≤ j2) : Nm G g E A A2 M M2 j j2 := by
  obtain ⟨h1, h2, h3⟩ := h
  obtain ⟨g1, g2, g3⟩ := h'
  refine ⟨fun i i1 i2 => ?_, fun i i' i1 i2 i3 => ?_, fun a a1 a2 a3 => ?_⟩
  · by_cases c : i < M1
    · obtain ⟨x1, x2, x3, x4, x5, a, a1, a2, a3⟩ := h1 i i1 c
      exact ⟨x1, x2, by omega, x4, x5, a, a1, by omega, a3⟩
    · obtain ⟨x1, x2, x3, x4, x5, a, a1, a2, a3⟩ := g1 i (by omega) i2
      exact ⟨x1, by omega, x3, x4, x5, a, by omega, a2, a3⟩
  · by_cases c : i' < M1
    · exact h2 i i' i1 i2 c
    · by_cases c' : i < M1
      · have a := (h1 i i1 c').2.2.1
        have b := (g1 i' (by omega) i3).2.1
        omega
      · exact g2 i i' (by omega) i2 i3
  · by_cases c : a < A1
    · obtain ⟨i, i1, i2, i3⟩ := h3 a a1 c a3
      exact ⟨i, i1, by omega, i3⟩
    · obtain ⟨i, i1, i2, i3⟩ := g3 a (by omega) a2 a3
      exact ⟨i, by omega, i2, i3⟩
/-- an entry without a NAME -/
theorem Nm.none {G g : Gs} {E : Nat → Nat × Nat × Nat} {A M j : Nat} (h : ¬ opN (E A).1) : Nm G g E A (A + 1) M M j j := ⟨fun i i1 i2 => by omega, fun i i' i1 i2 i3 => by omega, fun a a1 a2 a3 => by
  have : a = A := by omega
  rw [this] at a3; exact absurd a3 h⟩
/-- one NAME -/
theorem Nm.one {G g : Gs} {E : Nat → Nat × Nat × Nat} {A M t j j' : Nat} (ht : t < 2 ^ 31) (h29 : gIA g 29 M = nI t) (h30 : gIA g 30 M = (if gI G 26 = 0 then 9999 else gI G 33 - 1)) (h31 : gIA g 31 M = (if gI G 26 = 0 then 9999 else gI G 35)) (h32 : gIA g 32 M = nI (2000 + A)) (h28 : gIA g 28 M = (if (E A).1 = 64 then 2 else 1)) (hE : opN (E A).1) (hx : (E A).2.2 = t) (hj : j ≤ t) (hj' : t < j') : Nm G g E A (A + 1) M (M + 1) j j' := by
  have e : nt g M = t := by unfold nt; rw [h29, nI_clamp ht]
  refine ⟨fun i i1 i2 => ?_, fun i i' i1 i2 i3 => by omega, fun a a1 a2 a3 => ?_⟩
  · have : i = M := by omega
    rw [this]
    exact ⟨by rw [e]; exact h29, by omega, by omega, h30, h31, A, by omega, by omega, h32, hE, by rw [e]; exact hx, h28⟩
  · have : a = A := by omega
    rw [this]
    exact ⟨M, by omega, by omega, by rw [e]; exact hx.symm, h32⟩
