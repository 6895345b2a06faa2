/-! a number, on both sides -/
theorem da_lt {C : Nat → Nat} {p V : Nat} : ∀ m, (∀ i, i < m → isD (C (p + i)) = true) → da C p V m < (V + 1) * 10 ^ m := by
  intro m
  induction m with
  | zero => intro _; rw [Nat.pow_zero, Nat.mul_one]; exact Nat.lt_succ_self V
  | succ m ih =>
    intro h
    have h1 := ih (fun i hi => h i (by omega))
    have h2 := isD_range (h m (by omega))
    show da C p V m * 10 + (C (p + m) - 48) < _
    rw [Nat.pow_succ, ← Nat.mul_assoc]
    omega
theorem nVal_lt {L f d1 s t q0 E : Nat} {B : Nat → Nat} {pt pw mn : Bool} (hN : NumS L B f d1 s t q0 E pt pw mn) (h : d1 - f + nBeh d1 s pt ≤ 15) : nVal L B f d1 s pt < 10 ^ 15 := by
  obtain ⟨⟨n1, n2, n3⟩, n4, _⟩ := hN
  have a := da_lt (C := rc L B) (p := f) (V := 0) (d1 - f) (fun i hi => n2 _ (by omega) (by omega))
  rw [Nat.zero_add, Nat.one_mul] at a
  unfold nVal
  unfold nBeh at h
  rcases n4 with ⟨rfl, p1, p2, p3, p4⟩ | ⟨rfl, p1, p2⟩
  · rw [if_pos rfl] at h ⊢
    have b := da_lt (C := rc L B) (p := d1 + 1) (V := da (rc L B) f 0 (d1 - f)) (s - (d1 + 1)) (fun i hi => p3 _ (by omega) (by omega))
    refine Nat.lt_of_lt_of_le b ?_
    have c : (da (rc L B) f 0 (d1 - f) + 1) * 10 ^ (s - (d1 + 1)) ≤ 10 ^ (d1 - f) * 10 ^ (s - (d1 + 1)) := Nat.mul_le_mul_right _ a
    refine Nat.le_trans c ?_
    rw [← Nat.pow_add]
    exact Nat.pow_le_pow_right (by decide) h
  · rw [if_neg (by decide)] at h ⊢
    exact Nat.lt_of_lt_of_le a (Nat.pow_le_pow_right (by decide) (by omega))
/-- where a number's tail ends -/
def nT (L : Nat) (B : Nat → Nat) (t : Nat) : Nat := if rc L B t = 108 ∨ rc L B t = 102 then t + 1 else t
def nSort (L : Nat) (B : Nat → Nat) (t : Nat) (pt pw : Bool) : Nat := if rc L B t = 108 then 5 else if rc L B t = 102 then 6 else if pt = false ∧ pw = false then 4 else 7
/-- letters, digits and points do not follow -/
def nEnd (L : Nat) (B : Nat → Nat) (t' : Nat) : Prop := isL (rc L B t') = false ∧ isD (rc L B t') = false ∧ rc L B t' ≠ 46
theorem num_to {L f d1 s t q0 E : Nat} {B : Nat → Nat} {pt pw mn : Bool} (hN : NumS L B f d1 s t q0 E pt pw mn) : ∃ to, f < to ∧ to ≤ L ∧ (∀ i, f ≤ i → i < to → runC L B i) ∧ ¬ runC L B to ∧ nT L B t ≤ L ∧ (¬ nEnd L B (nT L B t) → nT L B t ≠ to) ∧ (¬ (pw = true ∧ (t = q0 ∨ 1100 < E)) → nEnd L B (nT L B t) → nT L B t = to) := by
  obtain ⟨l1, l2, l3, l4, l5, l6⟩ := hN.le
  obtain ⟨⟨n1, n2, n3⟩, n4, n5⟩ := hN
  have noend : ¬ runC L B L := by
    unfold runC
    rw [rc_out (Nat.le_refl L)]
    intro z
    rcases z with z | z | z | z
    · exact absurd z (by decide)
    · exact absurd z (by decide)
    · omega
    · omega
  obtain ⟨to, t1, t2, t3, t4⟩ := first_not (runC L B) L (L - f) f (by omega)
  have hnt : ¬ runC L B to := by
    by_cases hq : to < L
    · exact t4 hq
    · rw [show to = L by omega]; exact noend
  -- all of the number's bytes run on
  have run : ∀ i, f ≤ i → i < nT L B t → runC L B i := by
    intro i h1 h2
    by_cases c1 : i < d1
    · exact .inl (n2 i h1 c1)
    by_cases c2 : i < s
    · rcases n4 with ⟨_, p1, p2, p3, _⟩ | ⟨_, _, p2⟩
      · by_cases c3 : i = d1
        · exact .inr (.inr (.inl (by rw [c3]; exact p1)))
        · exact .inl (p3 i (by omega) c2)
      · omega
    by_cases c3 : i < t
    · rcases n5 with ⟨_, p1, p2, p3, p4, _⟩ | ⟨_, _, _, p3, _⟩
      · by_cases c4 : i = s
        · exact .inr (.inl (by rw [c4, p1]; decide))
        · by_cases c5 : i < q0
          · rcases p2 with ⟨_, b1, b2⟩ | ⟨_, _, b2⟩
            · have : i = s + 1 := by omega
              exact .inr (.inr (.inr ⟨by rw [this]; exact b1, by rw [this, Nat.add_sub_cancel]; exact p1⟩))
            · omega
          · exact .inl (p4 i (by omega) c3)
      · omega
    · unfold nT at h2
      by_cases hl : rc L B t = 108 ∨ rc L B t = 102
      · rw [if_pos hl] at h2
        have : i = t := by omega
        refine .inr (.inl ?_)
        rw [this]
        rcases hl with hl | hl <;> rw [hl] <;> decide
      · rw [if_neg hl] at h2; omega
  have hT : nT L B t ≤ L := by
    unfold nT
    by_cases hl : rc L B t = 108 ∨ rc L B t = 102
    · rw [if_pos hl]
      have : t < L := by
        refine Classical.byContradiction fun z => ?_
        rw [rc_out (by omega)] at hl; omega
      omega
    · rw [if_neg hl]; omega
  have hge : nT L B t ≤ to := by
    refine Classical.byContradiction fun z => ?_
    exact hnt (run to t1 (by omega))
  have htT : t ≤ nT L B t := by unfold nT; split <;> omega
  refine ⟨to, by omega, t2, t3, hnt, hT, ?_, ?_⟩
  · intro he z
    apply hnt
    rw [← z]
    unfold nEnd at he
    by_cases e1 : isD (rc L B (nT L B t)) = true
    · exact .inl e1
    by_cases e2 : isL (rc L B (nT L B t)) = true
    · exact .inr (.inl e2)
    refine .inr (.inr (.inl ?_))
    refine Classical.byContradiction fun e3 => he ⟨by rw [← Bool.not_eq_true]; exact e2, by rw [← Bool.not_eq_true]; exact e1, e3⟩
  · intro hb he
    refine Nat.le_antisymm hge (Classical.byContradiction fun z => ?_)
    have hr := t3 (nT L B t) (by omega) (by omega)
    obtain ⟨e1, e2, e3⟩ := he
    rcases hr with hr | hr | hr | ⟨hr, hr2⟩
    · rw [e2] at hr; exact absurd hr (by decide)
    · rw [e1] at hr; exact absurd hr (by decide)
    · exact e3 hr
    · -- a - behind a p
      have hd : ∀ {i}, isD (rc L B i) = true → rc L B i = 112 → False := by
        intro i h1 h2; rw [h2] at h1; exact absurd h1 (by decide)
      unfold nT at hr2 hr
      by_cases hl : rc L B t = 108 ∨ rc L B t = 102
      · rw [if_pos hl, Nat.add_sub_cancel] at hr2; omega
      · rw [if_neg hl] at hr2
        rcases n5 with ⟨hp, p1, p2, p3, p4, p5, _⟩ | ⟨_, p1, _, p3, _⟩
        · have hq : ¬ t = q0 := fun z => hb ⟨hp, .inl z⟩
          exact hd (p4 (t - 1) (by omega) (by omega)) hr2
        · subst p3
          rcases n4 with ⟨_, a1, a2, a3, _⟩ | ⟨_, _, a2⟩
          · by_cases c : t = d1 + 1
            · rw [c, Nat.add_sub_cancel, a1] at hr2; omega
            · exact hd (a3 (t - 1) (by omega) (by omega)) hr2
          · subst a2
            exact hd (n2 (t - 1) (by omega) (by omega)) hr2
/-- the reference behind the power -/
theorem st3_ref {n k : Nat} {g : Gs} {L f to t many beh : Nat} {B : Nat → Nat} {pt pw : Bool} (h : RefT g L B) (ht : t ≤ L) {v7 v11 : Int32} {v8 : Int64} (h7 : v7 = 0 ∨ v7 = 1) : ∃ v7', b_X12_number_354 n (L_X12_number n k) g (nI f) (nI to) (nI t) (nI many) (nI beh) (if pt = true then 1 else 0) v7 v8 (if pw = true then 1 else 0) v11 = b_X12_number_442 n (L_X12_number n k) g (nI f) (nI to) (nI (nT L B t)) (nI many) (nI beh) v7' v8 v11 (nI (nSort L B t pt pw)) ∧ ((v7 = 0 ∧ ¬ (rc L B t = 108 ∧ ¬ (pt = false ∧ pw = false)) ∧ v7' = 0) ∨ ((v7 = 1 ∨ (rc L B t = 108 ∧ ¬ (pt = false ∧ pw = false))) ∧ v7' = 1)) := by
  have hL := h.1
  have hlt := h.lt t
  have e0 : b_X12_number_354 n (L_X12_number n k) g (nI f) (nI to) (nI t) (nI many) (nI beh) (if pt = true then 1 else 0) v7 v8 (if pw = true then 1 else 0) v11 = b_X12_number_370 n (L_X12_number n k) g (nI f) (nI to) (nI t) (nI many) (nI beh) v7 v8 v11 (if pt = false ∧ pw = false then 4 else 7) := by
    unfold b_X12_number_354 b_X12_number_364
    cases pt <;> cases pw <;> rfl
  rw [e0]
  unfold b_X12_number_370
  rw [bnd_s (at12 h (by omega)), bnd_s (at12 h (by omega))]
  have q108 : nI (rc L B t) = (108 : Int32) ↔ rc L B t = 108 := nI_eq (b := 108) (by omega) (by decide)
  have q102 : nI (rc L B t) = (102 : Int32) ↔ rc L B t = 102 := nI_eq (b := 102) (by omega) (by decide)
  have e7 : ((if pt = false ∧ pw = false then (4 : Int32) else 7) = 7) ↔ ¬ (pt = false ∧ pw = false) := by
    cases pt <;> cases pw <;> decide
  have f419 : ∀ s0, b_X12_number_419 n (L_X12_number n k) g (nI f) (nI to) (nI t) (nI many) (nI beh) v8 v11 s0 = b_X12_number_442 n (L_X12_number n k) g (nI f) (nI to) (nI (t + 1)) (nI many) (nI beh) s0 v8 v11 (if rc L B t = 108 then 5 else 6) := by
    intro s0
    unfold b_X12_number_419 b_X12_number_437
    rw [bnd_s (at12 h (by omega)), nI_1]
    by_cases hc : rc L B t = 108
    · rw [if_pos (q108.mpr hc), if_pos hc]
    · rw [if_neg (fun z => hc (q108.mp z)), if_neg hc]
  have f392 : ∃ v7', b_X12_number_392 n (L_X12_number n k) g (nI f) (nI to) (nI t) (nI many) (nI beh) v7 v8 v11 (if pt = false ∧ pw = false then 4 else 7) = b_X12_number_442 n (L_X12_number n k) g (nI f) (nI to) (nI (t + 1)) (nI many) (nI beh) v7' v8 v11 (if rc L B t = 108 then 5 else 6) ∧ ((v7 = 0 ∧ ¬ (rc L B t = 108 ∧ ¬ (pt = false ∧ pw = false)) ∧ v7' = 0) ∨ ((v7 = 1 ∨ (rc L B t = 108 ∧ ¬ (pt = false ∧ pw = false))) ∧ v7' = 1)) := by
    unfold b_X12_number_392 b_X12_number_414 b_X12_number_418
    rw [bnd_s (at12 h (by omega)), f419, f419]
    rcases h7 with rfl | rfl
    · rw [if_pos rfl]
      by_cases hc : rc L B t = 108
      · rw [if_pos (q108.mpr hc)]
        by_cases h2 : pt = false ∧ pw = false
        · rw [if_neg (fun z => e7.mp z h2)]
          exact ⟨0, rfl, .inl ⟨rfl, fun z => z.2 h2, rfl⟩⟩
        · rw [if_pos (e7.mpr h2)]
          exact ⟨1, rfl, .inr ⟨.inr ⟨hc, h2⟩, rfl⟩⟩
      · rw [if_neg (fun z => hc (q108.mp z))]
        exact ⟨0, rfl, .inl ⟨rfl, fun z => hc z.1, rfl⟩⟩
    · rw [if_neg (by decide)]
      exact ⟨1, rfl, .inr ⟨.inl rfl, rfl⟩⟩
  by_cases hc : rc L B t = 108
  · obtain ⟨v7', a1, a2⟩ := f392
    rw [if_pos hc] at a1
    have eT : nT L B t = t + 1 := by unfold nT; rw [if_pos (.inl hc)]
    have eS : nSort L B t pt pw = 5 := by unfold nSort; rw [if_pos hc]
    rw [if_pos (q108.mpr hc), eT, eS]
    exact ⟨v7', a1, a2⟩
  · rw [if_neg (fun z => hc (q108.mp z))]
    by_cases hd : rc L B t = 102
    · obtain ⟨v7', a1, a2⟩ := f392
      rw [if_neg hc] at a1
      have eT : nT L B t = t + 1 := by unfold nT; rw [if_pos (.inr hd)]
      have eS : nSort L B t pt pw = 6 := by unfold nSort; rw [if_neg hc, if_pos hd]
      rw [if_pos (q102.mpr hd), eT, eS]
      exact ⟨v7', a1, a2⟩
    · have eT : nT L B t = t := by unfold nT; rw [if_neg (by omega)]
      have eS : nSort L B t pt pw = (if pt = false ∧ pw = false then 4 else 7) := by unfold nSort; rw [if_neg hc, if_neg hd]
      rw [if_neg (fun z => hd (q102.mp z)), eT, eS]
      refine ⟨v7, ?_, ?_⟩
      · cases pt <;> cases pw <;> rfl
      · rcases h7 with rfl | rfl
        · exact .inl ⟨rfl, fun z => hc z.1, rfl⟩
        · exact .inr ⟨.inl rfl, rfl⟩
