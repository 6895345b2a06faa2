/-! numbers of the reference -/
def da (B : Nat → Nat) (f acc : Nat) : Nat → Nat
  | 0 => acc
  | m + 1 => da B f acc m * 10 + (B (f + m) - 48)
/-- a flag and a long that tell the number V, or that it is too large -/
def GW (v7 : Int32) (v8 : Int64) (V : Nat) : Prop := (V < 2 ^ 63 ∧ v7 = 0 ∧ v8 = lN V) ∨ (2 ^ 63 ≤ V ∧ v7 = 1)
theorem isD_range {c : Nat} (h : isD c = true) : 48 ≤ c ∧ c ≤ 57 := of_decide_eq_true h
theorem dig_fits {V d : Nat} (hV : V < 2 ^ 63) (hd : d ≤ 9) : lN V ≤ ((9223372036854775807 : Int64) - (nI d).toInt64) / (10 : Int64) ↔ V * 10 + d < 2 ^ 63 := by
  have e1 : (9223372036854775807 : Int64) - (nI d).toInt64 = lN (9223372036854775807 - d) := by
    rw [nI_l (by omega), show (9223372036854775807 : Int64) = lN 9223372036854775807 from rfl, lN_sub (by omega)]
  rw [e1, show (10 : Int64) = lN 10 from rfl, pk_lDiv (b := 10) (by omega) (by decide) (by decide), pk_lLE hV (by omega)]
  omega
theorem lN_mul10 {V d : Nat} : (10 : Int64) * lN V + (nI d).toInt64 = lN (V * 10 + d) ∨ 2 ^ 31 ≤ d := by
  by_cases h : d < 2 ^ 31
  · left
    rw [nI_l h, show (10 : Int64) = lN 10 from rfl]
    rw [show lN 10 * lN V = lN (10 * V) from (Int64.ofNat_mul 10 V).symm, lN_add, Nat.mul_comm]
  · right; omega
theorem dg_ref {n : Nat} {g : Gs} {L f to : Nat} {B : Nat → Nat} (h : RefT g L B) {v6 : Int32} : ∀ (m k p many behind V : Nat) (v7 : Int32) (v8 : Int64), p + m ≤ 4000 → many ≤ 4000 → behind ≤ 4000 → m ≤ k → (∀ i, i < m → isD (rc L B (p + i)) = true) → GW v7 v8 V → ∃ v7' v8', (L_X12_number n k).2.1 g (nI f) (nI to) (nI p) (nI many) (nI behind) v6 v7 v8 = (L_X12_number n (k - m)).2.1 g (nI f) (nI to) (nI (p + m)) (nI (many + m)) (nI (behind + if v6 = 0 then 0 else m)) v6 v7' v8' ∧ GW v7' v8' (da (rc L B) p V m) := by
  intro m
  induction m with
  | zero =>
    intro k p many behind V v7 v8 _ _ _ _ _ hg
    refine ⟨v7, v8, ?_, hg⟩
    have : (if v6 = 0 then 0 else 0) = 0 := by split <;> rfl
    rw [this]; rfl
  | succ m ih =>
    intro k p many behind V v7 v8 hp hm hb hk hd hg
    obtain ⟨a7, a8, i1, i2⟩ := ih k p many behind V v7 v8 (by omega) hm hb (by omega) (fun i hi => hd i (by omega)) hg
    rw [i1]
    obtain ⟨k', hk'⟩ : ∃ k', k - m = k' + 1 := ⟨k - m - 1, by omega⟩
    rw [hk', show k - (m + 1) = k' by omega]
    have hD := hd m (by omega)
    have hr := isD_range hD
    have hlt := h.lt (p + m)
    -- the next digit
    have e1 : (L_X12_number n (k' + 1)).2.1 g (nI f) (nI to) (nI (p + m)) (nI (many + m)) (nI (behind + if v6 = 0 then 0 else m)) v6 a7 a8 = b_X12_number_105 n (L_X12_number n k') g (nI f) (nI to) (nI (p + m)) (nI (many + m)) (nI (behind + if v6 = 0 then 0 else m)) v6 a7 a8 := by
      show h_X12_number_79 n (L_X12_number n k') g (nI f) (nI to) (nI (p + m)) (nI (many + m)) _ v6 a7 a8 = _
      unfold h_X12_number_79
      rw [bnd_s (at12 h (by omega)), bnd_s (dig12 hlt), hD, sgB_if, if_pos rfl]
    have go : ∀ s0 w, b_X12_number_194 n (L_X12_number n k') g (nI f) (nI to) (nI (p + m)) (nI (many + m)) (nI (behind + if v6 = 0 then 0 else m)) v6 s0 w = (L_X12_number n k').2.1 g (nI f) (nI to) (nI (p + (m + 1))) (nI (many + (m + 1))) (nI (behind + if v6 = 0 then 0 else (m + 1))) v6 s0 w := by
      intro s0 w
      unfold b_X12_number_194 b_X12_number_205
      rw [show nI (p + m) + 1 = nI (p + (m + 1)) from nI_1 _, show nI (many + m) + 1 = nI (many + (m + 1)) from nI_1 _]
      by_cases h6 : v6 = 0
      · rw [if_pos h6, if_pos h6, if_pos h6]
      · rw [if_neg h6, if_neg h6, if_neg h6, show nI (behind + m) + 1 = nI (behind + (m + 1)) from nI_1 _]
    have esub : nI (rc L B (p + m)) - (48 : Int32) = nI (rc L B (p + m) - 48) := nI_sub (a := rc L B (p + m)) (b := 48) hr.1
    rw [e1]
    unfold b_X12_number_105 b_X12_number_170 b_X12_number_175
    rw [bnd_s (at12 h (by omega)), if_neg (show ¬ nI (rc L B (p + m)) = (46 : Int32) from fun z => by have := (nI_eq (b := 46) (by omega) (by decide)).mp z; omega), bnd_s (at12 h (by omega)), esub]
    show ∃ v7' v8', _ ∧ GW v7' v8' (da (rc L B) p V m * 10 + (rc L B (p + m) - 48))
    obtain ⟨d, hdd⟩ : ∃ d, rc L B (p + m) - 48 = d := ⟨_, rfl⟩
    obtain ⟨W, hW⟩ : ∃ W, da (rc L B) p V m = W := ⟨_, rfl⟩
    rw [hdd, hW]
    rw [hW] at i2
    simp only [if_pos (show (0 : Int32) = 0 from rfl), if_neg (show ¬ (1 : Int32) = 0 by decide), go]
    rcases i2 with ⟨j1, j2, j3⟩ | ⟨j1, j2⟩
    · rw [if_pos j2, j3]
      by_cases hf : W * 10 + d < 2 ^ 63
      · rw [if_pos ((dig_fits j1 (by omega)).mpr hf)]
        refine ⟨_, _, rfl, .inl ⟨hf, rfl, ?_⟩⟩
        exact (lN_mul10 (V := W) (d := d)).resolve_right (by omega)
      · rw [if_neg (fun z => hf ((dig_fits j1 (by omega)).mp z))]
        exact ⟨_, _, rfl, .inr ⟨by omega, rfl⟩⟩
    · rw [if_neg (show ¬ a7 = 0 by rw [j2]; decide)]
      exact ⟨_, _, rfl, .inr ⟨by omega, rfl⟩⟩
def runC (L : Nat) (B : Nat → Nat) (i : Nat) : Prop := isD (rc L B i) = true ∨ isL (rc L B i) = true ∨ rc L B i = 46 ∨ (rc L B i = 45 ∧ rc L B (i - 1) = 112)
theorem to_ref {n : Nat} {g : Gs} {L f to : Nat} {B : Nat → Nat} (h : RefT g L B) (hto : to ≤ L) (hin : ∀ i, f ≤ i → i < to → runC L B i) (hend : ¬ runC L B to) (hfto : f < to) : ∀ (d k p : Nat), p + d = to → f ≤ p → (p = f → isD (rc L B f) = true) → d < k → (L_X12_number n k).1 g (nI f) (nI p) = (L_X12_number n (k - d - 1)).2.1 g (nI f) (nI to) (nI f) 0 0 0 0 0 := by
  have hL := h.1
  intro d
  induction d with
  | zero =>
    intro k p hp hfp hpf hk
    obtain ⟨k, rfl⟩ : ∃ q, k = q + 1 := ⟨k - 1, by omega⟩
    have hpt : p = to := by omega
    subst hpt
    obtain ⟨n1, n2⟩ : ¬ isD (rc L B p) = true ∧ ¬ isL (rc L B p) = true := ⟨fun z => hend (.inl z), fun z => hend (.inr (.inl z))⟩
    have n3 : ¬ rc L B p = 46 := fun z => hend (.inr (.inr (.inl z)))
    show h_X12_number_2 n (L_X12_number n k) g (nI f) (nI p) = _
    unfold h_X12_number_2 b_X12_number_62
    have hlt := h.lt p
    rw [bnd_s (at12 h (by omega)), bnd_s (dig12 hlt), bnd_s (at12 h (by omega)), bnd_s (let12 hlt), bnd_s (at12 h (by omega)), bnd_s (at12 h (by omega)), sgB_if, sgB_if, if_neg n1, if_neg n2, if_neg (show ¬ nI (rc L B p) = (46 : Int32) from fun z => n3 ((nI_eq (b := 46) (by omega) (by decide)).mp z))]
    by_cases h45 : rc L B p = 45
    · rw [if_pos (show nI (rc L B p) = (45 : Int32) by rw [h45]; rfl), show nI p - 1 = nI (p - 1) from nI_sub (a := p) (b := 1) (by omega), bnd_s (at12 h (by omega))]
      have n4 : ¬ rc L B (p - 1) = 112 := fun z => hend (.inr (.inr (.inr ⟨h45, z⟩)))
      have hlt2 := h.lt (p - 1)
      rw [if_neg (show ¬ nI (rc L B (p - 1)) = (112 : Int32) from fun z => n4 ((nI_eq (b := 112) (by omega) (by decide)).mp z))]
      rfl
    · rw [if_neg (show ¬ nI (rc L B p) = (45 : Int32) from fun z => h45 ((nI_eq (b := 45) (by omega) (by decide)).mp z))]
      rfl
  | succ d ih =>
    intro k p hp hfp hpf hk
    obtain ⟨k, rfl⟩ : ∃ q, k = q + 1 := ⟨k - 1, by omega⟩
    show h_X12_number_2 n (L_X12_number n k) g (nI f) (nI p) = _
    unfold h_X12_number_2 b_X12_number_56
    have hlt := h.lt p
    rw [show nI p + 1 = nI (p + 1) from nI_1 p, ih k (p + 1) (by omega) (by omega) (fun z => by omega) (by omega), show k + 1 - (d + 1) - 1 = k - d - 1 by omega]
    rw [bnd_s (at12 h (by omega)), bnd_s (dig12 hlt), bnd_s (at12 h (by omega)), bnd_s (let12 hlt), bnd_s (at12 h (by omega)), bnd_s (at12 h (by omega)), sgB_if, sgB_if]
    by_cases n1 : isD (rc L B p) = true
    · rw [if_pos n1]
    have hpf2 : p ≠ f := fun z => n1 (by rw [z]; exact hpf z)
    have hr := (hin p hfp (by omega)).resolve_left n1
    rw [if_neg n1]
    by_cases n2 : isL (rc L B p) = true
    · rw [if_pos n2]
    rw [if_neg n2]
    have hr2 := hr.resolve_left n2
    by_cases n3 : rc L B p = 46
    · rw [if_pos (show nI (rc L B p) = (46 : Int32) by rw [n3]; rfl)]
    · obtain ⟨h45, h112⟩ := hr2.resolve_left n3
      rw [if_neg (show ¬ nI (rc L B p) = (46 : Int32) from fun z => n3 ((nI_eq (b := 46) (by omega) (by decide)).mp z)), if_pos (show nI (rc L B p) = (45 : Int32) by rw [h45]; rfl), show nI p - 1 = nI (p - 1) from nI_sub (a := p) (b := 1) (by omega), bnd_s (at12 h (by omega)), if_pos (show nI (rc L B (p - 1)) = (112 : Int32) by rw [h112]; rfl)]
