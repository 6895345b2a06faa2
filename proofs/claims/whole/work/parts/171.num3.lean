/-! the power of a number (reference) -/
def RU (v : Int32) (E : Nat) : Prop := (E ≤ 1100 ∧ v = nI E) ∨ (1100 < E ∧ ∃ q, 1100 < q ∧ q < 2 ^ 30 ∧ v = nI q)
theorem up_ref {n : Nat} {g : Gs} {L f to : Nat} {B : Nat → Nat} (h : RefT g L B) {many beh v6 v7 v10 v12 : Int32} {v8 : Int64} : ∀ (m k p E : Nat) (v11 : Int32), p + m ≤ 4000 → m ≤ k → (∀ i, i < m → isD (rc L B (p + i)) = true) → RU v11 E → ∃ v11', (L_X12_number n k).2.2 g (nI f) (nI to) (nI p) many beh v6 v7 v8 v10 v11 v12 = (L_X12_number n (k - m)).2.2 g (nI f) (nI to) (nI (p + m)) many beh v6 v7 v8 v10 v11' v12 ∧ RU v11' (da (rc L B) p E m) := by
  intro m
  induction m with
  | zero => intro k p E v11 _ _ _ hu; exact ⟨v11, rfl, hu⟩
  | succ m ih =>
    intro k p E v11 hp hk hd hu
    obtain ⟨u, i1, i2⟩ := ih k p E v11 (by omega) (by omega) (fun i hi => hd i (by omega)) hu
    rw [i1]
    obtain ⟨k', hk'⟩ : ∃ k', k - m = k' + 1 := ⟨k - m - 1, by omega⟩
    rw [hk', show k - (m + 1) = k' by omega]
    have hD := hd m (by omega)
    have hr := isD_range hD
    have hlt := h.lt (p + m)
    show ∃ v11', h_X12_number_278 n (L_X12_number n k') g (nI f) (nI to) (nI (p + m)) many beh v6 v7 v8 v10 u v12 = _ ∧ RU v11' (da (rc L B) p E m * 10 + (rc L B (p + m) - 48))
    unfold h_X12_number_278 b_X12_number_316
    rw [bnd_s (at12 h (by omega)), bnd_s (dig12 hlt), hD, sgB_if, if_pos rfl, bnd_s (at12 h (by omega)), show nI (p + m) + 1 = nI (p + (m + 1)) from nI_1 _]
    obtain ⟨c, hc⟩ : ∃ c, rc L B (p + m) = c := ⟨_, rfl⟩
    obtain ⟨W, hW⟩ : ∃ W, da (rc L B) p E m = W := ⟨_, rfl⟩
    rw [hW] at i2 ⊢
    rw [hc] at hr hlt ⊢
    have ev : ∀ q, q ≤ 100000 → ((10 : Int32) * nI q + nI c) - (48 : Int32) = nI (q * 10 + (c - 48)) := by
      intro q hq
      rw [show (10 : Int32) = nI 10 from rfl, pk_mul, nI_add, show (48 : Int32) = nI 48 from rfl, nI_sub (by omega)]
      congr 1; omega
    rcases i2 with ⟨j1, rfl⟩ | ⟨j1, q, q1, q2, rfl⟩
    · rw [if_pos (show nI W ≤ (2000 : Int32) from nI_le (b := 2000) (by omega) (by decide)), ev W (by omega)]
      refine ⟨_, rfl, ?_⟩
      by_cases hE : W * 10 + (c - 48) ≤ 1100
      · exact .inl ⟨hE, rfl⟩
      · exact .inr ⟨by omega, _, by omega, by omega, rfl⟩
    · by_cases hq : q ≤ 2000
      · rw [if_pos (show nI q ≤ (2000 : Int32) from nI_le (b := 2000) hq (by decide)), ev q (by omega)]
        exact ⟨_, rfl, .inr ⟨by omega, _, by omega, by omega, rfl⟩⟩
      · rw [if_neg (show ¬ nI q ≤ (2000 : Int32) from nI_ge (a := 2000) (by omega) (by omega))]
        exact ⟨_, rfl, .inr ⟨by omega, q, q1, q2, rfl⟩⟩
def sgE (mn : Bool) (E : Nat) : Int32 := if mn = true then -nI E else nI E
theorem st2_ref {n k : Nat} {g : Gs} {L f to d1 s t q0 E : Nat} {B : Nat → Nat} {pt pw mn : Bool} (h : RefT g L B) (hN : NumS L B f d1 s t q0 E pt pw mn) (hk : 3500 ≤ k) {many beh v6 v7 : Int32} {v8 : Int64} (h7 : v7 = 0 ∨ v7 = 1) : ∃ v7' v11 k', b_X12_number_211 n (L_X12_number n k) g (nI f) (nI to) (nI s) many beh v6 v7 v8 = b_X12_number_354 n (L_X12_number n k') g (nI f) (nI to) (nI t) many beh v6 v7' v8 (if pw = true then 1 else 0) v11 ∧ ((v7 = 0 ∧ ¬ (pw = true ∧ (t = q0 ∨ 1100 < E)) ∧ v7' = 0 ∧ v11 = sgE mn E) ∨ ((v7 = 1 ∨ (pw = true ∧ (t = q0 ∨ 1100 < E))) ∧ v7' = 1)) := by
  have hL := h.1
  obtain ⟨l1, l2, l3, l4, l5, l6⟩ := hN.le
  obtain ⟨_, _, n5⟩ := hN
  have hlt := h.lt s
  unfold b_X12_number_211
  rw [bnd_s (at12 h (by omega))]
  rcases n5 with ⟨rfl, p1, p2, p3, p4, p5, p6⟩ | ⟨rfl, p1, p2, p3, p4, p5⟩
  · have hq0 : s + 1 ≤ q0 ∧ q0 ≤ s + 2 := by rcases p2 with ⟨_, _, b⟩ | ⟨_, _, b⟩ <;> omega
    have hltq := h.lt q0
    have hltt := h.lt t
    rw [if_pos (show nI (rc L B s) = (112 : Int32) by rw [p1]; rfl)]
    unfold b_X12_number_226
    rw [if_neg (show ¬ (1 : Int32) = 0 by decide), nI_1, bnd_s (at12 h (by omega))]
    have hlt1 := h.lt (s + 1)
    have e1 : (if nI (rc L B (s + 1)) = (45 : Int32) then (b_X12_number_254 n (L_X12_number n k) g (nI f) (nI to) (nI (s + 1)) many beh v6 v7 v8 1 0 1) else (b_X12_number_254 n (L_X12_number n k) g (nI f) (nI to) (nI (s + 1)) many beh v6 v7 v8 1 0 0)) = b_X12_number_264 n (L_X12_number n k) g (nI f) (nI to) (nI q0) many beh v6 v7 v8 1 0 (if mn = true then 1 else 0) := by
      unfold b_X12_number_254
      rcases p2 with ⟨rfl, b1, b2⟩ | ⟨rfl, b1, b2⟩
      · rw [if_pos (show nI (rc L B (s + 1)) = (45 : Int32) by rw [b1]; rfl), if_neg (show ¬ (1 : Int32) = 0 by decide), if_pos rfl, show nI (s + 1) + 1 = nI q0 by rw [nI_1, b2]]
      · rw [if_neg (show ¬ nI (rc L B (s + 1)) = (45 : Int32) from fun z => b1 ((nI_eq (b := 45) (by omega) (by decide)).mp z)), if_pos rfl, if_neg (by decide), b2]
    rw [e1]
    unfold b_X12_number_264
    rw [bnd_s (at12 h (by omega)), bnd_s (dig12 hltq), sgB_if]
    -- the loop and what is behind it
    have lp : ∀ w7 : Int32, ∃ v11 k', (L_X12_number n k).2.2 g (nI f) (nI to) (nI q0) many beh v6 w7 v8 1 0 (if mn = true then 1 else 0) = (if w7 = 0 then (if v11 ≤ (1100 : Int32) then (b_X12_number_342 n (L_X12_number n k') g (nI f) (nI to) (nI t) many beh v6 v8 1 v11 (if mn = true then 1 else 0) (0 : Int32)) else (b_X12_number_337 n (L_X12_number n k') g (nI f) (nI to) (nI t) many beh v6 v8 1 v11 (if mn = true then 1 else 0))) else (b_X12_number_337 n (L_X12_number n k') g (nI f) (nI to) (nI t) many beh v6 v8 1 v11 (if mn = true then 1 else 0))) ∧ RU v11 E := by
      intro w7
      obtain ⟨v11, u1, u2⟩ := up_ref (n := n) (g := g) (f := f) (to := to) h (many := many) (beh := beh) (v6 := v6) (v7 := w7) (v10 := 1) (v12 := if mn = true then 1 else 0) (v8 := v8) (t - q0) k q0 0 0 (by omega) (by omega) (fun i hi => p4 _ (by omega) (by omega)) (.inl ⟨by decide, rfl⟩)
      rw [show q0 + (t - q0) = t by omega] at u1
      obtain ⟨k1, hk1⟩ : ∃ k1, k - (t - q0) = k1 + 1 := ⟨k - (t - q0) - 1, by omega⟩
      rw [hk1] at u1
      refine ⟨v11, k1, ?_, by rw [p6]; exact u2⟩
      rw [u1]
      show h_X12_number_278 n (L_X12_number n k1) g (nI f) (nI to) (nI t) many beh v6 w7 v8 1 v11 _ = _
      unfold h_X12_number_278
      rw [bnd_s (at12 h (by omega)), bnd_s (dig12 hltt), p5, sgB_if, if_neg (by decide)]
    have f342 : ∀ k' s0 v11, b_X12_number_342 n (L_X12_number n k') g (nI f) (nI to) (nI t) many beh v6 v8 1 v11 (if mn = true then 1 else 0) s0 = b_X12_number_354 n (L_X12_number n k') g (nI f) (nI to) (nI t) many beh v6 s0 v8 1 (if mn = true then -v11 else v11) := by
      intro k' s0 v11
      unfold b_X12_number_342
      cases mn <;> rfl
    unfold b_X12_number_337 at lp
    simp only [f342] at lp
    by_cases hq : t = q0
    · have hnd : ¬ isD (rc L B q0) = true := by rw [← hq, p5]; decide
      obtain ⟨v11, k', e2, _⟩ := lp 1
      rw [if_neg hnd, e2, if_neg (show ¬ (1 : Int32) = 0 by decide)]
      exact ⟨1, _, k', rfl, .inr ⟨.inr ⟨rfl, .inl hq⟩, rfl⟩⟩
    · have hD : isD (rc L B q0) = true := p4 _ (Nat.le_refl _) (by omega)
      obtain ⟨v11, k', e2, e3⟩ := lp v7
      rw [if_pos hD, e2]
      rcases h7 with rfl | rfl
      · rw [if_pos rfl]
        rcases e3 with ⟨j1, rfl⟩ | ⟨j1, q, q1, q2, rfl⟩
        · rw [if_pos (show nI E ≤ (1100 : Int32) from nI_le (b := 1100) j1 (by decide))]
          exact ⟨0, _, k', rfl, .inl ⟨rfl, fun z => by rcases z.2 with z | z <;> omega, rfl, rfl⟩⟩
        · rw [if_neg (show ¬ nI q ≤ (1100 : Int32) from nI_ge (a := 1100) q1 (by omega))]
          exact ⟨1, _, k', rfl, .inr ⟨.inr ⟨rfl, .inr j1⟩, rfl⟩⟩
      · rw [if_neg (show ¬ (1 : Int32) = 0 by decide)]
        exact ⟨1, _, k', rfl, .inr ⟨.inl rfl, rfl⟩⟩
  · subst p3 p2 p5
    rw [if_neg (show ¬ nI (rc L B t) = (112 : Int32) from fun z => p1 ((nI_eq (b := 112) (by omega) (by decide)).mp z))]
    unfold b_X12_number_226
    rw [if_pos rfl, if_neg (by decide)]
    refine ⟨v7, 0, k, rfl, ?_⟩
    rcases h7 with rfl | rfl
    · exact .inl ⟨rfl, fun z => absurd z.1 (by decide), rfl, rfl⟩
    · exact .inr ⟨.inl rfl, rfl⟩
