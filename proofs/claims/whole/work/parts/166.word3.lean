/-! the class reads a word -/
theorem pkc_eq {B : Nat → Nat} {f : Nat} : ∀ m, pkw B f m = pkc (fun i => B (f + i)) m := by
  intro m
  induction m with
  | zero => rfl
  | succ m ih => show pkw B f m * 256 + B (f + m) = pkc _ m * 256 + B (f + m); rw [ih]
theorem charAt6 {q : Nat} (hq : q < 156) : f_J0_charAt_5068e__S0 (nI q) = some (wordsB.getD q 0) := by
  have : ∀ q : Fin 156, f_J0_charAt_5068e__S0 (nI q.val) = some (wordsB.getD q.val 0) := by decide +kernel
  exact this ⟨q, hq⟩
theorem wordsB_nI {q : Nat} (hq : q < 156) : ∃ v, v < 256 ∧ wordsB.getD q 0 = nI v ∧ (wordsB.getD q 0).toNatClampNeg = v := by
  have : ∀ q : Fin 156, (wordsB.getD q.val 0).toNatClampNeg < 256 ∧ wordsB.getD q.val 0 = nI (wordsB.getD q.val 0).toNatClampNeg := by decide +kernel
  obtain ⟨h1, h2⟩ := this ⟨q, hq⟩
  exact ⟨_, h1, h2, rfl⟩
theorem isW_range {c : Nat} (h : isW c = true) : 48 ≤ c ∧ c ≤ 122 := by
  unfold isW isL isD at h
  rcases Bool.or_eq_true_iff.mp h with h | h
  · have := of_decide_eq_true h; omega
  · have := of_decide_eq_true h; omega
theorem wkind7 {n : Nat} {gsc gt : Gs} {L f e : Nat} {B : Nat → Nat} (hn : 3100 ≤ n) (h : ClsT gsc gt L B) (h3 : gI gsc 3 = nI f) (hfe : f < e) (he : e ≤ L) (h6 : gI gsc 6 = nI (e - f)) (h10 : e - f ≤ 10) (hin : ∀ i, f ≤ i → i < e → isW (rc L B i) = true) : f_X7_wordKind n gsc gt = some (nI (kc (wk (e - f) (pkw B f (e - f))))) := by
  have hL := h.1
  unfold f_X7_wordKind
  by_cases m6 : e - f ≤ 6
  · obtain ⟨m, hm⟩ : ∃ m, e - f = m := ⟨_, rfl⟩
    rw [hm] at h6 m6 ⊢
    have hc : ∀ i, i < m → 48 ≤ (fun i => B (f + i)) i ∧ (fun i => B (f + i)) i ≤ 122 := by
      intro i hi
      have := isW_range (hin (f + i) (by omega) (by omega))
      rw [rc_in (by omega)] at this
      exact this
    -- the byte against the word's
    have step : ∀ j i cnt k, j < 26 → i < 6 → cnt < 10 → (L_X7_wordKind n (k + 1)).2 gsc gt (nI j) (nI cnt) (nI i) = (L_X7_wordKind n k).2 gsc gt (nI j) (nI (cnt + if WN j i = pdw (fun i => B (f + i)) m i then 1 else 0)) (nI (i + 1)) := by
      intro j i cnt k hj hi hcnt
      show h_X7_wordKind_21 n (L_X7_wordKind n k) gsc gt (nI j) (nI cnt) (nI i) = _
      unfold h_X7_wordKind_21
      obtain ⟨v, v1, v2, v3⟩ := wordsB_nI (q := 6 * j + i) (by omega)
      have ev : WN j i = v := v3
      have e1 : nI j * 6 + nI i = nI (6 * j + i) := by rw [show (6 : Int32) = nI 6 from rfl, pk_mul, nI_add, Nat.mul_comm]
      rw [if_neg (show ¬ (6 : Int32) ≤ nI i from nI_ge (b := 6) (by omega) (by decide)), e1, bnd_s (charAt6 (by omega)), h6, v2, ev]
      have fin : ∀ z, z < 256 → z = pdw (fun i => B (f + i)) m i → b_X7_wordKind_66 n (L_X7_wordKind n k) gsc gt (nI j) (nI i) (nI z) (nI v) (nI cnt) = (L_X7_wordKind n k).2 gsc gt (nI j) (nI (cnt + if v = pdw (fun i => B (f + i)) m i then 1 else 0)) (nI (i + 1)) := by
        intro z hz ez
        unfold b_X7_wordKind_66 b_X7_wordKind_74
        rw [nI_1, ← ez]
        by_cases hv : v = z
        · rw [hv, if_pos rfl, if_pos rfl, nI_1]
        · rw [if_neg (fun q => hv ((nI_eq (by omega) (by omega)).mp q)), if_neg hv]
          rw [show nI cnt + 0 = nI (cnt + 0) from nI_add cnt 0, nI_1]
      by_cases him : i < m
      · rw [if_neg (nI_ge him (by omega)), h3, nI_add]
        obtain ⟨x, x1, x2, x3⟩ := by7 h (p := f + i) (by omega)
        rw [bnd_s x1, x3 (by omega)]
        refine fin (B (f + i)) ?_ ?_
        · exact (h.2.2 (f + i) (by omega)).1
        · unfold pdw; rw [if_pos him]
      · rw [if_pos (nI_le (by omega) (by omega))]
        refine fin 32 (by decide) ?_
        unfold pdw; rw [if_neg him]
    have inner : ∀ j k, j < 26 → 7 < k → (L_X7_wordKind n k).2 gsc gt (nI j) (nI 0) (nI 0) = if Wl.idxOf (pkw B f m) = j then some (nI (10 + j)) else (L_X7_wordKind n (k - 7)).1 gsc gt (nI (j + 1)) := by
      intro j k hj hk
      obtain ⟨k, rfl⟩ : ∃ q, k = q + 7 := ⟨k - 7, by omega⟩
      rw [show k + 7 = (k + 6) + 1 from rfl, step j 0 0 (k + 6) hj (by decide) (by decide)]
      rw [show k + 6 = (k + 5) + 1 from rfl, step j 1 _ (k + 5) hj (by decide) (by split <;> decide)]
      rw [show k + 5 = (k + 4) + 1 from rfl, step j 2 _ (k + 4) hj (by decide) (by split <;> split <;> decide)]
      rw [show k + 4 = (k + 3) + 1 from rfl, step j 3 _ (k + 3) hj (by decide) (by split <;> split <;> split <;> decide)]
      rw [show k + 3 = (k + 2) + 1 from rfl, step j 4 _ (k + 2) hj (by decide) (by split <;> split <;> split <;> split <;> decide)]
      rw [show k + 2 = (k + 1) + 1 from rfl, step j 5 _ (k + 1) hj (by decide) (by split <;> split <;> split <;> split <;> split <;> decide)]
      show h_X7_wordKind_21 n (L_X7_wordKind n k) gsc gt (nI j) _ (nI 6) = _
      unfold h_X7_wordKind_21
      rw [if_pos (show (6 : Int32) ≤ nI 6 by decide)]
      have key := wcase (c := fun i => B (f + i)) hj (by omega) m6 hc
      rw [← pkc_eq m] at key
      have key2 := wl_idx (x := pkw B f m) hj
      rw [show (6 : Int32) = nI 6 from rfl]
      have cnt6 : ∀ (a b c d e f : Prop) [Decidable a] [Decidable b] [Decidable c] [Decidable d] [Decidable e] [Decidable f], (nI (0 + (if a then 1 else 0) + (if b then 1 else 0) + (if c then 1 else 0) + (if d then 1 else 0) + (if e then 1 else 0) + (if f then 1 else 0)) = nI 6) ↔ (a ∧ b ∧ c ∧ d ∧ e ∧ f) := by
        intro a b c d e f _ _ _ _ _ _
        by_cases ha : a <;> by_cases hb : b <;> by_cases hc : c <;> by_cases hd : d <;> by_cases he : e <;> by_cases hf : f <;> simp only [ha, hb, hc, hd, he, hf] <;> decide
      by_cases hq : Wl.idxOf (pkw B f m) = j
      · rw [if_pos hq, if_pos ((cnt6 _ _ _ _ _ _).mpr (key.mpr (key2.mpr hq))), show (10 : Int32) = nI 10 from rfl, nI_add]
      · rw [if_neg hq, if_neg (fun z => hq (key2.mp (key.mp ((cnt6 _ _ _ _ _ _).mp z)))), nI_1]
        rfl
    have outer : ∀ d k j, j + d = 26 → 8 * d + 8 < k → j ≤ Wl.idxOf (pkw B f m) → (L_X7_wordKind n k).1 gsc gt (nI j) = some (nI (if Wl.idxOf (pkw B f m) < 26 then 10 + Wl.idxOf (pkw B f m) else 2)) := by
      intro d
      induction d with
      | zero =>
        intro k j hj hk hx
        obtain ⟨k, rfl⟩ : ∃ q, k = q + 1 := ⟨k - 1, by omega⟩
        show h_X7_wordKind_2 n (L_X7_wordKind n k) gsc gt (nI j) = _
        unfold h_X7_wordKind_2
        rw [show (26 : Int32) = nI 26 from rfl, if_pos (nI_le (by omega) (by omega)), if_neg (by omega)]
        rfl
      | succ d ih =>
        intro k j hj hk hx
        obtain ⟨k, rfl⟩ : ∃ q, k = q + 1 := ⟨k - 1, by omega⟩
        show h_X7_wordKind_2 n (L_X7_wordKind n k) gsc gt (nI j) = _
        unfold h_X7_wordKind_2
        rw [if_neg (show ¬ (26 : Int32) ≤ nI j from nI_ge (b := 26) (by omega) (by decide)), h6, if_neg (show ¬ (6 : Int32) < nI m from nI_nlt (a := 6) (by omega) (by decide))]
        have := inner j k (by omega) (by omega)
        rw [show (L_X7_wordKind n k).2 gsc gt (nI j) 0 0 = _ from this]
        by_cases hq : Wl.idxOf (pkw B f m) = j
        · rw [if_pos hq, hq, if_pos (by omega)]
        · rw [if_neg hq]
          exact ih (k - 7) (j + 1) (by omega) (by omega) (by omega)
    have := outer 26 n 0 (by omega) (by omega) (by omega)
    rw [show (L_X7_wordKind n n).1 gsc gt 0 = _ from this]
    unfold wk
    rw [if_neg (show ¬ 10 < m by omega)]
    by_cases hq : Wl.idxOf (pkw B f m) < 26
    · rw [if_pos hq, if_pos ⟨m6, hq⟩]
      congr 2
      unfold kc
      rw [if_neg (by omega), if_pos (by omega)]
      omega
    · rw [if_neg hq, if_neg (fun z => hq z.2)]
      rfl
  · obtain ⟨k, rfl⟩ : ∃ q, n = q + 1 := ⟨n - 1, by omega⟩
    show h_X7_wordKind_2 (k + 1) (L_X7_wordKind (k + 1) k) gsc gt 0 = _
    unfold h_X7_wordKind_2 wk
    rw [if_neg (by decide), h6, if_pos (show (6 : Int32) < nI (e - f) from nI_lt (a := 6) (by omega) (by omega)), if_neg (by omega), if_neg (fun z => m6 z.1)]
    rfl
theorem word7 {n : Nat} {gsc gt : Gs} {L f e : Nat} {B : Nat → Nat} (hn : 3100 ≤ n) (h : ClsT gsc gt L B) (h3 : gI gsc 3 = nI f) (h5 : gI gsc 5 = nI f) (hfe : f < e) (he : e ≤ L) (hin : ∀ i, f ≤ i → i < e → isW (rc L B i) = true) (hend : isW (rc L B e) = false) : ∃ g', f_X7_readWord n gsc gt = some g' ∧ gI g' 4 = nI (kc (wk (e - f) (pkw B f (e - f)))) ∧ gI g' 3 = nI e ∧ gI g' 5 = nI (if 10 < e - f then f + 10 else f) ∧ gI g' 6 = nI (e - f) ∧ Fr [3, 4, 5, 6] gsc g' := by
  have hL := h.1
  have l1 : ∀ d k i, i + d = e → f ≤ i → d < k → L_X7_readWord n k gsc gt (nI i) = b_X7_readWord_41 n (L_X7_readWord n (k - d - 1)) gsc gt (nI e) := by
    intro d
    induction d with
    | zero =>
      intro k i hi hfi hk
      obtain ⟨k, rfl⟩ : ∃ q, k = q + 1 := ⟨k - 1, by omega⟩
      have : i = e := by omega
      subst this
      show h_X7_readWord_5 n (L_X7_readWord n k) gsc gt (nI i) = _
      unfold h_X7_readWord_5
      rw [h.2.1]
      by_cases hq : L ≤ i
      · rw [if_pos (nI_le hq (by omega))]; rfl
      · rw [if_neg (nI_ge (by omega) (by omega))]
        obtain ⟨x, x1, x2, x3⟩ := by7 h (p := i) (by omega)
        have h2 : isL (rc L B i) = false ∧ isD (rc L B i) = false := by
          unfold isW at hend
          exact Bool.or_eq_false_iff.mp hend
        rw [bnd_s x1, bnd_s (let7 x2), bnd_s x1, bnd_s (dig7 x2), h2.1, h2.2, sgB_if, sgB_if, if_neg (by decide), if_neg (by decide)]; rfl
    | succ d ih =>
      intro k i hi hfi hk
      obtain ⟨k, rfl⟩ : ∃ q, k = q + 1 := ⟨k - 1, by omega⟩
      show h_X7_readWord_5 n (L_X7_readWord n k) gsc gt (nI i) = _
      unfold h_X7_readWord_5 b_X7_readWord_35
      rw [h.2.1, if_neg (nI_ge (by omega) (by omega)), nI_1]
      obtain ⟨x, x1, x2, x3⟩ := by7 h (p := i) (by omega)
      have h2 : isL (rc L B i) = true ∨ isD (rc L B i) = true := by
        have := hin i (by omega) (by omega)
        unfold isW at this
        exact Bool.or_eq_true_iff.mp this
      rw [bnd_s x1, bnd_s (let7 x2), bnd_s x1, bnd_s (dig7 x2), sgB_if, sgB_if, ih k (i + 1) (by omega) (by omega) (by omega), show k + 1 - (d + 1) - 1 = k - d - 1 by omega]
      by_cases hl : isL (rc L B i) = true
      · rw [if_pos hl]
      · rw [if_neg hl, if_pos (h2.resolve_left hl)]
  unfold f_X7_readWord
  rw [h3, l1 (e - f) n f (by omega) (by omega) (by omega)]
  unfold b_X7_readWord_41 b_X7_readWord_87
  rw [h3, nI_sub (by omega)]
  by_cases h10 : e - f ≤ 10
  · have hk := wkind7 (n := n) (gsc := sI gsc 6 (nI (e - f))) (gt := gt) hn (h.fr (A := [6]) (Fr.sI (by decide) _ _) (by decide)) h3 hfe he rfl h10 hin
    rw [if_pos (show nI (e - f) ≤ (10 : Int32) from nI_le (b := 10) h10 (by decide)), bnd_s hk]
    refine ⟨_, rfl, rfl, rfl, ?_, rfl, ((Fr.sI (by decide) _ _).trans (Fr.sI (by decide) _ _)).trans (Fr.sI (by decide) _ _)⟩
    rw [if_neg (by omega)]; exact h5
  · rw [if_neg (show ¬ nI (e - f) ≤ (10 : Int32) from nI_ge (a := 10) (by omega) (by omega))]
    refine ⟨_, rfl, ?_, rfl, ?_, rfl, (((Fr.sI (by decide) _ _).trans (Fr.sI (by decide) _ _)).trans (Fr.sI (by decide) _ _)).trans (Fr.sI (by decide) _ _)⟩
    · unfold wk; rw [if_pos (by omega)]; rfl
    · rw [if_pos (by omega)]
      show nI f + 10 = _
      exact nI_add f 10
