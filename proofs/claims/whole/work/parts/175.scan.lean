/-! one token on both sides -/
def Tok (n : Nat) (g2 : Gs) (L : Nat) (B : Nat → Nat) (p K a e s : Nat) (bits : Int64) : Prop :=
  (K ∈ KS ∧ p ≤ a ∧ a ≤ L ∧ e ≤ L ∧ (K ≠ 0 → K ≠ 1 → a < e) ∧ (K = 3 → 4 ≤ s ∧ s ≤ 7 ∧ VI s bits) ∧ (K = 2 → e - a ≤ 10) ∧ ((K = 2 ∨ (200 ≤ K ∧ K < 226)) → isW (rc L B a) = true ∧ isW (rc L B e) = false) ∧ (200 ≤ K ∧ K < 226 → a + 3 ≤ e)) ∧
  ∀ gsc gt, ClsT gsc gt L B → gI gsc 3 = nI p → ∃ g', f_X7_advance n gsc gt g2 = some g' ∧ gI g' 4 = nI (kc K) ∧ gI g' 5 = nI a ∧ (K ≠ 0 → K ≠ 1 → gI g' 3 = nI e) ∧ (K = 2 → gI g' 6 = nI (e - a)) ∧ (K = 3 → gI g' 7 = nI s ∧ VR s bits (gL g' 8) (gD g' 9)) ∧ Fr [3, 4, 5, 6, 7, 8, 9, 10, 11] gsc g'
def tokH (gb : Gs) (T K a e s : Nat) (bits : Int64) : Gs := if K = 3 then tokG (sIA (sLA gb 12 (vp_updL (gLA gb 12) T bits)) 13 (upd (gIA gb 13) T (nI s))) T 3 a e else tokG gb T K a e
def isB (c : Nat) : Prop := c = 32 ∨ c = 10 ∨ c = 9
theorem bl7 {x : Int32} {c : Nat} (h : Bt x c) : (isB c → f_X7_isBlank x = some 1) ∧ (¬ isB c → f_X7_isBlank x = some 0) := by
  have q32 : x = (32 : Int32) ↔ c = 32 := h.eq (k := 32) (by decide) (by decide)
  have q9 : x = (9 : Int32) ↔ c = 9 := h.eq (k := 9) (by decide) (by decide)
  have q10 : x = (10 : Int32) ↔ c = 10 := h.eq (k := 10) (by decide) (by decide)
  unfold f_X7_isBlank isB
  constructor
  · rintro (z | z | z)
    · rw [if_pos (q32.mpr z)]
    · rw [if_neg (fun y => by have := q32.mp y; omega), if_neg (fun y => by have := q9.mp y; omega), if_pos (q10.mpr z)]
    · rw [if_neg (fun y => by have := q32.mp y; omega), if_pos (q9.mpr z)]
  · intro z
    rw [if_neg (fun y => z (.inl (q32.mp y))), if_neg (fun y => z (.inr (.inr (q9.mp y)))), if_neg (fun y => z (.inr (.inl (q10.mp y))))]
/-- blanks are passed over -/
theorem bl_cls {n : Nat} {gt g2 : Gs} {L q : Nat} {B : Nat → Nat} (hq : q ≤ L) (hend : q < L → ¬ isB (rc L B q)) : ∀ (d k p : Nat) (gsc : Gs), ClsT gsc gt L B → gI gsc 3 = nI p → p + d = q → (∀ i, p ≤ i → i < q → isB (rc L B i)) → d < k → ∃ g1, L_X7_advance n k gsc gt g2 = b_X7_advance_38 n (L_X7_advance n (k - d - 1)) g1 gt g2 ∧ gI g1 3 = nI q ∧ Fr [3] gsc g1 := by
  intro d
  induction d with
  | zero =>
    intro k p gsc h h3 hp _ hk
    have hL := h.1
    obtain ⟨k, rfl⟩ : ∃ z, k = z + 1 := ⟨k - 1, by omega⟩
    have hpq : p = q := by omega
    subst hpq
    refine ⟨gsc, ?_, h3, Fr.refl _ _⟩
    show h_X7_advance_0 n (L_X7_advance n k) gsc gt g2 = _
    unfold h_X7_advance_0
    rw [h.2.1, h3]
    by_cases hz : L ≤ p
    · rw [if_pos (nI_le hz (by omega))]; rfl
    · obtain ⟨x, x1, x2, x3⟩ := by7 h (p := p) (by omega)
      rw [if_neg (nI_ge (by omega) (by omega)), bnd_s x1, bnd_s ((bl7 x2).2 (hend (by omega))), if_pos rfl]; rfl
  | succ d ih =>
    intro k p gsc h h3 hp hb hk
    have hL := h.1
    obtain ⟨k, rfl⟩ : ∃ z, k = z + 1 := ⟨k - 1, by omega⟩
    obtain ⟨x, x1, x2, x3⟩ := by7 h (p := p) (by omega)
    obtain ⟨g1, a1, a2, a3⟩ := ih k (p + 1) (sI gsc 3 (nI (p + 1))) (h.fr (A := [3]) (Fr.sI (by decide) _ _) (by decide)) rfl (by omega) (fun i h1 h2 => hb i (by omega) h2) (by omega)
    refine ⟨g1, ?_, a2, (Fr.sI (by decide) _ _).trans a3⟩
    rw [show k + 1 - (d + 1) - 1 = k - d - 1 by omega, ← a1]
    show h_X7_advance_0 n (L_X7_advance n k) gsc gt g2 = _
    unfold h_X7_advance_0
    rw [h.2.1, h3, if_neg (nI_ge (by omega) (by omega)), bnd_s x1, bnd_s ((bl7 x2).1 (hb p (Nat.le_refl _) (by omega))), if_neg (by decide), nI_1]
theorem bl_ref {n : Nat} {g : Gs} {L q : Nat} {B : Nat → Nat} (h : RefT g L B) (hq : q ≤ L) (hend : q < L → ¬ isB (rc L B q)) : ∀ (d k p : Nat), p + d = q → (∀ i, p ≤ i → i < q → isB (rc L B i)) → d < k → (L_X12_scan n k).2.2 g (nI p) = b_X12_scan_98 n (L_X12_scan n (k - d - 1)) g (nI q) := by
  have hL := h.1
  intro d
  induction d with
  | zero =>
    intro k p hp _ hk
    obtain ⟨k, rfl⟩ : ∃ z, k = z + 1 := ⟨k - 1, by omega⟩
    have hpq : p = q := by omega
    subst hpq
    show h_X12_scan_54 n (L_X12_scan n k) g (nI p) = _
    unfold h_X12_scan_54
    rw [h.2.1]
    by_cases hz : L ≤ p
    · rw [if_pos (nI_le hz (by omega))]; rfl
    · have hlt := h.lt p
      have hn := hend (by omega)
      rw [if_neg (nI_ge (by omega) (by omega)), bnd_s (at12 h (by omega)), bnd_s (at12 h (by omega)), bnd_s (at12 h (by omega)), if_neg (show ¬ nI (rc L B p) = (32 : Int32) from fun z => hn (.inl ((nI_eq (b := 32) (by omega) (by decide)).mp z))), if_neg (show ¬ nI (rc L B p) = (10 : Int32) from fun z => hn (.inr (.inl ((nI_eq (b := 10) (by omega) (by decide)).mp z)))), if_neg (show ¬ nI (rc L B p) = (9 : Int32) from fun z => hn (.inr (.inr ((nI_eq (b := 9) (by omega) (by decide)).mp z))))]
      rfl
  | succ d ih =>
    intro k p hp hb hk
    obtain ⟨k, rfl⟩ : ∃ z, k = z + 1 := ⟨k - 1, by omega⟩
    rw [show k + 1 - (d + 1) - 1 = k - d - 1 by omega, ← ih k (p + 1) (by omega) (fun i h1 h2 => hb i (by omega) h2) (by omega)]
    show h_X12_scan_54 n (L_X12_scan n k) g (nI p) = _
    unfold h_X12_scan_54 b_X12_scan_92
    have hlt := h.lt p
    rw [h.2.1, if_neg (nI_ge (by omega) (by omega)), bnd_s (at12 h (by omega)), bnd_s (at12 h (by omega)), bnd_s (at12 h (by omega)), nI_1]
    rcases hb p (Nat.le_refl _) (by omega) with z | z | z
    · rw [if_pos (show nI (rc L B p) = (32 : Int32) by rw [z]; rfl)]
    · rw [if_neg (show ¬ nI (rc L B p) = (32 : Int32) by rw [z]; decide), if_pos (show nI (rc L B p) = (10 : Int32) by rw [z]; rfl)]
    · rw [if_neg (show ¬ nI (rc L B p) = (32 : Int32) by rw [z]; decide), if_neg (show ¬ nI (rc L B p) = (10 : Int32) by rw [z]; decide), if_pos (show nI (rc L B p) = (9 : Int32) by rw [z]; rfl)]
theorem wk_ks (m x : Nat) : wk m x ∈ KS ∧ wk m x ≠ 0 ∧ wk m x ≠ 3 ∧ (wk m x = 1 ∨ wk m x = 2 ∨ (200 ≤ wk m x ∧ wk m x < 226)) ∧ (wk m x = 1 ↔ 10 < m) := by
  unfold wk
  by_cases h1 : 10 < m
  · rw [if_pos h1]; exact ⟨by decide, by decide, by decide, .inl rfl, ⟨fun _ => h1, fun _ => rfl⟩⟩
  · rw [if_neg h1]
    by_cases h2 : m ≤ 6 ∧ Wl.idxOf x < 26
    · rw [if_pos h2]
      have : ∀ j : Fin 26, 200 + j.val ∈ KS := by decide
      exact ⟨this ⟨_, h2.2⟩, by omega, by omega, .inr (.inr (by omega)), ⟨fun z => by omega, fun z => absurd z h1⟩⟩
    · rw [if_neg h2]; exact ⟨by decide, by decide, by decide, .inr (.inl rfl), ⟨fun z => by omega, fun z => absurd z h1⟩⟩
theorem wk_three {B : Nat → Nat} {f m : Nat} (hB : ∀ i, i < m → B (f + i) < 256) (h : 200 ≤ wk m (pkw B f m) ∧ wk m (pkw B f m) < 226) : 3 ≤ m := by
  unfold wk at h
  by_cases h1 : 10 < m
  · rw [if_pos h1] at h; omega
  · rw [if_neg h1] at h
    by_cases h2 : m ≤ 6 ∧ Wl.idxOf (pkw B f m) < 26
    · have hw := (wl_idx (x := pkw B f m) h2.2).mpr rfl
      have : ∀ j : Fin 26, 65536 ≤ Wl.getD j.val 0 := by decide +kernel
      have h3 := this ⟨_, h2.2⟩
      have h4 : 65536 ≤ pkw B f m := by rw [← hw]; exact h3
      have h5 := pkw_lt (B := B) (f := f) m hB
      refine Classical.byContradiction fun z => ?_
      have h6 : 256 ^ m ≤ 256 ^ 2 := Nat.pow_le_pow_right (by decide) (by omega)
      have h7 : 256 ^ 2 = 65536 := by decide
      omega
    · rw [if_neg h2] at h; omega
theorem isW_no {c : Nat} (h : isL c = false) (h2 : isD c = false) : isW c = false := by unfold isW; rw [h, h2]; rfl
theorem tok_ex {n : Nat} {g g2 : Gs} {L p T : Nat} {B : Nat → Nat} (hn : 20000 ≤ n) (hTb : Tb g2) (h : RefT g L B) (h7 : ∀ k, k < 26 → gLA g 7 k = lN (Wl.getD k 0)) (hT : gI g 8 = nI T) (hT1 : T < 3001) (hp : p ≤ L) : ∃ (K a e s : Nat) (bits : Int64) (gb : Gs), Tok n g2 L B p K a e s bits ∧ Fr [0, 1, 2] g gb ∧ ∀ k, 3100 ≤ k → ∃ k', k ≤ k' + (a - p) + 1 ∧ (L_X12_scan n k).2.2 g (nI p) = b_X12_scan_157 n (L_X12_scan n k') (tokH gb T K a e s bits) := by
  have hL := h.1
  obtain ⟨q, q1, q2, q3, q4⟩ := first_not (fun i => isB (rc L B i)) L (L - p) p (by omega)
  -- what comes of it
  have fin : ∀ (K a e s : Nat) (bits : Int64) (gb : Gs), q ≤ a → (K ∈ KS ∧ p ≤ a ∧ a ≤ L ∧ e ≤ L ∧ (K ≠ 0 → K ≠ 1 → a < e) ∧ (K = 3 → 4 ≤ s ∧ s ≤ 7 ∧ VI s bits) ∧ (K = 2 → e - a ≤ 10) ∧ ((K = 2 ∨ (200 ≤ K ∧ K < 226)) → isW (rc L B a) = true ∧ isW (rc L B e) = false) ∧ (200 ≤ K ∧ K < 226 → a + 3 ≤ e)) → Fr [0, 1, 2] g gb → (∀ rec, b_X12_scan_98 n rec g (nI q) = b_X12_scan_157 n rec (tokH gb T K a e s bits)) → (∀ rec gsc gt, ClsT gsc gt L B → gI gsc 3 = nI q → ∃ g', b_X7_advance_38 n rec gsc gt g2 = some g' ∧ gI g' 4 = nI (kc K) ∧ gI g' 5 = nI a ∧ (K ≠ 0 → K ≠ 1 → gI g' 3 = nI e) ∧ (K = 2 → gI g' 6 = nI (e - a)) ∧ (K = 3 → gI g' 7 = nI s ∧ VR s bits (gL g' 8) (gD g' 9)) ∧ Fr [3, 4, 5, 6, 7, 8, 9, 10, 11] gsc g') → ∃ (K a e s : Nat) (bits : Int64) (gb : Gs), Tok n g2 L B p K a e s bits ∧ Fr [0, 1, 2] g gb ∧ ∀ k, 3100 ≤ k → ∃ k', k ≤ k' + (a - p) + 1 ∧ (L_X12_scan n k).2.2 g (nI p) = b_X12_scan_157 n (L_X12_scan n k') (tokH gb T K a e s bits) := by
    intro K a e s bits gb f0 f1 f2 f3 f4
    refine ⟨K, a, e, s, bits, gb, ⟨f1, fun gsc gt c1 c2 => ?_⟩, f2, fun k hk => ⟨k - (q - p) - 1, by omega, ?_⟩⟩
    · obtain ⟨g1, a1, a2, a3⟩ := bl_cls (n := n) (gt := gt) (g2 := g2) q2 q4 (q - p) n p gsc c1 c2 (by omega) q3 (by omega)
      obtain ⟨g', b1, b2, b3, b4, b5, b6, b7⟩ := f4 (L_X7_advance n (n - (q - p) - 1)) g1 gt (c1.fr a3 (by decide)) a2
      refine ⟨g', ?_, b2, b3, b4, b5, b6, (a3.mono (by decide)).trans b7⟩
      unfold f_X7_advance
      rw [a1, b1]
    · rw [bl_ref h q2 q4 (q - p) k p (by omega) q3 (by omega), f3]
  have hlt := h.lt q
  by_cases hqL : q = L
  · -- the end
    refine fin 0 L L 0 0 g q2 ⟨by decide, by omega, Nat.le_refl _, Nat.le_refl _, fun z => absurd rfl z, fun z => absurd z (by decide), fun z => absurd z (by decide), fun z => absurd z (by decide), fun z => by omega⟩ (Fr.refl _ _) (fun rec => ?_) (fun rec gsc gt c1 c2 => ?_)
    · unfold b_X12_scan_98
      rw [bnd_s (at12 h (by omega)), h.2.1, if_pos (by rw [hqL]), bnd_s (show f_X12_token g 0 (nI q) (nI q) = some (tokG g T 0 q q) from tok12 hT hT1), hqL]
      rfl
    · unfold b_X7_advance_38
      obtain ⟨x, x1, x2, x3⟩ := by7 (c1.fr (A := [5, 6]) ((Fr.sI (k := 5) (by decide) gsc (nI q)).trans (Fr.sI (by decide) (k := 6) _ (0 : Int32))) (by decide)) (p := q) (by omega)
      have xm : x = -1 := by
        have := x2.2
        unfold f_X7_byteAt at x1
        have e2 : gI (sI (sI gsc 5 (nI q)) 6 0) 2 = nI L := c1.2.1
        rw [if_neg (nI_pos (by omega)), e2, if_pos (nI_le (by omega) (by omega))] at x1
        injection x1 with x1
        exact x1.symm
      rw [c2, bnd_s x1, if_pos xm]
      exact ⟨_, rfl, rfl, by rw [← hqL]; rfl, fun z => absurd rfl z, fun z => absurd z (by decide), fun z => absurd z (by decide), ((Fr.sI (by decide) _ _).trans (Fr.sI (by decide) _ _)).trans (Fr.sI (by decide) _ _)⟩
  have hqlt : q < L := by omega
  have hrc : rc L B q = B q := rc_in hqlt
  have nq : ¬ nI q = nI L := fun z => hqL ((nI_eq (by omega) (by omega)).mp z)
  -- the class at its byte
  have c38 : ∀ rec (gsc gt : Gs), ClsT gsc gt L B → gI gsc 3 = nI q → ClsT (sI (sI gsc 5 (nI q)) 6 0) gt L B ∧ b_X7_advance_38 n rec gsc gt g2 = (if isL (rc L B q) = true then f_X7_readWord n (sI (sI gsc 5 (nI q)) 6 0) gt else if isD (rc L B q) = true then f_X7_readNumber n (sI (sI gsc 5 (nI q)) 6 0) gt g2 else f_X7_readSign n (sI (sI gsc 5 (nI q)) 6 0) gt (nI (B q))) := by
    intro rec gsc gt c1 c2
    have c1' := c1.fr (A := [5, 6]) (g' := sI (sI gsc 5 (nI q)) 6 0) ((Fr.sI (by decide) _ _).trans (Fr.sI (by decide) _ _)) (by decide)
    refine ⟨c1', ?_⟩
    unfold b_X7_advance_38
    obtain ⟨x, x1, x2, x3⟩ := by7 c1' (p := q) (by omega)
    have xe := x3 hqlt
    have bn : ∀ z : Option Gs, bnd z (fun q => some q) = z := by intro z; cases z <;> rfl
    rw [c2, bnd_s x1, if_neg (show ¬ x = -1 from fun z => nI_pos (n := B q) (by rw [← hrc]; omega) (by rw [← xe, z]; decide)), bnd_s (let7 x2), bnd_s (dig7 x2), sgB_if, sgB_if]
    simp only [bn]
    rw [xe]
  have r98 : ∀ rec, b_X12_scan_98 n rec g (nI q) = (if isL (rc L B q) = true then (bnd (f_X12_word n g (nI q)) (fun z => b_X12_scan_157 n rec z)) else if isD (rc L B q) = true then (bnd (f_X12_number n g (nI q)) (fun z => b_X12_scan_157 n rec z)) else (bnd (f_X12_sign g (nI q)) (fun z => b_X12_scan_157 n rec z))) := by
    intro rec
    unfold b_X12_scan_98
    rw [bnd_s (at12 h (by omega)), h.2.1, if_neg nq, bnd_s (let12 hlt), bnd_s (dig12 hlt), sgB_if, sgB_if]
  by_cases hl : isL (rc L B q) = true
  · -- a word
    have hw : isW (rc L B q) = true := by unfold isW; rw [hl]; rfl
    obtain ⟨e, e1, e2, e3, e4⟩ := first_not (fun i => isW (rc L B i) = true) L (L - q) q (by omega)
    have he : isW (rc L B e) = false := by
      by_cases z : e < L
      · rw [← Bool.not_eq_true]; exact e4 z
      · rw [rc_out (by omega)]; decide
    have hqe : q < e := by
      refine Nat.lt_of_le_of_ne e1 fun z => ?_
      rw [← z, hw] at he; exact absurd he (by decide)
    obtain ⟨k1, k2, k3, k4, k5⟩ := wk_ks (e - q) (pkw B q (e - q))
    have hw12 := word12 (n := n) (T := T) (by omega) h hT hT1 h7 (by omega) e2 e3 he
    refine fin (wk (e - q) (pkw B q (e - q))) (if 10 < e - q then q + 10 else q) e 0 0 g (by split <;> omega) ⟨k1, by split <;> omega, by split <;> omega, e2, fun _ z => ?_, fun z => absurd z k3, fun z => ?_, fun z => ?_, fun z => ?_⟩ (Fr.refl _ _) (fun rec => ?_) (fun rec gsc gt c1 c2 => ?_)
    · rw [if_neg (fun y => z (k5.mpr y))]; exact hqe
    · have : ¬ 10 < e - q := fun y => by have := k5.mpr y; omega
      rw [if_neg this]; omega
    · have : ¬ 10 < e - q := fun y => by have := k5.mpr y; omega
      rw [if_neg this]; exact ⟨hw, he⟩
    · have : ¬ 10 < e - q := fun y => by have := k5.mpr y; omega
      rw [if_neg this]
      have := wk_three (B := B) (f := q) (m := e - q) (fun i hi => by have := h.lt (q + i); rw [rc_in (by omega)] at this; exact this) z
      omega
    · rw [r98, if_pos hl, bnd_s hw12]
      unfold tokH
      rw [if_neg k3]
    · obtain ⟨c3, c4⟩ := c38 rec gsc gt c1 c2
      obtain ⟨g', w1, w2, w3, w4, w5, w6⟩ := word7 (n := n) (gt := gt) (by omega) c3 (show gI (sI (sI gsc 5 (nI q)) 6 0) 3 = nI q from c2) rfl hqe e2 e3 he
      refine ⟨g', by rw [c4, if_pos hl]; exact w1, w2, w4, fun _ _ => w3, fun z => ?_, fun z => absurd z k3, ((Fr.sI (by decide) _ _).trans (Fr.sI (by decide) _ _)).trans (w6.mono (by decide))⟩
      have : ¬ 10 < e - q := fun y => by have := k5.mpr y; omega
      rw [if_neg this]; exact w5
  by_cases hd : isD (rc L B q) = true
  · -- a number
    obtain ⟨K, e, s, bits, gb, n1, n2, n3, n4, n5⟩ := num_both hn hTb h hT hT1 hd
    refine fin K q e s bits gb (Nat.le_refl _) ⟨?_, by omega, by omega, n4, fun _ z => ?_, fun z => ?_, fun z => ?_, fun z => ?_, fun z => ?_⟩ n1 (fun rec => ?_) (fun rec gsc gt c1 c2 => ?_)
    · rcases n3 with z | ⟨z, _⟩ <;> rw [z] <;> decide
    · rcases n3 with y | ⟨_, y, _⟩
      · exact absurd y z
      · exact y
    · rcases n3 with y | ⟨_, _, _, y⟩
      · omega
      · exact y
    · rcases n3 with y | ⟨y, _⟩ <;> omega
    · rcases n3 with y | ⟨y, _⟩ <;> omega
    · rcases n3 with y | ⟨y, _⟩ <;> omega
    · rw [r98, if_neg hl, if_pos hd, bnd_s n2]
      unfold tokH
      rcases n3 with z | ⟨z, _⟩
      · rw [z]; rfl
      · rw [z]; rfl
    · obtain ⟨c3, c4⟩ := c38 rec gsc gt c1 c2
      obtain ⟨g', w1, w2, w3, w4⟩ := n5 _ gt c3 (show gI (sI (sI gsc 5 (nI q)) 6 0) 3 = nI q from c2)
      refine ⟨g', by rw [c4, if_neg hl, if_pos hd]; exact w1, ?_, ?_, fun _ z => ?_, fun z => ?_, fun z => (w3 z).2, ((Fr.sI (by decide) _ _).trans (Fr.sI (by decide) _ _)).trans (w4.mono (by decide))⟩
      · rcases n3 with z | ⟨z, _⟩ <;> rw [w2, z] <;> rfl
      · rw [(w4 5 (by decide)).1]; rfl
      · rcases n3 with y | ⟨y, _⟩
        · exact absurd y z
        · exact (w3 y).1
      · rcases n3 with y | ⟨y, _⟩ <;> omega
  · -- a sign
    have s12 := sign12 (T := T) h (show q < 4000 by omega) hT hT1
    obtain ⟨k1, k2, k3, k4, k5⟩ : (sgn (rc L B q) (rc L B (q + 1))).1 ∈ KS ∧ (sgn (rc L B q) (rc L B (q + 1))).1 ≠ 0 ∧ (sgn (rc L B q) (rc L B (q + 1))).1 ≠ 2 ∧ (sgn (rc L B q) (rc L B (q + 1))).1 ≠ 3 ∧ ¬ (200 ≤ (sgn (rc L B q) (rc L B (q + 1))).1 ∧ (sgn (rc L B q) (rc L B (q + 1))).1 < 226) := by
      rcases sgn_ks (rc L B q) (rc L B (q + 1)) with ⟨a1, a2, a3, a4, a5⟩ | a1
      · exact ⟨a1, a2, a3, a4, by omega⟩
      · rw [a1]; decide
    have hlen : 1 ≤ (sgn (rc L B q) (rc L B (q + 1))).2 ∧ q + (sgn (rc L B q) (rc L B (q + 1))).2 ≤ L := by
      by_cases hz : q + 1 < L
      · unfold sgn; split <;> (try split) <;> (try split) <;> (try split) <;> constructor <;> simp <;> omega
      · rw [rc_out (show L ≤ q + 1 by omega)]
        unfold sgn
        rw [if_neg (by omega), if_neg (by omega)]
        split <;> constructor <;> simp <;> omega
    refine fin (sgn (rc L B q) (rc L B (q + 1))).1 q (q + (sgn (rc L B q) (rc L B (q + 1))).2) 0 0 g (Nat.le_refl _) ⟨k1, by omega, by omega, hlen.2, fun _ _ => by omega, fun z => absurd z k4, fun z => absurd z k3, fun z => by rcases z with z | z; exact absurd z k3; exact absurd z k5, fun z => absurd z k5⟩ (Fr.refl _ _) (fun rec => ?_) (fun rec gsc gt c1 c2 => ?_)
    · rw [r98, if_neg hl, if_neg hd, bnd_s s12]
      unfold tokH
      rw [if_neg k4]
    · obtain ⟨c3, c4⟩ := c38 rec gsc gt c1 c2
      obtain ⟨g', w1, w2, w3, w4⟩ := sign7 (n := n) c3 hqlt (show gI (sI (sI gsc 5 (nI q)) 6 0) 3 = nI q from c2) (by omega)
      refine ⟨g', by rw [c4, if_neg hl, if_neg hd]; exact w1, w2, ?_, fun _ _ => w3, fun z => absurd z k3, fun z => absurd z k4, ((Fr.sI (by decide) _ _).trans (Fr.sI (by decide) _ _)).trans (w4.mono (by decide))⟩
      rw [(w4 5 (by decide)).1]; rfl
