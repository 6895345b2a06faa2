/-! bytes of the text, signs -/
/-- x is the byte c, or stands behind the text (then c = 0) -/
def Bt (x : Int32) (c : Nat) : Prop := c < 256 ∧ (x = nI c ∨ (x = -1 ∧ c = 0))
theorem Bt.eq {x : Int32} {c k : Nat} (h : Bt x c) (hk1 : 1 ≤ k) (hk : k < 256) : x = nI k ↔ c = k := by
  obtain ⟨h1, rfl | ⟨rfl, rfl⟩⟩ := h
  · exact nI_eq (by omega) (by omega)
  · constructor
    · intro z; exact absurd (show nI k < 0 from by rw [← z]; decide) (nI_pos (by omega))
    · intro z; omega
def isL (c : Nat) : Bool := decide ((97 ≤ c ∧ c ≤ 122) ∨ (65 ≤ c ∧ c ≤ 90))
def isD (c : Nat) : Bool := decide (48 ≤ c ∧ c ≤ 57)
theorem let12 {c : Nat} (h : c < 256) : f_X12_isLetter (nI c) = some (sgB (isL c)) := by
  have : ∀ q : Fin 256, f_X12_isLetter (nI q.val) = some (sgB (isL q.val)) := by decide +kernel
  exact this ⟨c, h⟩
theorem dig12 {c : Nat} (h : c < 256) : f_X12_isDigit (nI c) = some (sgB (isD c)) := by
  have : ∀ q : Fin 256, f_X12_isDigit (nI q.val) = some (sgB (isD q.val)) := by decide +kernel
  exact this ⟨c, h⟩
theorem let7 {x : Int32} {c : Nat} (h : Bt x c) : f_X7_isLetter x = some (sgB (isL c)) := by
  have : ∀ q : Fin 256, f_X7_isLetter (nI q.val) = some (sgB (isL q.val)) := by decide +kernel
  obtain ⟨h1, rfl | ⟨rfl, rfl⟩⟩ := h
  · exact this ⟨c, h1⟩
  · decide
theorem dig7 {x : Int32} {c : Nat} (h : Bt x c) : f_X7_isDigit x = some (sgB (isD c)) := by
  have : ∀ q : Fin 256, f_X7_isDigit (nI q.val) = some (sgB (isD q.val)) := by decide +kernel
  obtain ⟨h1, rfl | ⟨rfl, rfl⟩⟩ := h
  · exact this ⟨c, h1⟩
  · decide
/-- the byte at p, 0 behind the text -/
def rc (L : Nat) (B : Nat → Nat) (p : Nat) : Nat := if p < L then B p else 0
theorem rc_in {L p : Nat} {B : Nat → Nat} (h : p < L) : rc L B p = B p := if_pos h
theorem rc_out {L p : Nat} {B : Nat → Nat} (h : L ≤ p) : rc L B p = 0 := if_neg (by omega)
/-- the reference's text and the class's tape -/
def RefT (g : Gs) (L : Nat) (B : Nat → Nat) : Prop := L ≤ 3000 ∧ gI g 6 = nI L ∧ ∀ p, p < L → B p < 256 ∧ gIA g 5 p &&& 255 = nI (B p)
def ClsT (gsc gt : Gs) (L : Nat) (B : Nat → Nat) : Prop := L ≤ 3000 ∧ gI gsc 2 = nI L ∧ ∀ p, p < L → B p < 256 ∧ gIA gt 0 p &&& 255 = nI (B p)
theorem RefT.fr {g g' : Gs} {L : Nat} {B : Nat → Nat} {A : List Nat} (h : RefT g L B) (f : Fr A g g') (hA : 5 ∉ A ∧ 6 ∉ A) : RefT g' L B := by
  unfold RefT
  rw [(f 6 hA.2).1, (f 5 hA.1).2.2.2.1]; exact h
theorem ClsT.fr {g g' gt : Gs} {L : Nat} {B : Nat → Nat} {A : List Nat} (h : ClsT g gt L B) (f : Fr A g g') (hA : 2 ∉ A) : ClsT g' gt L B := by
  unfold ClsT
  rw [(f 2 hA).1]; exact h
theorem RefT.lt {g : Gs} {L : Nat} {B : Nat → Nat} (h : RefT g L B) (p : Nat) : rc L B p < 256 := by
  unfold rc; split
  · exact (h.2.2 p (by assumption)).1
  · omega
theorem ClsT.lt {g gt : Gs} {L : Nat} {B : Nat → Nat} (h : ClsT g gt L B) (p : Nat) : rc L B p < 256 := by
  unfold rc; split
  · exact (h.2.2 p (by assumption)).1
  · omega
theorem at12 {g : Gs} {L : Nat} {B : Nat → Nat} (h : RefT g L B) {p : Nat} (hp : p < 2 ^ 31) : f_X12_at g (nI p) = some (nI (rc L B p)) := by
  obtain ⟨h1, h2, h3⟩ := h
  unfold f_X12_at rc
  rw [h2]
  by_cases hq : p < L
  · rw [if_neg (nI_ge hq (by omega)), grd_t (inB_nI (by omega) (by decide)), nI_clamp hp, (h3 p hq).2, if_pos hq]
  · rw [if_pos (nI_le (by omega) hp), if_neg hq]; rfl
theorem by7 {gsc gt : Gs} {L : Nat} {B : Nat → Nat} (h : ClsT gsc gt L B) {p : Nat} (hp : p < 2 ^ 31) : ∃ x, f_X7_byteAt gsc gt (nI p) = some x ∧ Bt x (rc L B p) ∧ (p < L → x = nI (B p)) := by
  have hl := h.lt p
  obtain ⟨h1, h2, h3⟩ := h
  unfold f_X7_byteAt
  rw [h2, if_neg (nI_pos hp)]
  by_cases hq : p < L
  · rw [if_neg (nI_ge hq (by omega)), grd_t (inB_nI (by omega) (by decide)), nI_clamp hp, (h3 p hq).2]
    exact ⟨_, rfl, ⟨hl, .inl (by rw [rc_in hq])⟩, fun _ => rfl⟩
  · rw [if_pos (nI_le (by omega) hp)]
    exact ⟨_, rfl, ⟨hl, .inr ⟨rfl, rc_out (by omega)⟩⟩, fun z => absurd z hq⟩
theorem first_not (P : Nat → Prop) (L : Nat) : ∀ (d p : Nat), p + d = L → ∃ q, p ≤ q ∧ q ≤ L ∧ (∀ i, p ≤ i → i < q → P i) ∧ (q < L → ¬ P q) := by
  intro d
  induction d with
  | zero => intro p hp; exact ⟨p, Nat.le_refl _, by omega, fun i h1 h2 => by omega, fun h => by omega⟩
  | succ d ih =>
    intro p hp
    by_cases h : P p
    · obtain ⟨q, h1, h2, h3, h4⟩ := ih (p + 1) (by omega)
      refine ⟨q, by omega, h2, fun i i1 i2 => ?_, h4⟩
      by_cases hi : i = p
      · rw [hi]; exact h
      · exact h3 i (by omega) i2
    · exact ⟨p, Nat.le_refl _, by omega, fun i h1 h2 => by omega, fun _ => h⟩
/-! kinds of tokens: the class's number of the reference's -/
def Sl : List Nat := [58, 59, 44, 61, 63, 40, 41, 91, 93, 43, 45, 42, 47, 37, 33, 60, 62]
def kc (K : Nat) : Nat := if K ≤ 3 then K else if 200 ≤ K ∧ K < 226 then K - 190 else if K = 188 then 57 else if K = 190 then 58 else if K = 189 then 59 else if K = 161 then 60 else if K = 166 then 61 else if K = 252 then 62 else 40 + Sl.idxOf K
def KS : List Nat := [0, 1, 2, 3, 200, 201, 202, 203, 204, 205, 206, 207, 208, 209, 210, 211, 212, 213, 214, 215, 216, 217, 218, 219, 220, 221, 222, 223, 224, 225, 58, 59, 44, 61, 63, 40, 41, 91, 93, 43, 45, 42, 47, 37, 33, 60, 62, 188, 190, 189, 161, 166, 252]
/-- the sign that begins with c, d behind it: its kind and how many bytes it has -/
def sgn (c d : Nat) : Nat × Nat := if d = 61 ∧ (c = 60 ∨ c = 62 ∨ c = 61 ∨ c = 33) then (if c = 60 then 188 else if c = 62 then 190 else if c = 61 then 189 else 161, 2) else if (c = 38 ∨ c = 124) ∧ d = c then (if c = 38 then 166 else 252, 2) else if c ∈ Sl then (c, 1) else (1, 1)
theorem sgn_ks (c d : Nat) : (sgn c d).1 ∈ KS ∧ (sgn c d).1 ≠ 0 ∧ (sgn c d).1 ≠ 2 ∧ (sgn c d).1 ≠ 3 ∧ (sgn c d).1 < 200 ∨ (sgn c d).1 = 252 := by
  unfold sgn
  split
  · split
    · left; decide
    · split
      · left; decide
      · split
        · left; decide
        · left; decide
  · split
    · split
      · left; decide
      · right; rfl
    · split
      · rename_i h
        left
        have : ∀ x ∈ Sl, x ∈ KS ∧ x ≠ 0 ∧ x ≠ 2 ∧ x ≠ 3 ∧ x < 200 := by decide
        exact this c h
      · left; decide
def tokG (g : Gs) (T : Nat) (K a e : Nat) : Gs := sI (sIA (sIA (sIA g 9 (upd (gIA g 9) T (nI K))) 10 (upd (gIA g 10) T (nI a))) 11 (upd (gIA g 11) T (nI e))) 8 (nI (T + 1))
theorem tok12 {g : Gs} {T K a e : Nat} (hT : gI g 8 = nI T) (h : T < 3001) : f_X12_token g (nI K) (nI a) (nI e) = some (tokG g T K a e) := by
  unfold f_X12_token tokG
  rw [hT]
  simp only [grd_t (inB_nI h (by decide)), nI_clamp (show T < 2 ^ 31 by omega), nI_1]
