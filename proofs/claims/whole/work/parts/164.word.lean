/-! words -/
def Wl : List Nat := [0x70617274, 0x73686f77, 0x63616d, 0x62656c6c, 0x7468656e, 0x7768656e, 0x6f6c64, 0x73746570, 0x7469636b73, 0x666c6f6f72, 0x6365696c, 0x72696e74, 0x616273, 0x6c65617374, 0x6d6f7374, 0x676364, 0x74727565, 0x66616c7365, 0x7472757468, 0x62797465, 0x73686f7274, 0x63686172, 0x696e74, 0x6c6f6e67, 0x666c6f6174, 0x646f75626c65]
/-- the first m bytes from f on, as one number -/
def pkw (B : Nat → Nat) (f : Nat) : Nat → Nat
  | 0 => 0
  | m + 1 => pkw B f m * 256 + B (f + m)
theorem pkw_lt {B : Nat → Nat} {f : Nat} : ∀ m, (∀ i, i < m → B (f + i) < 256) → pkw B f m < 256 ^ m := by
  intro m
  induction m with
  | zero => intro _; exact Nat.one_pos
  | succ m ih =>
    intro h
    have h1 := ih (fun i hi => h i (by omega))
    have h2 := h m (by omega)
    show pkw B f m * 256 + B (f + m) < 256 ^ (m + 1)
    rw [Nat.pow_succ]
    omega
theorem wl_idx {j x : Nat} (hj : j < 26) : Wl.getD j 0 = x ↔ Wl.idxOf x = j := by
  constructor
  · intro h
    subst h
    have : ∀ q : Fin 26, Wl.idxOf (Wl.getD q.val 0) = q.val := by decide +kernel
    exact this ⟨j, hj⟩
  · intro h
    have hx : Wl.idxOf x < Wl.length := by rw [h]; exact hj
    have h2 := List.getElem_idxOf hx
    rw [← h, List.getD_eq_getElem?_getD, List.getElem?_eq_getElem hx, h2]
    rfl
theorem shl8 {w c : Nat} (hw : w < 2 ^ 48) (hc : c < 256) : (lN w <<< ((8 : Int32).toInt64 &&& 63)) ||| (nI c).toInt64 = lN (w * 256 + c) := by
  rw [nI_l (by omega), show (8 : Int32) = nI 8 from rfl, lN_shl (by omega) (by omega)]
  apply uL_inj
  rw [uL_or, uL_lN (by omega), uL_lN (by omega), uL_lN (by omega)]
  have := Nat.shiftLeft_add_eq_or_of_lt (i := 8) (b := c) (by omega) w
  rw [Nat.shiftLeft_eq] at this
  exact this.symm
def isW (c : Nat) : Bool := isL c || isD c
/-- the kind of a word of m bytes, x its number -/
def wk (m x : Nat) : Nat := if 10 < m then 1 else if m ≤ 6 ∧ Wl.idxOf x < 26 then 200 + Wl.idxOf x else 2
theorem word12 {n : Nat} {g : Gs} {L f T e : Nat} {B : Nat → Nat} (hn : 3100 ≤ n) (h : RefT g L B) (hT : gI g 8 = nI T) (hT1 : T < 3001) (h7 : ∀ k, k < 26 → gLA g 7 k = lN (Wl.getD k 0)) (hfe : f ≤ e) (he : e ≤ L) (hin : ∀ i, f ≤ i → i < e → isW (rc L B i) = true) (hend : isW (rc L B e) = false) : f_X12_word n g (nI f) = some (tokG g T (wk (e - f) (pkw B f (e - f))) (if 10 < e - f then f + 10 else f) e) := by
  have hL := h.1
  -- the end of the word
  have l1 : ∀ d k i w, f + i + d = e → d < k → (i ≤ 6 → w = lN (pkw B f i)) → ∃ w' k', k ≤ k' + d + 1 ∧ (L_X12_word n k).1 g (nI f) (nI (f + i)) w = (L_X12_word n k').2 g (nI f) (nI e) w' 2 0 ∧ (e - f ≤ 6 → w' = lN (pkw B f (e - f))) := by
    intro d
    induction d with
    | zero =>
      intro k i w hi hk hw
      obtain ⟨k, rfl⟩ : ∃ q, k = q + 1 := ⟨k - 1, by omega⟩
      have e1 : f + i = e := by omega
      refine ⟨w, k, by omega, ?_, fun h6 => by rw [hw (by omega)]; congr 2; omega⟩
      show h_X12_word_4 n (L_X12_word n k) g (nI f) (nI (f + i)) w = _
      unfold h_X12_word_4
      rw [e1, bnd_s (at12 h (by omega)), bnd_s (let12 (h.lt e)), bnd_s (at12 h (by omega)), bnd_s (dig12 (h.lt e))]
      have h2 : isL (rc L B e) = false ∧ isD (rc L B e) = false := by
        unfold isW at hend
        exact Bool.or_eq_false_iff.mp hend
      rw [h2.1, h2.2, sgB_if, sgB_if, if_neg (by decide), if_neg (by decide)]
    | succ d ih =>
      intro k i w hi hk hw
      obtain ⟨k, rfl⟩ : ∃ q, k = q + 1 := ⟨k - 1, by omega⟩
      have hlt := h.lt (f + i)
      have hrc : rc L B (f + i) = B (f + i) := rc_in (by omega)
      have e26 : ∃ w2, b_X12_word_26 n (L_X12_word n k) g (nI f) (nI (f + i)) w = (L_X12_word n k).1 g (nI f) (nI (f + (i + 1))) w2 ∧ (i + 1 ≤ 6 → w2 = lN (pkw B f (i + 1))) := by
        unfold b_X12_word_26 b_X12_word_46
        rw [show nI f + 8 = nI (f + 8) from nI_add f 8, show nI (f + i) + 1 = nI (f + (i + 1)) from nI_1 _]
        by_cases h8 : f + 8 ≤ f + i
        · rw [if_pos (nI_le h8 (by omega))]
          exact ⟨w, rfl, fun z => by omega⟩
        · rw [if_neg (nI_ge (by omega) (by omega)), bnd_s (at12 h (by omega))]
          refine ⟨_, rfl, fun z => ?_⟩
          have hp : pkw B f i < 2 ^ 48 := by
            have h1 := pkw_lt (B := B) (f := f) i (fun q hq => by have := h.lt (f + q); rw [rc_in (by omega)] at this; exact this)
            have h2 : 256 ^ i ≤ 256 ^ 6 := Nat.pow_le_pow_right (by decide) (by omega)
            have h3 : 256 ^ 6 = 2 ^ 48 := by decide
            omega
          rw [hw (by omega), shl8 hp hlt, hrc]
          rfl
      obtain ⟨w2, q1, q2⟩ := e26
      obtain ⟨w', k', r1, r2, r3⟩ := ih k (i + 1) w2 (by omega) (by omega) q2
      refine ⟨w', k', by omega, ?_, r3⟩
      rw [← r2, ← q1]
      show h_X12_word_4 n (L_X12_word n k) g (nI f) (nI (f + i)) w = _
      unfold h_X12_word_4
      rw [bnd_s (at12 h (by omega)), bnd_s (let12 hlt), bnd_s (at12 h (by omega)), bnd_s (dig12 hlt)]
      have h2 : isL (rc L B (f + i)) = true ∨ isD (rc L B (f + i)) = true := by
        have := hin (f + i) (by omega) (by omega)
        unfold isW at this
        exact Bool.or_eq_true_iff.mp this
      rw [sgB_if, sgB_if]
      by_cases hl : isL (rc L B (f + i)) = true
      · rw [if_pos hl]
      · rw [if_neg hl, if_pos (h2.resolve_left hl)]
  obtain ⟨w', k', r1, r2, r3⟩ := l1 (e - f) n 0 0 (by omega) (by omega) (fun _ => rfl)
  have esub : nI e - nI f = nI (e - f) := nI_sub hfe
  -- the token
  have fin : ∀ K k'', b_X12_word_99 n (L_X12_word n k'') g (nI f) (nI e) (nI K) = some (tokG g T (if 10 < e - f then 1 else K) (if 10 < e - f then f + 10 else f) e) := by
    intro K k''
    unfold b_X12_word_99
    rw [esub, show (10 : Int32) = nI 10 from rfl]
    by_cases h10 : e - f ≤ 10
    · rw [if_pos (nI_le h10 (by decide)), bnd_s (tok12 hT hT1), if_neg (by omega), if_neg (by omega)]
    · rw [if_neg (nI_ge (by omega) (by omega)), nI_add, show (1 : Int32) = nI 1 from rfl, bnd_s (tok12 hT hT1), if_pos (by omega), if_pos (by omega)]
  -- among the words
  have l2 : ∀ d k i, i + d = 26 → d < k → e - f ≤ 6 → (L_X12_word n k).2 g (nI f) (nI e) w' (nI (if Wl.idxOf (pkw B f (e - f)) < i then 200 + Wl.idxOf (pkw B f (e - f)) else 2)) (nI i) = some (tokG g T (if Wl.idxOf (pkw B f (e - f)) < 26 then 200 + Wl.idxOf (pkw B f (e - f)) else 2) f e) := by
    intro d
    induction d with
    | zero =>
      intro k i hi hk h6
      obtain ⟨k, rfl⟩ : ∃ q, k = q + 1 := ⟨k - 1, by omega⟩
      show h_X12_word_58 n (L_X12_word n k) g (nI f) (nI e) w' _ (nI i) = _
      unfold h_X12_word_58
      rw [show (26 : Int32) = nI 26 from rfl, if_pos (nI_le (by omega) (by omega)), fin, if_neg (show ¬ 10 < e - f by omega), if_neg (show ¬ 10 < e - f by omega), show i = 26 by omega]
    | succ d ih =>
      intro k i hi hk h6
      obtain ⟨k, rfl⟩ : ∃ q, k = q + 1 := ⟨k - 1, by omega⟩
      show h_X12_word_58 n (L_X12_word n k) g (nI f) (nI e) w' _ (nI i) = _
      unfold h_X12_word_58 b_X12_word_93
      have hpk : pkw B f (e - f) < 2 ^ 63 := by
        have h1 := pkw_lt (B := B) (f := f) (e - f) (fun q hq => by have := h.lt (f + q); rw [rc_in (by omega)] at this; exact this)
        have h2 : 256 ^ (e - f) ≤ 256 ^ 6 := Nat.pow_le_pow_right (by decide) h6
        have h3 : 256 ^ 6 = 2 ^ 48 := by decide
        omega
      have hwl : Wl.getD i 0 < 2 ^ 63 := by
        have : ∀ q : Fin 26, Wl.getD q.val 0 < 2 ^ 63 := by decide +kernel
        exact this ⟨i, by omega⟩
      rw [if_neg (show ¬ (26 : Int32) ≤ nI i from nI_ge (b := 26) (by omega) (by decide)), esub, if_neg (show ¬ (6 : Int32) < nI (e - f) from nI_nlt (a := 6) (by omega) (by decide)), grd_t (inB_nI (by omega) (by decide)), nI_clamp (by omega), h7 i (by omega), r3 h6, nI_1, show (200 : Int32) + nI i = nI (200 + i) from nI_add 200 i]
      have key := wl_idx (j := i) (x := pkw B f (e - f)) (by omega)
      have r3' := (r3 h6).symm
      have ih' := ih k (i + 1) (by omega) (by omega) h6
      rw [r3 h6] at ih'
      by_cases hq : Wl.idxOf (pkw B f (e - f)) = i
      · rw [if_pos (by rw [key.mpr hq]), ← ih', hq, if_pos (by omega)]
      · rw [if_neg (fun z => hq (key.mp ((pk_lEQ hwl hpk).mp z))), ← ih']
        by_cases hlt : Wl.idxOf (pkw B f (e - f)) < i
        · rw [if_pos hlt, if_pos (by omega)]
        · rw [if_neg hlt, if_neg (by omega)]
  unfold f_X12_word
  have r2' : (L_X12_word n n).1 g (nI f) (nI f) 0 = (L_X12_word n k').2 g (nI f) (nI e) w' 2 0 := r2
  rw [r2']
  unfold wk
  by_cases h6 : e - f ≤ 6
  · have := l2 26 k' 0 (by omega) (by omega) h6
    rw [if_neg (show ¬ Wl.idxOf (pkw B f (e - f)) < 0 by omega)] at this
    rw [if_neg (by omega), if_neg (show ¬ 10 < e - f by omega)]
    have e1 : (if e - f ≤ 6 ∧ Wl.idxOf (pkw B f (e - f)) < 26 then 200 + Wl.idxOf (pkw B f (e - f)) else 2) = (if Wl.idxOf (pkw B f (e - f)) < 26 then 200 + Wl.idxOf (pkw B f (e - f)) else 2) := by
      by_cases hq : Wl.idxOf (pkw B f (e - f)) < 26
      · rw [if_pos hq, if_pos ⟨h6, hq⟩]
      · rw [if_neg hq, if_neg (fun z => hq z.2)]
    rw [e1]
    exact this
  · obtain ⟨k'', rfl⟩ : ∃ q, k' = q + 1 := ⟨k' - 1, by omega⟩
    show h_X12_word_58 n (L_X12_word n k'') g (nI f) (nI e) w' 2 0 = _
    unfold h_X12_word_58
    have f2 := fin 2 k''
    rw [if_neg (show ¬ (26 : Int32) ≤ 0 by decide), esub, if_pos (show (6 : Int32) < nI (e - f) from nI_lt (a := 6) (by omega) (by omega))]
    rw [show b_X12_word_99 n (L_X12_word n k'') g (nI f) (nI e) 2 = _ from f2]
    congr 2
    by_cases h10 : 10 < e - f
    · rw [if_pos h10, if_pos h10]
    · rw [if_neg h10, if_neg h10, if_neg (fun z => h6 z.1)]
