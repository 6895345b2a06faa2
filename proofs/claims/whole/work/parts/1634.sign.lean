/-! signs of the class -/
theorem idx17 {n c : Nat} (hc : c < 256) (hn : 20 ≤ n) : f_J0_indexOf_0f7a4__S1 n (nI c) = some (if Sl.idxOf c < 17 then nI (Sl.idxOf c) else -1) := by
  have e1 : ∀ c : Fin 256, ∀ j : Fin 17, (signsB.getD j.val 0 = (nI c.val).toInt8.toInt32 ↔ Sl.idxOf c.val = j.val) := by decide +kernel
  have hle : Sl.idxOf c ≤ 17 := by
    have := List.idxOf_le_length (a := c) (l := Sl)
    exact this
  have loop : ∀ d k i, i + d = 17 → d < k → i ≤ Sl.idxOf c → L_J1_indexOfChar_4cfef__S1 n k 17 (nI c).toInt8.toInt32 (nI i) = some (if Sl.idxOf c < 17 then nI (Sl.idxOf c) else -1) := by
    intro d
    induction d with
    | zero =>
      intro k i hi hk hx
      obtain ⟨k, rfl⟩ : ∃ q, k = q + 1 := ⟨k - 1, by omega⟩
      show h_J1_indexOfChar_4cfef__S1_7 n _ 17 _ (nI i) = _
      unfold h_J1_indexOfChar_4cfef__S1_7
      rw [show (17 : Int32) = nI 17 from rfl, if_pos (nI_le (by omega) (by omega)), if_neg (by omega)]
    | succ d ih =>
      intro k i hi hk hx
      obtain ⟨k, rfl⟩ : ∃ q, k = q + 1 := ⟨k - 1, by omega⟩
      show h_J1_indexOfChar_4cfef__S1_7 n (L_J1_indexOfChar_4cfef__S1 n k) 17 _ (nI i) = _
      unfold h_J1_indexOfChar_4cfef__S1_7
      rw [if_neg (show ¬ (17 : Int32) ≤ nI i from nI_ge (b := 17) (by omega) (by decide)), grd_t (inB_nI (by omega) (by decide)), nI_clamp (by omega)]
      have e2 := e1 ⟨c, hc⟩ ⟨i, by omega⟩
      by_cases hq : Sl.idxOf c = i
      · rw [if_pos (e2.mpr hq), if_pos (by omega), hq]
      · rw [if_neg (fun z => hq (e2.mp z)), nI_1]
        exact ih k (i + 1) (by omega) (by omega) (by omega)
  have e3 : f_J1_canEncode_9a6ad (nI c) = some 1 := by
    unfold f_J1_canEncode_9a6ad
    rw [if_neg (nI_pos (by omega)), if_neg (show ¬ (255 : Int32) < nI c from nI_nlt (a := 255) (by omega) (by decide))]
  have e4 : f_J1_indexOf_4cfef__S1 n (nI c) 0 17 = some (if Sl.idxOf c < 17 then nI (Sl.idxOf c) else -1) := by
    unfold f_J1_indexOf_4cfef__S1
    rw [bnd_s e3, if_neg (by decide), if_pos (by decide)]
    have e5 : f_J1_indexOfChar_4cfef__S1 n (nI c) (if (0 : Int32) < (0 : Int32) then (0 : Int32) else 0) (if (17 : Int32) < 17 then (17 : Int32) else 17) = some (if Sl.idxOf c < 17 then nI (Sl.idxOf c) else -1) := loop 17 n 0 (by omega) (by omega) (by omega)
    rw [bnd_s e5]
  have e6 : f_J0_indexOf_7cf53__S1 n (nI c) 0 = some (if Sl.idxOf c < 17 then nI (Sl.idxOf c) else -1) := by
    unfold f_J0_indexOf_7cf53__S1
    rw [bnd_s (show f_J0_isLatin1_aae02__S1 = some 1 by decide), if_neg (by decide), bnd_s (show f_J0_length_8abf5__S1 = some 17 by decide), bnd_s e4]
  unfold f_J0_indexOf_0f7a4__S1
  rw [bnd_s e6]
/-- the class's sign -/
theorem sign7 {n : Nat} {gsc gt : Gs} {L p : Nat} {B : Nat → Nat} (h : ClsT gsc gt L B) (hp : p < L) (h3 : gI gsc 3 = nI p) (hn : 20 ≤ n) : ∃ g', f_X7_readSign n gsc gt (nI (B p)) = some g' ∧ gI g' 4 = nI (kc (sgn (rc L B p) (rc L B (p + 1))).1) ∧ gI g' 3 = nI (p + (sgn (rc L B p) (rc L B (p + 1))).2) ∧ Fr [3, 4] gsc g' := by
  have hL := h.1
  have c1 := h.lt p
  rw [rc_in hp] at c1 ⊢
  obtain ⟨x, x1, x2, _⟩ := by7 h (p := p + 1) (by omega)
  have c2 := x2.1
  have hch : ((nI (B p)).toUInt32 % 65536).toInt32 = nI (B p) := by
    have : ∀ q : Fin 256, ((nI q.val).toUInt32 % 65536).toInt32 = nI q.val := by decide +kernel
    exact this ⟨B p, c1⟩
  unfold f_X7_readSign
  rw [h3, nI_1, bnd_s x1, hch, bnd_s (idx17 c1 hn)]
  generalize B p = c at *
  generalize rc L B (p + 1) = d at *
  -- the single sign
  obtain ⟨S, hS, hS2⟩ : ∃ S, S < 100 ∧ (if c ∈ Sl then kc c else 1) = S := ⟨_, by
    split
    · rename_i hm
      have : ∀ x ∈ Sl, kc x < 100 := by decide
      exact this c hm
    · decide, rfl⟩
  have hkind : (if 0 ≤ (if Sl.idxOf c < 17 then nI (Sl.idxOf c) else -1) then b_X7_readSign_32 n gsc gt (nI c) x (40 + (if Sl.idxOf c < 17 then nI (Sl.idxOf c) else -1)) else b_X7_readSign_32 n gsc gt (nI c) x 1) = b_X7_readSign_32 n gsc gt (nI c) x (nI S) := by
    by_cases hm : c ∈ Sl
    · have h17 : Sl.idxOf c < 17 := List.idxOf_lt_length_iff.mpr hm
      rw [if_pos hm] at hS2
      rw [if_pos h17, if_pos (nI_pos' (by omega)), show (40 : Int32) = nI 40 from rfl, nI_add, ← hS2]
      have : ∀ x ∈ Sl, 40 + Sl.idxOf x = kc x := by decide
      rw [this c hm]
    · have h17 : ¬ Sl.idxOf c < 17 := fun z => hm (List.idxOf_lt_length_iff.mp z)
      rw [if_neg hm] at hS2
      rw [if_neg h17, if_neg (by decide), ← hS2]; rfl
  rw [hkind]
  unfold b_X7_readSign_32 b_X7_readSign_64
  -- pairs
  have pair : ∀ K, f_X7_pairKind (nI c) x = some (nI K) → K ≠ 1 → K < 100 → ∃ g', (bnd (f_X7_pairKind (nI c) x) (fun q_5 => if q_5 = (1 : Int32) then (some (sI (sI gsc 4 (nI S)) 3 ((gI (sI gsc 4 (nI S)) 3) + (1 : Int32)))) else (some (sI (sI (sI (sI gsc 4 (nI S)) 4 q_5) 3 ((gI gsc 3) + (1 : Int32))) 3 ((gI (sI (sI (sI gsc 4 (nI S)) 4 q_5) 3 ((gI gsc 3) + (1 : Int32))) 3) + (1 : Int32)))))) = some g' ∧ gI g' 4 = nI K ∧ gI g' 3 = nI (p + 2) ∧ Fr [3, 4] gsc g' := by
    intro K hK hK1 hK2
    rw [bnd_s hK, if_neg (show ¬ nI K = (1 : Int32) from fun z => hK1 ((nI_eq (b := 1) (by omega) (by decide)).mp z))]
    refine ⟨_, rfl, rfl, ?_, (((Fr.sI (by decide) _ _).trans (Fr.sI (by decide) _ _)).trans (Fr.sI (by decide) _ _)).trans (Fr.sI (by decide) _ _)⟩
    show gI gsc 3 + 1 + 1 = _
    rw [h3, nI_1, nI_1]
  have one : f_X7_pairKind (nI c) x = some 1 → sgn c d = (if c ∈ Sl then c else 1, 1) → ∃ g', (bnd (f_X7_pairKind (nI c) x) (fun q_5 => if q_5 = (1 : Int32) then (some (sI (sI gsc 4 (nI S)) 3 ((gI (sI gsc 4 (nI S)) 3) + (1 : Int32)))) else (some (sI (sI (sI (sI gsc 4 (nI S)) 4 q_5) 3 ((gI gsc 3) + (1 : Int32))) 3 ((gI (sI (sI (sI gsc 4 (nI S)) 4 q_5) 3 ((gI gsc 3) + (1 : Int32))) 3) + (1 : Int32)))))) = some g' ∧ gI g' 4 = nI (kc (sgn c d).1) ∧ gI g' 3 = nI (p + (sgn c d).2) ∧ Fr [3, 4] gsc g' := by
    intro hK hs
    rw [bnd_s hK, if_pos rfl, hs]
    refine ⟨_, rfl, ?_, ?_, (Fr.sI (by decide) _ _).trans (Fr.sI (by decide) _ _)⟩
    · show nI S = nI (kc (if c ∈ Sl then c else 1))
      rw [← hS2]
      by_cases hm : c ∈ Sl
      · rw [if_pos hm, if_pos hm]
      · rw [if_neg hm, if_neg hm]; rfl
    · show gI gsc 3 + 1 = _
      rw [h3, nI_1]
  have q : ∀ {k : Nat}, k < 256 → (nI c = nI k ↔ c = k) := fun hk => nI_eq (by omega) (by omega)
  by_cases hd : d = 61
  · have hx : x = 61 := (x2.eq (k := 61) (by decide) (by decide)).mpr hd
    by_cases e33 : c = 33
    · subst e33; rw [hd]; exact pair 60 (by rw [hx]; rfl) (by decide) (by decide)
    by_cases e60 : c = 60
    · subst e60; rw [hd]; exact pair 57 (by rw [hx]; rfl) (by decide) (by decide)
    by_cases e61 : c = 61
    · subst e61; rw [hd]; exact pair 59 (by rw [hx]; rfl) (by decide) (by decide)
    by_cases e62 : c = 62
    · subst e62; rw [hd]; exact pair 58 (by rw [hx]; rfl) (by decide) (by decide)
    refine one ?_ ?_
    · unfold f_X7_pairKind
      rw [if_pos hx, if_neg (show ¬ nI c = (33 : Int32) from fun z => e33 ((q (k := 33) (by decide)).mp z)), if_neg (show ¬ nI c = (60 : Int32) from fun z => e60 ((q (k := 60) (by decide)).mp z)), if_neg (show ¬ nI c = (61 : Int32) from fun z => e61 ((q (k := 61) (by decide)).mp z)), if_neg (show ¬ nI c = (62 : Int32) from fun z => e62 ((q (k := 62) (by decide)).mp z))]
    · unfold sgn
      rw [if_neg (by omega), if_neg (by omega)]
      split <;> rfl
  · have hx : ¬ x = 61 := fun z => hd ((x2.eq (k := 61) (by decide) (by decide)).mp z)
    by_cases hcd : d = c ∧ (c = 38 ∨ c = 124)
    · obtain ⟨rfl, h2⟩ := hcd
      have hxc : nI d = x := by
        rcases h2 with rfl | rfl
        · exact ((x2.eq (k := 38) (by decide) (by decide)).mpr rfl).symm
        · exact ((x2.eq (k := 124) (by decide) (by decide)).mpr rfl).symm
      rcases h2 with rfl | rfl
      · exact pair 61 (by rw [← hxc]; rfl) (by decide) (by decide)
      · exact pair 62 (by rw [← hxc]; rfl) (by decide) (by decide)
    · refine one ?_ ?_
      · unfold f_X7_pairKind
        rw [if_neg hx]
        by_cases hxc : nI c = x
        · have n38 : ¬ c = 38 := fun z => hcd ⟨by rw [(x2.eq (k := 38) (by decide) (by decide)).mp (by rw [← hxc, z]), z], .inl z⟩
          have n124 : ¬ c = 124 := fun z => hcd ⟨by rw [(x2.eq (k := 124) (by decide) (by decide)).mp (by rw [← hxc, z]), z], .inr z⟩
          rw [if_pos hxc, if_neg (show ¬ nI c = (38 : Int32) from fun z => n38 ((q (k := 38) (by decide)).mp z)), if_neg (show ¬ nI c = (124 : Int32) from fun z => n124 ((q (k := 124) (by decide)).mp z))]
        · rw [if_neg hxc]
      · unfold sgn
        rw [if_neg (fun z => hd z.1), if_neg (fun z => hcd ⟨z.2, z.1⟩)]
        split <;> rfl
