/-! the desk's texts: put, putWhole, putReal on both sides -/
theorem inB_nI {c N : Nat} (h : c < N) (hN : N < 2 ^ 31) : inB (nI c) N = true := decide_eq_true (nI_in h hN)
def nb (c : Int32) : Int32 := vp_nar .byte c.toInt8.toInt32
abbrev Df (g g' : Gs) : Prop := Fr [0, 1, 2, 98, 99, 100] g g'
abbrev Pf (g g' : Gs) : Prop := Fr [1, 2] g g'
/-- the text that both have written -/
def Tx (g gp : Gs) (L : List Int32) : Prop := gI g 99 = nI L.length ∧ gI gp 2 = nI L.length ∧ L.length ≤ 48 ∧ ∀ j, j < L.length → gIA g 98 j = L.getD j 0 ∧ gIA gp 1 j = L.getD j 0
theorem Tx.df {g g' gp : Gs} {L : List Int32} (h : Tx g gp L) (hf : Fr [0, 1, 2, 100] g g') : Tx g' gp L := by
  obtain ⟨h1, h2, h3, h4⟩ := h
  have f98 := hf 98 (by decide)
  have f99 := hf 99 (by decide)
  refine ⟨f99.1.trans h1, h2, h3, fun j hj => ⟨?_, (h4 j hj).2⟩⟩
  rw [f98.2.2.2.1]
  exact (h4 j hj).1
theorem Tx.sc {g g' gp : Gs} {L : List Int32} (h : Tx g gp L) (hf : Sc g g') : Tx g' gp L := h.df (hf.fr.mono (by decide))
theorem Sc.df {g g' : Gs} (h : Sc g g') : Df g g' := h.fr.mono (by decide)
theorem getD_app_l {L M : List Int32} {j : Nat} (h : j < L.length) : (L ++ M).getD j 0 = L.getD j 0 := by
  rw [List.getD_eq_getElem?_getD, List.getD_eq_getElem?_getD, List.getElem?_append_left h]
theorem getD_app_last {L : List Int32} {c : Int32} : (L ++ [c]).getD L.length 0 = c := by
  rw [List.getD_eq_getElem?_getD, List.getElem?_append_right (Nat.le_refl _), Nat.sub_self]; rfl
theorem put_both {g gp : Gs} {L : List Int32} (c : Int32) (h : Tx g gp L) (hl : L.length < 48) : ∃ g' gp', f_X12_put g c = some g' ∧ f_X3_put gp c = some gp' ∧ Tx g' gp' (L ++ [nb c]) ∧ Df g g' ∧ Pf gp gp' := by
  obtain ⟨h1, h2, h3, h4⟩ := h
  unfold f_X12_put f_X3_put
  rw [h1, h2, grd_t (inB_nI (N := 100) (by omega) (by decide)), if_neg (show ¬ (48 : Int32) ≤ nI L.length from nI_ge (b := 48) hl (by decide)), grd_t (inB_nI (N := 48) hl (by decide)), nI_clamp (by omega), nI_1]
  refine ⟨_, _, rfl, rfl, ⟨?_, ?_, ?_, ?_⟩, ?_, ?_⟩
  · rw [List.length_append]; rfl
  · rw [List.length_append]; rfl
  · rw [List.length_append]; exact hl
  · intro j hj
    rw [List.length_append] at hj
    have hj' : j < L.length + 1 := hj
    show upd (gIA g 98) L.length (nb c) j = _ ∧ upd (gIA gp 1) L.length (nb c) j = _
    by_cases e : j = L.length
    · subst e
      rw [pk_us, pk_us, getD_app_last]
      exact ⟨rfl, rfl⟩
    · rw [pk_un e, pk_un e, getD_app_l (by omega)]
      exact h4 j (by omega)
  · exact ((Fr.sIA (by decide) _ _).trans (Fr.sI (by decide) _ _))
  · exact ((Fr.sIA (by decide) _ _).trans (Fr.sI (by decide) _ _))
theorem nb_digit : ∀ d, d < 10 → nb (nI (48 + d)) = nI (48 + d) := by decide +kernel
/-- the lowest k digits, the highest of them first -/
def dgl (v : Nat) : Nat → List Int32
  | 0 => []
  | k + 1 => nI (48 + v / 10 ^ k % 10) :: dgl v k
theorem dgl_length (v : Nat) : ∀ k, (dgl v k).length = k
  | 0 => rfl
  | k + 1 => by
    show (dgl v k).length + 1 = k + 1
    rw [dgl_length v k]
/-- so many digits has v -/
def ND (v k : Nat) : Prop := 1 ≤ k ∧ k ≤ 19 ∧ v < 10 ^ k ∧ (k = 1 ∨ 10 ^ (k - 1) ≤ v)
theorem nd_ex (v : Nat) : ∀ m, m < 19 → v < 10 ^ (m + 1) → ∃ k, ND v k
  | 0, _, h => ⟨1, Nat.le_refl _, by decide, h, .inl rfl⟩
  | m + 1, hm, h => by
    by_cases h2 : v < 10 ^ (m + 1)
    · exact nd_ex v m (by omega) h2
    · exact ⟨m + 1 + 1, by omega, by omega, h, .inr (Nat.not_lt.mp h2)⟩
theorem nd_long {v : Nat} (h : v < 2 ^ 63) : ∃ k, ND v k := nd_ex v 18 (by decide) (by
  have : 2 ^ 63 < 10 ^ 19 := by decide
  omega)
theorem div_pow_succ (v j : Nat) : v / 10 ^ j / 10 = v / 10 ^ (j + 1) := by
  rw [Nat.div_div_eq_div_mul, Nat.pow_succ]
/-- the reference writes what is turned, from behind; the class divides -/
theorem out_digits {n v : Nat} (hv : v < 2 ^ 63) : ∀ (m f f' : Nat) (g gp : Gs) (L : List Int32), m < f → m < f' → m ≤ 19 → Tx g gp L → L.length + m ≤ 48 → (∀ i, i < m → gIA g 100 i = nI (48 + v / 10 ^ i % 10)) → ∃ g' gp', (L_X12_putWhole n f).2 g (nI m) = some g' ∧ (L_X3_putWhole n f').2 gp (lN v) (lN (if m = 0 then 0 else 10 ^ (m - 1))) = some gp' ∧ Tx g' gp' (L ++ dgl v m) ∧ Df g g' ∧ Pf gp gp'
  | _, 0, _, _, _, _, h, _, _, _, _, _ => absurd h (Nat.not_lt_zero _)
  | _, _, 0, _, _, _, _, h, _, _, _, _ => absurd h (Nat.not_lt_zero _)
  | 0, f + 1, f' + 1, g, gp, L, _, _, _, hT, _, _ => by
    show ∃ g' gp', h_X12_putWhole_45 n (L_X12_putWhole n f) g (nI 0) = some g' ∧ h_X3_putWhole_37 n (L_X3_putWhole n f') gp (lN v) (lN (if 0 = 0 then 0 else 10 ^ (0 - 1))) = some gp' ∧ _
    unfold h_X12_putWhole_45 h_X3_putWhole_37
    refine ⟨g, gp, if_pos (by decide), if_pos (by decide), ?_, Fr.refl _ _, Fr.refl _ _⟩
    show Tx g gp (L ++ [])
    rw [List.append_nil]
    exact hT
  | m + 1, f + 1, f' + 1, g, gp, L, hf, hf', hm, hT, hl, hd => by
    show ∃ g' gp', h_X12_putWhole_45 n (L_X12_putWhole n f) g (nI (m + 1)) = some g' ∧ h_X3_putWhole_37 n (L_X3_putWhole n f') gp (lN v) (lN (if m + 1 = 0 then 0 else 10 ^ (m + 1 - 1))) = some gp' ∧ _
    unfold h_X12_putWhole_45 h_X3_putWhole_37
    have hp : 10 ^ m ≤ 10 ^ 18 := Nat.pow_le_pow_right (by decide) (by omega)
    have hp0 : 0 < 10 ^ m := Nat.pow_pos (by decide)
    have hp63 : 10 ^ m < 2 ^ 63 := Nat.lt_of_le_of_lt hp (by decide)
    have hq : v / 10 ^ m < 2 ^ 63 := Nat.lt_of_le_of_lt (Nat.div_le_self _ _) hv
    have e1 : nI (m + 1) + (-1 : Int32) = nI m := pk_m1 m
    have e2 : gIA g 100 m = nI (48 + v / 10 ^ m % 10) := hd m (by omega)
    have e3 : lN v / lN (10 ^ m) = lN (v / 10 ^ m) := pk_lDiv hv hp0 hp63
    have e4 : lN (v / 10 ^ m) - lN (v / 10 ^ m) / (10 : Int64) * (10 : Int64) = lN (v / 10 ^ m % 10) := pk_lRem (b := 10) hq (by decide) (by decide)
    have e5 : (48 : Int32) + nI (v / 10 ^ m % 10) = nI (48 + v / 10 ^ m % 10) := nI_add 48 _
    have e6 : lN (10 ^ m) / (10 : Int64) = lN (10 ^ m / 10) := pk_lDiv (b := 10) hp63 (by decide) (by decide)
    have c1 : ¬ lN (10 ^ m) ≤ (0 : Int64) := fun z => by
      have := (pk_lLE (b := 0) hp63 (by decide)).mp z
      omega
    have c2 : nzL (lN (10 ^ m)) = true := decide_eq_true (lN_ne0 (by omega) (by omega))
    have hdig : v / 10 ^ m % 10 < 10 := Nat.mod_lt _ (by decide)
    obtain ⟨g1, gp1, p1, p2, p3, p4, p5⟩ := put_both (nI (48 + v / 10 ^ m % 10)) hT (by omega)
    rw [nb_digit _ hdig] at p3
    rw [if_neg (nI_nle (by omega) (by omega)), e1, grd_t (inB_nI (N := 30) (by omega) (by decide)), nI_clamp (by omega), e2, bnd_s p1]
    rw [if_neg (show ¬ m + 1 = 0 by omega), show m + 1 - 1 = m from rfl, if_neg c1, grd_t c2, e3, e4, lN_i, e5, bnd_s p2, e6]
    have hu : 10 ^ m / 10 = if m = 0 then 0 else 10 ^ (m - 1) := by
      cases m with
      | zero => decide
      | succ m =>
        rw [if_neg (by omega), Nat.pow_succ, Nat.mul_div_cancel _ (by decide)]; rfl
    rw [hu]
    have hd' : ∀ i, i < m → gIA g1 100 i = nI (48 + v / 10 ^ i % 10) := by
      intro i hi
      have : gIA g1 100 = gIA g 100 := by
        have hp1 := p1
        unfold f_X12_put at hp1
        obtain ⟨-, hp2⟩ := grd_some hp1
        have := Option.some.inj hp2
        rw [← this]; rfl
      rw [this]
      exact hd i (by omega)
    obtain ⟨g2, gp2, q1, q2, q3, q4, q5⟩ := out_digits hv m f f' g1 gp1 (L ++ [nI (48 + v / 10 ^ m % 10)]) (by omega) (by omega) (by omega) p3 (by rw [List.length_append]; show L.length + 1 + m ≤ 48; omega) hd'
    refine ⟨g2, gp2, q1, q2, ?_, p4.trans q4, p5.trans q5⟩
    rw [List.append_assoc] at q3
    exact q3
theorem turn_digits {n v k : Nat} (hv : v < 2 ^ 63) (hk : ND v k) : ∀ (d f f' : Nat) (g gp : Gs) (L : List Int32) (j : Nat), j + d = k → d + k + 1 < f → k < f' → Tx g gp L → L.length + k ≤ 48 → (∀ i, i < j → gIA g 100 i = nI (48 + v / 10 ^ i % 10)) → ∃ g' gp', (L_X12_putWhole n f).1 g (lN (v / 10 ^ j)) (nI j) = some g' ∧ (L_X3_putWhole n f').2 gp (lN v) (lN (10 ^ (k - 1))) = some gp' ∧ Tx g' gp' (L ++ dgl v k) ∧ Df g g' ∧ Pf gp gp'
  | _, 0, _, _, _, _, _, _, h, _, _, _, _ => absurd h (Nat.not_lt_zero _)
  | d, f + 1, f', g, gp, L, j, hj, hf, hf', hT, hl, hd => by
    show ∃ g' gp', h_X12_putWhole_5 n (L_X12_putWhole n f) g (lN (v / 10 ^ j)) (nI j) = some g' ∧ _
    obtain ⟨k1, k2, k3, k4⟩ := hk
    have hq : v / 10 ^ j < 2 ^ 63 := Nat.lt_of_le_of_lt (Nat.div_le_self _ _) hv
    unfold h_X12_putWhole_5
    cases d with
    | zero =>
      have e : j = k := by omega
      subst e
      have c1 : ¬ nI j = 0 := nI_ne0 (by omega) (by omega)
      rw [if_neg c1, Nat.div_eq_of_lt k3, if_pos (show lN 0 ≤ (0 : Int64) by decide)]
      have := out_digits (n := n) hv j f f' g gp L (by omega) (by omega) k2 hT hl hd
      rw [if_neg (show ¬ j = 0 by omega)] at this
      exact this
    | succ d =>
      have c2 : j = 0 ∨ 10 ^ j ≤ v := by
        rcases k4 with h | h
        · exact .inl (by omega)
        · right
          exact Nat.le_trans (Nat.pow_le_pow_right (by decide) (by omega)) h
      have e4 : lN (v / 10 ^ j) - lN (v / 10 ^ j) / (10 : Int64) * (10 : Int64) = lN (v / 10 ^ j % 10) := pk_lRem (b := 10) hq (by decide) (by decide)
      have e5 : (48 : Int32) + nI (v / 10 ^ j % 10) = nI (48 + v / 10 ^ j % 10) := nI_add 48 _
      have e6 : lN (v / 10 ^ j) / (10 : Int64) = lN (v / 10 ^ (j + 1)) := by
        rw [← div_pow_succ]
        exact pk_lDiv (b := 10) hq (by decide) (by decide)
      have hdig : v / 10 ^ j % 10 < 10 := Nat.mod_lt _ (by decide)
      have step : b_X12_putWhole_16 n (L_X12_putWhole n f) g (lN (v / 10 ^ j)) (nI j) = (L_X12_putWhole n f).1 (sIA g 100 (upd (gIA g 100) j (nI (48 + v / 10 ^ j % 10)))) (lN (v / 10 ^ (j + 1))) (nI (j + 1)) := by
        unfold b_X12_putWhole_16
        rw [grd_t (inB_nI (N := 30) (by omega) (by decide)), nI_clamp (by omega), e4, lN_i, e5, e6, nI_1]
        have := nb_digit _ hdig
        unfold nb at this
        rw [this]
      have hst : (if nI j = 0 then (b_X12_putWhole_16 n (L_X12_putWhole n f) g (lN (v / 10 ^ j)) (nI j)) else (if lN (v / 10 ^ j) ≤ (0 : Int64) then ((L_X12_putWhole n f).2 g (nI j)) else (b_X12_putWhole_16 n (L_X12_putWhole n f) g (lN (v / 10 ^ j)) (nI j)))) = b_X12_putWhole_16 n (L_X12_putWhole n f) g (lN (v / 10 ^ j)) (nI j) := by
        by_cases h0 : nI j = 0
        · rw [if_pos h0]
        · rw [if_neg h0, if_neg]
          intro z
          have hz := (pk_lLE (b := 0) hq (by decide)).mp z
          rcases c2 with h | h
          · exact h0 (by rw [h]; rfl)
          · have := Nat.div_pos h (Nat.pow_pos (by decide))
            omega
      rw [hst, step]
      have fr : Fr [0, 1, 2, 100] g (sIA g 100 (upd (gIA g 100) j (nI (48 + v / 10 ^ j % 10)))) := Fr.sIA (by decide) _ _
      obtain ⟨g2, gp2, q1, q2, q3, q4, q5⟩ := turn_digits (n := n) hv ⟨k1, k2, k3, k4⟩ d f f' _ gp L (j + 1) (by omega) (by omega) hf' (hT.df fr) hl (by
        intro i hi
        show upd (gIA g 100) j (nI (48 + v / 10 ^ j % 10)) i = _
        by_cases e : i = j
        · subst e; rw [pk_us]
        · rw [pk_un e]; exact hd i (by omega))
      exact ⟨g2, gp2, q1, q2, q3, (fr.mono (by decide)).trans q4, q5⟩
theorem unit_up {n v k : Nat} (hv : v < 2 ^ 63) (hk : ND v k) : ∀ (d f j : Nat) (gp : Gs), j + d + 1 = k → d < f → (L_X3_putWhole n (f + 1)).1 gp (lN v) (lN (10 ^ j)) (nI j) = (L_X3_putWhole n (f - d)).2 gp (lN v) (lN (10 ^ (k - 1)))
  | _, 0, _, _, _, h => absurd h (Nat.not_lt_zero _)
  | d, f + 1, j, gp, hj, hf => by
    obtain ⟨k1, k2, k3, k4⟩ := hk
    show h_X3_putWhole_5 n (L_X3_putWhole n (f + 1)) gp (lN v) (lN (10 ^ j)) (nI j) = _
    unfold h_X3_putWhole_5 b_X3_putWhole_34
    have hp : 10 ^ j ≤ 10 ^ 18 := Nat.pow_le_pow_right (by decide) (by omega)
    have hp63 : 10 ^ j < 2 ^ 63 := Nat.lt_of_le_of_lt hp (by decide)
    have e6 : lN v / (10 : Int64) = lN (v / 10) := pk_lDiv (b := 10) hv (by decide) (by decide)
    have hv10 : v / 10 < 2 ^ 63 := Nat.lt_of_le_of_lt (Nat.div_le_self _ _) hv
    rw [e6]
    cases d with
    | zero =>
      have e : k - 1 = j := by omega
      rw [e]
      by_cases h18 : (18 : Int32) ≤ nI j
      · rw [if_pos h18]; rfl
      · rw [if_neg h18, if_pos]
        · rfl
        · refine (pk_lLT hv10 hp63).mpr ?_
          rw [show k = j + 1 by omega, Nat.pow_succ] at k3
          omega
    | succ d =>
      have hle : 10 ^ (j + 1) ≤ v := by
        rcases k4 with h | h
        · omega
        · exact Nat.le_trans (Nat.pow_le_pow_right (by decide) (by omega)) h
      rw [Nat.pow_succ] at hle
      have e7 : lN (10 ^ j) * (10 : Int64) = lN (10 ^ (j + 1)) := by
        rw [Nat.pow_succ]
        exact lN_mul (10 ^ j) 10
      rw [if_neg (show ¬ (18 : Int32) ≤ nI j from nI_ge (b := 18) (by omega) (by decide)), if_neg (fun z => by have := (pk_lLT hv10 hp63).mp z; omega), e7, nI_1]
      have := unit_up (n := n) hv ⟨k1, k2, k3, k4⟩ d f (j + 1) gp (by omega) (by omega)
      rw [show f + 1 - (d + 1) = f - d by omega]
      exact this
theorem putWhole_both {n v : Nat} {g gp : Gs} {L : List Int32} (hn : 200 ≤ n) (hv : v < 2 ^ 63) (hT : Tx g gp L) (hl : L.length + 19 ≤ 48) : ∃ g' gp' k, f_X12_putWhole n g (lN v) = some g' ∧ f_X3_putWhole n gp (lN v) = some gp' ∧ k ≤ 19 ∧ Tx g' gp' (L ++ dgl v k) ∧ Df g g' ∧ Pf gp gp' := by
  obtain ⟨k, hk⟩ := nd_long hv
  have hk' := hk
  obtain ⟨k1, k2, k3, k4⟩ := hk'
  obtain ⟨f, rfl⟩ : ∃ f, n = f + 1 := ⟨n - 1, by omega⟩
  have hu := unit_up (n := f + 1) hv hk (k - 1) f 0 gp (by omega) (by omega)
  obtain ⟨g1, gp1, a1, a2, a3, a4, a5⟩ := turn_digits (n := f + 1) hv hk k (f + 1) (f - (k - 1)) g gp L 0 (by omega) (by omega) (by omega) hT (by omega) (fun i hi => absurd hi (Nat.not_lt_zero _))
  refine ⟨g1, gp1, k, ?_, ?_, k2, a3, a4, a5⟩
  · rw [Nat.pow_zero, Nat.div_one] at a1
    exact a1
  · rw [Nat.pow_zero] at hu
    exact hu.trans a2
