/-! keeping: the loops of the reference -/
theorem go0_t {n p : Nat} (hp : p < 4) : ∀ (d k i : Nat) (g : Gs), i + d = 40 → d < k → ∃ g' k', k ≤ k' + d + 1 ∧ (L_X12_goes n k).1 g (nI p) 1 (nI i) = (L_X12_goes n k').2.1 g' (nI p) 1 0 ∧ Fr [104, 105] g g' ∧ (∀ j, gLA g' 104 j = if 40 * p + i ≤ j ∧ j < 40 * p + 40 then gLA g 80 (j - 40 * p) else gLA g 104 j) ∧ (∀ j, gLA g' 105 j = if 40 * p + i ≤ j ∧ j < 40 * p + 40 then gLA g 81 (j - 40 * p) else gLA g 105 j) := by
  intro d
  induction d with
  | zero =>
    intro k i g hi hk
    obtain ⟨k, rfl⟩ : ∃ q, k = q + 1 := ⟨k - 1, by omega⟩
    refine ⟨g, k, by omega, ?_, Fr.refl _ _, fun j => (if_neg (by omega)).symm, fun j => (if_neg (by omega)).symm⟩
    show h_X12_goes_2 n (L_X12_goes n k) g (nI p) 1 (nI i) = _
    unfold h_X12_goes_2
    rw [show (40 : Int32) = nI 40 from rfl, if_pos (nI_le (by omega) (by omega))]
  | succ d ih =>
    intro k i g hi hk
    obtain ⟨k, rfl⟩ : ∃ q, k = q + 1 := ⟨k - 1, by omega⟩
    obtain ⟨g', k', a1, a2, a3, c0, c1⟩ := ih k (i + 1) (sLA (sLA (g) 104 (vp_updL (gLA g 104) (40 * p + i) (gLA g 80 i))) 105 (vp_updL (gLA g 105) (40 * p + i) (gLA g 81 i))) (by omega) (by omega)
    refine ⟨g', k', by omega, ?_, ((Fr.sLA (by decide) _ _).trans (Fr.sLA (by decide) _ _)).trans a3, ?_, ?_⟩
    · rw [← a2]
      show h_X12_goes_2 n (L_X12_goes n k) g (nI p) 1 (nI i) = _
      unfold h_X12_goes_2 b_X12_goes_75
      have e1 : (40 : Int32) * nI p + nI i = nI (40 * p + i) := by rw [show (40 : Int32) = nI 40 from rfl, pk_mul, nI_add]
      have b1 : inB (nI (40 * p + i)) 160 = true := inB_nI (by omega) (by decide)
      have b2 : inB (nI i) 40 = true := inB_nI (by omega) (by decide)
      have c1 : (nI (40 * p + i)).toNatClampNeg = 40 * p + i := nI_clamp (by omega)
      have c2 : (nI i).toNatClampNeg = i := nI_clamp (by omega)
      rw [if_neg (show ¬ (40 : Int32) ≤ nI i from nI_ge (b := 40) (by omega) (by decide)), if_neg (show ¬ (1 : Int32) = 0 by decide)]
      simp only [e1, grd_t b1, grd_t b2, c1, c2, nI_1]
    · intro j
      rw [c0 j]
      show (if 40 * p + (i + 1) ≤ j ∧ j < 40 * p + 40 then gLA g 80 (j - 40 * p) else vp_updL (gLA g 104) (40 * p + i) (gLA g 80 i) j) = _
      by_cases hq : j = 40 * p + i
      · rw [if_neg (by omega), hq, pk_uLs, if_pos (by omega), show 40 * p + i - 40 * p = i by omega]
      · rw [pk_uLn hq]
        by_cases h : 40 * p + i ≤ j ∧ j < 40 * p + 40
        · rw [if_pos (by omega), if_pos h]
        · rw [if_neg (by omega), if_neg h]
    · intro j
      rw [c1 j]
      show (if 40 * p + (i + 1) ≤ j ∧ j < 40 * p + 40 then gLA g 81 (j - 40 * p) else vp_updL (gLA g 105) (40 * p + i) (gLA g 81 i) j) = _
      by_cases hq : j = 40 * p + i
      · rw [if_neg (by omega), hq, pk_uLs, if_pos (by omega), show 40 * p + i - 40 * p = i by omega]
      · rw [pk_uLn hq]
        by_cases h : 40 * p + i ≤ j ∧ j < 40 * p + 40
        · rw [if_pos (by omega), if_pos h]
        · rw [if_neg (by omega), if_neg h]
theorem go0_b {n p : Nat} (hp : p < 4) : ∀ (d k i : Nat) (g : Gs), i + d = 40 → d < k → ∃ g' k', k ≤ k' + d + 1 ∧ (L_X12_goes n k).1 g (nI p) 0 (nI i) = (L_X12_goes n k').2.1 g' (nI p) 0 0 ∧ Fr [80, 81] g g' ∧ (∀ j, gLA g' 80 j = if i ≤ j ∧ j < 40 then gLA g 104 (40 * p + j) else gLA g 80 j) ∧ (∀ j, gLA g' 81 j = if i ≤ j ∧ j < 40 then gLA g 105 (40 * p + j) else gLA g 81 j) := by
  intro d
  induction d with
  | zero =>
    intro k i g hi hk
    obtain ⟨k, rfl⟩ : ∃ q, k = q + 1 := ⟨k - 1, by omega⟩
    refine ⟨g, k, by omega, ?_, Fr.refl _ _, fun j => (if_neg (by omega)).symm, fun j => (if_neg (by omega)).symm⟩
    show h_X12_goes_2 n (L_X12_goes n k) g (nI p) 0 (nI i) = _
    unfold h_X12_goes_2
    rw [show (40 : Int32) = nI 40 from rfl, if_pos (nI_le (by omega) (by omega))]
  | succ d ih =>
    intro k i g hi hk
    obtain ⟨k, rfl⟩ : ∃ q, k = q + 1 := ⟨k - 1, by omega⟩
    obtain ⟨g', k', a1, a2, a3, c0, c1⟩ := ih k (i + 1) (sLA (sLA (g) 80 (vp_updL (gLA g 80) i (gLA g 104 (40 * p + i)))) 81 (vp_updL (gLA g 81) i (gLA g 105 (40 * p + i)))) (by omega) (by omega)
    refine ⟨g', k', by omega, ?_, ((Fr.sLA (by decide) _ _).trans (Fr.sLA (by decide) _ _)).trans a3, ?_, ?_⟩
    · rw [← a2]
      show h_X12_goes_2 n (L_X12_goes n k) g (nI p) 0 (nI i) = _
      unfold h_X12_goes_2 b_X12_goes_75
      have e1 : (40 : Int32) * nI p + nI i = nI (40 * p + i) := by rw [show (40 : Int32) = nI 40 from rfl, pk_mul, nI_add]
      have b1 : inB (nI (40 * p + i)) 160 = true := inB_nI (by omega) (by decide)
      have b2 : inB (nI i) 40 = true := inB_nI (by omega) (by decide)
      have c1 : (nI (40 * p + i)).toNatClampNeg = 40 * p + i := nI_clamp (by omega)
      have c2 : (nI i).toNatClampNeg = i := nI_clamp (by omega)
      rw [if_neg (show ¬ (40 : Int32) ≤ nI i from nI_ge (b := 40) (by omega) (by decide)), if_pos (show (0 : Int32) = 0 from rfl)]
      simp only [e1, grd_t b1, grd_t b2, c1, c2, nI_1]
    · intro j
      rw [c0 j]
      show (if i + 1 ≤ j ∧ j < 40 then gLA g 104 (40 * p + j) else vp_updL (gLA g 80) i (gLA g 104 (40 * p + i)) j) = _
      by_cases hq : j = i
      · rw [if_neg (by omega), hq, pk_uLs, if_pos (by omega)]
      · rw [pk_uLn hq]
        by_cases h : i ≤ j ∧ j < 40
        · rw [if_pos (by omega), if_pos h]
        · rw [if_neg (by omega), if_neg h]
    · intro j
      rw [c1 j]
      show (if i + 1 ≤ j ∧ j < 40 then gLA g 105 (40 * p + j) else vp_updL (gLA g 81) i (gLA g 105 (40 * p + i)) j) = _
      by_cases hq : j = i
      · rw [if_neg (by omega), hq, pk_uLs, if_pos (by omega)]
      · rw [pk_uLn hq]
        by_cases h : i ≤ j ∧ j < 40
        · rw [if_pos (by omega), if_pos h]
        · rw [if_neg (by omega), if_neg h]
theorem go1_t {n p : Nat} (hp : p < 4) : ∀ (d k i : Nat) (g : Gs), i + d = 1280 → d < k → ∃ g' k', k ≤ k' + d + 1 ∧ (L_X12_goes n k).2.1 g (nI p) 1 (nI i) = (L_X12_goes n k').2.2.1 g' (nI p) 1 0 ∧ Fr [106] g g' ∧ (∀ j, gLA g' 106 j = if 1280 * p + i ≤ j ∧ j < 1280 * p + 1280 then gLA g 82 (j - 1280 * p) else gLA g 106 j) := by
  intro d
  induction d with
  | zero =>
    intro k i g hi hk
    obtain ⟨k, rfl⟩ : ∃ q, k = q + 1 := ⟨k - 1, by omega⟩
    refine ⟨g, k, by omega, ?_, Fr.refl _ _, fun j => (if_neg (by omega)).symm⟩
    show h_X12_goes_83 n (L_X12_goes n k) g (nI p) 1 (nI i) = _
    unfold h_X12_goes_83
    rw [show (1280 : Int32) = nI 1280 from rfl, if_pos (nI_le (by omega) (by omega))]
  | succ d ih =>
    intro k i g hi hk
    obtain ⟨k, rfl⟩ : ∃ q, k = q + 1 := ⟨k - 1, by omega⟩
    obtain ⟨g', k', a1, a2, a3, c0⟩ := ih k (i + 1) (sLA (g) 106 (vp_updL (gLA g 106) (1280 * p + i) (gLA g 82 i))) (by omega) (by omega)
    refine ⟨g', k', by omega, ?_, (Fr.sLA (by decide) _ _).trans a3, ?_⟩
    · rw [← a2]
      show h_X12_goes_83 n (L_X12_goes n k) g (nI p) 1 (nI i) = _
      unfold h_X12_goes_83 b_X12_goes_133
      have e1 : (1280 : Int32) * nI p + nI i = nI (1280 * p + i) := by rw [show (1280 : Int32) = nI 1280 from rfl, pk_mul, nI_add]
      have b1 : inB (nI (1280 * p + i)) 5120 = true := inB_nI (by omega) (by decide)
      have b2 : inB (nI i) 1280 = true := inB_nI (by omega) (by decide)
      have c1 : (nI (1280 * p + i)).toNatClampNeg = 1280 * p + i := nI_clamp (by omega)
      have c2 : (nI i).toNatClampNeg = i := nI_clamp (by omega)
      rw [if_neg (show ¬ (1280 : Int32) ≤ nI i from nI_ge (b := 1280) (by omega) (by decide)), if_neg (show ¬ (1 : Int32) = 0 by decide)]
      simp only [e1, grd_t b1, grd_t b2, c1, c2, nI_1]
    · intro j
      rw [c0 j]
      show (if 1280 * p + (i + 1) ≤ j ∧ j < 1280 * p + 1280 then gLA g 82 (j - 1280 * p) else vp_updL (gLA g 106) (1280 * p + i) (gLA g 82 i) j) = _
      by_cases hq : j = 1280 * p + i
      · rw [if_neg (by omega), hq, pk_uLs, if_pos (by omega), show 1280 * p + i - 1280 * p = i by omega]
      · rw [pk_uLn hq]
        by_cases h : 1280 * p + i ≤ j ∧ j < 1280 * p + 1280
        · rw [if_pos (by omega), if_pos h]
        · rw [if_neg (by omega), if_neg h]
theorem go1_b {n p : Nat} (hp : p < 4) : ∀ (d k i : Nat) (g : Gs), i + d = 1280 → d < k → ∃ g' k', k ≤ k' + d + 1 ∧ (L_X12_goes n k).2.1 g (nI p) 0 (nI i) = (L_X12_goes n k').2.2.1 g' (nI p) 0 0 ∧ Fr [82] g g' ∧ (∀ j, gLA g' 82 j = if i ≤ j ∧ j < 1280 then gLA g 106 (1280 * p + j) else gLA g 82 j) := by
  intro d
  induction d with
  | zero =>
    intro k i g hi hk
    obtain ⟨k, rfl⟩ : ∃ q, k = q + 1 := ⟨k - 1, by omega⟩
    refine ⟨g, k, by omega, ?_, Fr.refl _ _, fun j => (if_neg (by omega)).symm⟩
    show h_X12_goes_83 n (L_X12_goes n k) g (nI p) 0 (nI i) = _
    unfold h_X12_goes_83
    rw [show (1280 : Int32) = nI 1280 from rfl, if_pos (nI_le (by omega) (by omega))]
  | succ d ih =>
    intro k i g hi hk
    obtain ⟨k, rfl⟩ : ∃ q, k = q + 1 := ⟨k - 1, by omega⟩
    obtain ⟨g', k', a1, a2, a3, c0⟩ := ih k (i + 1) (sLA (g) 82 (vp_updL (gLA g 82) i (gLA g 106 (1280 * p + i)))) (by omega) (by omega)
    refine ⟨g', k', by omega, ?_, (Fr.sLA (by decide) _ _).trans a3, ?_⟩
    · rw [← a2]
      show h_X12_goes_83 n (L_X12_goes n k) g (nI p) 0 (nI i) = _
      unfold h_X12_goes_83 b_X12_goes_133
      have e1 : (1280 : Int32) * nI p + nI i = nI (1280 * p + i) := by rw [show (1280 : Int32) = nI 1280 from rfl, pk_mul, nI_add]
      have b1 : inB (nI (1280 * p + i)) 5120 = true := inB_nI (by omega) (by decide)
      have b2 : inB (nI i) 1280 = true := inB_nI (by omega) (by decide)
      have c1 : (nI (1280 * p + i)).toNatClampNeg = 1280 * p + i := nI_clamp (by omega)
      have c2 : (nI i).toNatClampNeg = i := nI_clamp (by omega)
      rw [if_neg (show ¬ (1280 : Int32) ≤ nI i from nI_ge (b := 1280) (by omega) (by decide)), if_pos (show (0 : Int32) = 0 from rfl)]
      simp only [e1, grd_t b1, grd_t b2, c1, c2, nI_1]
    · intro j
      rw [c0 j]
      show (if i + 1 ≤ j ∧ j < 1280 then gLA g 106 (1280 * p + j) else vp_updL (gLA g 82) i (gLA g 106 (1280 * p + i)) j) = _
      by_cases hq : j = i
      · rw [if_neg (by omega), hq, pk_uLs, if_pos (by omega)]
      · rw [pk_uLn hq]
        by_cases h : i ≤ j ∧ j < 1280
        · rw [if_pos (by omega), if_pos h]
        · rw [if_neg (by omega), if_neg h]
theorem go3_t {n p : Nat} (hp : p < 4) : ∀ (d k i : Nat) (g : Gs), i + d = 12 → d < k → ∃ g' k', k ≤ k' + d + 1 ∧ (L_X12_goes n k).2.2.2.1 g (nI p) 1 (nI i) = (L_X12_goes n k').2.2.2.2 g' (nI p) 1 0 ∧ Fr [108] g g' ∧ (∀ j, gIA g' 108 j = if 12 * p + i ≤ j ∧ j < 12 * p + 12 then gIA g 86 (j - 12 * p) else gIA g 108 j) := by
  intro d
  induction d with
  | zero =>
    intro k i g hi hk
    obtain ⟨k, rfl⟩ : ∃ q, k = q + 1 := ⟨k - 1, by omega⟩
    refine ⟨g, k, by omega, ?_, Fr.refl _ _, fun j => (if_neg (by omega)).symm⟩
    show h_X12_goes_259 n (L_X12_goes n k) g (nI p) 1 (nI i) = _
    unfold h_X12_goes_259
    rw [show (12 : Int32) = nI 12 from rfl, if_pos (nI_le (by omega) (by omega))]
  | succ d ih =>
    intro k i g hi hk
    obtain ⟨k, rfl⟩ : ∃ q, k = q + 1 := ⟨k - 1, by omega⟩
    obtain ⟨g', k', a1, a2, a3, c0⟩ := ih k (i + 1) (sIA (g) 108 (upd (gIA g 108) (12 * p + i) (gIA g 86 i))) (by omega) (by omega)
    refine ⟨g', k', by omega, ?_, (Fr.sIA (by decide) _ _).trans a3, ?_⟩
    · rw [← a2]
      show h_X12_goes_259 n (L_X12_goes n k) g (nI p) 1 (nI i) = _
      unfold h_X12_goes_259 b_X12_goes_306
      have e1 : (12 : Int32) * nI p + nI i = nI (12 * p + i) := by rw [show (12 : Int32) = nI 12 from rfl, pk_mul, nI_add]
      have b1 : inB (nI (12 * p + i)) 48 = true := inB_nI (by omega) (by decide)
      have b2 : inB (nI i) 12 = true := inB_nI (by omega) (by decide)
      have c1 : (nI (12 * p + i)).toNatClampNeg = 12 * p + i := nI_clamp (by omega)
      have c2 : (nI i).toNatClampNeg = i := nI_clamp (by omega)
      rw [if_neg (show ¬ (12 : Int32) ≤ nI i from nI_ge (b := 12) (by omega) (by decide)), if_neg (show ¬ (1 : Int32) = 0 by decide)]
      simp only [e1, grd_t b1, grd_t b2, c1, c2, nI_1]
    · intro j
      rw [c0 j]
      show (if 12 * p + (i + 1) ≤ j ∧ j < 12 * p + 12 then gIA g 86 (j - 12 * p) else upd (gIA g 108) (12 * p + i) (gIA g 86 i) j) = _
      by_cases hq : j = 12 * p + i
      · rw [if_neg (by omega), hq, pk_us, if_pos (by omega), show 12 * p + i - 12 * p = i by omega]
      · rw [pk_un hq]
        by_cases h : 12 * p + i ≤ j ∧ j < 12 * p + 12
        · rw [if_pos (by omega), if_pos h]
        · rw [if_neg (by omega), if_neg h]
theorem go3_b {n p : Nat} (hp : p < 4) : ∀ (d k i : Nat) (g : Gs), i + d = 12 → d < k → ∃ g' k', k ≤ k' + d + 1 ∧ (L_X12_goes n k).2.2.2.1 g (nI p) 0 (nI i) = (L_X12_goes n k').2.2.2.2 g' (nI p) 0 0 ∧ Fr [86] g g' ∧ (∀ j, gIA g' 86 j = if i ≤ j ∧ j < 12 then gIA g 108 (12 * p + j) else gIA g 86 j) := by
  intro d
  induction d with
  | zero =>
    intro k i g hi hk
    obtain ⟨k, rfl⟩ : ∃ q, k = q + 1 := ⟨k - 1, by omega⟩
    refine ⟨g, k, by omega, ?_, Fr.refl _ _, fun j => (if_neg (by omega)).symm⟩
    show h_X12_goes_259 n (L_X12_goes n k) g (nI p) 0 (nI i) = _
    unfold h_X12_goes_259
    rw [show (12 : Int32) = nI 12 from rfl, if_pos (nI_le (by omega) (by omega))]
  | succ d ih =>
    intro k i g hi hk
    obtain ⟨k, rfl⟩ : ∃ q, k = q + 1 := ⟨k - 1, by omega⟩
    obtain ⟨g', k', a1, a2, a3, c0⟩ := ih k (i + 1) (sIA (g) 86 (upd (gIA g 86) i (gIA g 108 (12 * p + i)))) (by omega) (by omega)
    refine ⟨g', k', by omega, ?_, (Fr.sIA (by decide) _ _).trans a3, ?_⟩
    · rw [← a2]
      show h_X12_goes_259 n (L_X12_goes n k) g (nI p) 0 (nI i) = _
      unfold h_X12_goes_259 b_X12_goes_306
      have e1 : (12 : Int32) * nI p + nI i = nI (12 * p + i) := by rw [show (12 : Int32) = nI 12 from rfl, pk_mul, nI_add]
      have b1 : inB (nI (12 * p + i)) 48 = true := inB_nI (by omega) (by decide)
      have b2 : inB (nI i) 12 = true := inB_nI (by omega) (by decide)
      have c1 : (nI (12 * p + i)).toNatClampNeg = 12 * p + i := nI_clamp (by omega)
      have c2 : (nI i).toNatClampNeg = i := nI_clamp (by omega)
      rw [if_neg (show ¬ (12 : Int32) ≤ nI i from nI_ge (b := 12) (by omega) (by decide)), if_pos (show (0 : Int32) = 0 from rfl)]
      simp only [e1, grd_t b1, grd_t b2, c1, c2, nI_1]
    · intro j
      rw [c0 j]
      show (if i + 1 ≤ j ∧ j < 12 then gIA g 108 (12 * p + j) else upd (gIA g 86) i (gIA g 108 (12 * p + i)) j) = _
      by_cases hq : j = i
      · rw [if_neg (by omega), hq, pk_us, if_pos (by omega)]
      · rw [pk_un hq]
        by_cases h : i ≤ j ∧ j < 12
        · rw [if_pos (by omega), if_pos h]
        · rw [if_neg (by omega), if_neg h]
theorem go4_t {n p : Nat} (hp : p < 4) : ∀ (d k i : Nat) (g : Gs), i + d = 64 → d < k → ∃ g' k', k ≤ k' + d + 1 ∧ (L_X12_goes n k).2.2.2.2 g (nI p) 1 (nI i) = some (1, g') ∧ Fr [111, 112] g g' ∧ (∀ j, gLA g' 111 j = if 64 * p + i ≤ j ∧ j < 64 * p + 64 then gLA g 89 (j - 64 * p) else gLA g 111 j) ∧ (∀ j, gIA g' 112 j = if 64 * p + i ≤ j ∧ j < 64 * p + 64 then gIA g 90 (j - 64 * p) else gIA g 112 j) := by
  intro d
  induction d with
  | zero =>
    intro k i g hi hk
    obtain ⟨k, rfl⟩ : ∃ q, k = q + 1 := ⟨k - 1, by omega⟩
    refine ⟨g, k, by omega, ?_, Fr.refl _ _, fun j => (if_neg (by omega)).symm, fun j => (if_neg (by omega)).symm⟩
    show h_X12_goes_314 n (L_X12_goes n k) g (nI p) 1 (nI i) = _
    unfold h_X12_goes_314
    rw [show (64 : Int32) = nI 64 from rfl, if_pos (nI_le (by omega) (by omega))]
  | succ d ih =>
    intro k i g hi hk
    obtain ⟨k, rfl⟩ : ∃ q, k = q + 1 := ⟨k - 1, by omega⟩
    obtain ⟨g', k', a1, a2, a3, c0, c1⟩ := ih k (i + 1) (sIA (sLA (g) 111 (vp_updL (gLA g 111) (64 * p + i) (gLA g 89 i))) 112 (upd (gIA g 112) (64 * p + i) (gIA g 90 i))) (by omega) (by omega)
    refine ⟨g', k', by omega, ?_, ((Fr.sLA (by decide) _ _).trans (Fr.sIA (by decide) _ _)).trans a3, ?_, ?_⟩
    · rw [← a2]
      show h_X12_goes_314 n (L_X12_goes n k) g (nI p) 1 (nI i) = _
      unfold h_X12_goes_314 b_X12_goes_387
      have e1 : (64 : Int32) * nI p + nI i = nI (64 * p + i) := by rw [show (64 : Int32) = nI 64 from rfl, pk_mul, nI_add]
      have b1 : inB (nI (64 * p + i)) 256 = true := inB_nI (by omega) (by decide)
      have b2 : inB (nI i) 64 = true := inB_nI (by omega) (by decide)
      have c1 : (nI (64 * p + i)).toNatClampNeg = 64 * p + i := nI_clamp (by omega)
      have c2 : (nI i).toNatClampNeg = i := nI_clamp (by omega)
      rw [if_neg (show ¬ (64 : Int32) ≤ nI i from nI_ge (b := 64) (by omega) (by decide)), if_neg (show ¬ (1 : Int32) = 0 by decide)]
      simp only [e1, grd_t b1, grd_t b2, c1, c2, nI_1]
    · intro j
      rw [c0 j]
      show (if 64 * p + (i + 1) ≤ j ∧ j < 64 * p + 64 then gLA g 89 (j - 64 * p) else vp_updL (gLA g 111) (64 * p + i) (gLA g 89 i) j) = _
      by_cases hq : j = 64 * p + i
      · rw [if_neg (by omega), hq, pk_uLs, if_pos (by omega), show 64 * p + i - 64 * p = i by omega]
      · rw [pk_uLn hq]
        by_cases h : 64 * p + i ≤ j ∧ j < 64 * p + 64
        · rw [if_pos (by omega), if_pos h]
        · rw [if_neg (by omega), if_neg h]
    · intro j
      rw [c1 j]
      show (if 64 * p + (i + 1) ≤ j ∧ j < 64 * p + 64 then gIA g 90 (j - 64 * p) else upd (gIA g 112) (64 * p + i) (gIA g 90 i) j) = _
      by_cases hq : j = 64 * p + i
      · rw [if_neg (by omega), hq, pk_us, if_pos (by omega), show 64 * p + i - 64 * p = i by omega]
      · rw [pk_un hq]
        by_cases h : 64 * p + i ≤ j ∧ j < 64 * p + 64
        · rw [if_pos (by omega), if_pos h]
        · rw [if_neg (by omega), if_neg h]
theorem go4_b {n p : Nat} (hp : p < 4) : ∀ (d k i : Nat) (g : Gs), i + d = 64 → d < k → ∃ g' k', k ≤ k' + d + 1 ∧ (L_X12_goes n k).2.2.2.2 g (nI p) 0 (nI i) = some (1, g') ∧ Fr [89, 90] g g' ∧ (∀ j, gLA g' 89 j = if i ≤ j ∧ j < 64 then gLA g 111 (64 * p + j) else gLA g 89 j) ∧ (∀ j, gIA g' 90 j = if i ≤ j ∧ j < 64 then gIA g 112 (64 * p + j) else gIA g 90 j) := by
  intro d
  induction d with
  | zero =>
    intro k i g hi hk
    obtain ⟨k, rfl⟩ : ∃ q, k = q + 1 := ⟨k - 1, by omega⟩
    refine ⟨g, k, by omega, ?_, Fr.refl _ _, fun j => (if_neg (by omega)).symm, fun j => (if_neg (by omega)).symm⟩
    show h_X12_goes_314 n (L_X12_goes n k) g (nI p) 0 (nI i) = _
    unfold h_X12_goes_314
    rw [show (64 : Int32) = nI 64 from rfl, if_pos (nI_le (by omega) (by omega))]
  | succ d ih =>
    intro k i g hi hk
    obtain ⟨k, rfl⟩ : ∃ q, k = q + 1 := ⟨k - 1, by omega⟩
    obtain ⟨g', k', a1, a2, a3, c0, c1⟩ := ih k (i + 1) (sIA (sLA (g) 89 (vp_updL (gLA g 89) i (gLA g 111 (64 * p + i)))) 90 (upd (gIA g 90) i (gIA g 112 (64 * p + i)))) (by omega) (by omega)
    refine ⟨g', k', by omega, ?_, ((Fr.sLA (by decide) _ _).trans (Fr.sIA (by decide) _ _)).trans a3, ?_, ?_⟩
    · rw [← a2]
      show h_X12_goes_314 n (L_X12_goes n k) g (nI p) 0 (nI i) = _
      unfold h_X12_goes_314 b_X12_goes_387
      have e1 : (64 : Int32) * nI p + nI i = nI (64 * p + i) := by rw [show (64 : Int32) = nI 64 from rfl, pk_mul, nI_add]
      have b1 : inB (nI (64 * p + i)) 256 = true := inB_nI (by omega) (by decide)
      have b2 : inB (nI i) 64 = true := inB_nI (by omega) (by decide)
      have c1 : (nI (64 * p + i)).toNatClampNeg = 64 * p + i := nI_clamp (by omega)
      have c2 : (nI i).toNatClampNeg = i := nI_clamp (by omega)
      rw [if_neg (show ¬ (64 : Int32) ≤ nI i from nI_ge (b := 64) (by omega) (by decide)), if_pos (show (0 : Int32) = 0 from rfl)]
      simp only [e1, grd_t b1, grd_t b2, c1, c2, nI_1]
    · intro j
      rw [c0 j]
      show (if i + 1 ≤ j ∧ j < 64 then gLA g 111 (64 * p + j) else vp_updL (gLA g 89) i (gLA g 111 (64 * p + i)) j) = _
      by_cases hq : j = i
      · rw [if_neg (by omega), hq, pk_uLs, if_pos (by omega)]
      · rw [pk_uLn hq]
        by_cases h : i ≤ j ∧ j < 64
        · rw [if_pos (by omega), if_pos h]
        · rw [if_neg (by omega), if_neg h]
    · intro j
      rw [c1 j]
      show (if i + 1 ≤ j ∧ j < 64 then gIA g 112 (64 * p + j) else upd (gIA g 90) i (gIA g 112 (64 * p + i)) j) = _
      by_cases hq : j = i
      · rw [if_neg (by omega), hq, pk_us, if_pos (by omega)]
      · rw [pk_un hq]
        by_cases h : i ≤ j ∧ j < 64
        · rw [if_pos (by omega), if_pos h]
        · rw [if_neg (by omega), if_neg h]
theorem go2_b {n p : Nat} (hp : p < 4) : ∀ (d k i : Nat) (g : Gs), i + d = 52 → d < k → ∃ g' k', k ≤ k' + d + 1 ∧ (L_X12_goes n k).2.2.1 g (nI p) 0 (nI i) = (L_X12_goes n k').2.2.2.1 g' (nI p) 0 0 ∧ Fr [83, 84, 85] g g' ∧ (∀ j, gIA g' 83 j = if i ≤ j ∧ j < 52 then gIA g 107 (156 * p + 3 * j) else gIA g 83 j) ∧ (∀ j, gIA g' 84 j = if i ≤ j ∧ j < 52 then gIA g 107 (156 * p + 3 * j + 1) else gIA g 84 j) ∧ (∀ j, gIA g' 85 j = if i ≤ j ∧ j < 52 then gIA g 107 (156 * p + 3 * j + 2) else gIA g 85 j) := by
  intro d
  induction d with
  | zero =>
    intro k i g hi hk
    obtain ⟨k, rfl⟩ : ∃ q, k = q + 1 := ⟨k - 1, by omega⟩
    refine ⟨g, k, by omega, ?_, Fr.refl _ _, fun j => (if_neg (by omega)).symm, fun j => (if_neg (by omega)).symm, fun j => (if_neg (by omega)).symm⟩
    show h_X12_goes_141 n (L_X12_goes n k) g (nI p) 0 (nI i) = _
    unfold h_X12_goes_141
    rw [show (52 : Int32) = nI 52 from rfl, if_pos (nI_le (by omega) (by omega))]
  | succ d ih =>
    intro k i g hi hk
    obtain ⟨k, rfl⟩ : ∃ q, k = q + 1 := ⟨k - 1, by omega⟩
    obtain ⟨g', k', a1, a2, a3, c0, c1, c2⟩ := ih k (i + 1) (sIA (sIA (sIA g 83 (upd (gIA g 83) i (gIA g 107 (156 * p + 3 * i)))) 84 (upd (gIA g 84) i (gIA g 107 (156 * p + 3 * i + 1)))) 85 (upd (gIA g 85) i (gIA g 107 (156 * p + 3 * i + 2)))) (by omega) (by omega)
    refine ⟨g', k', by omega, ?_, (((Fr.sIA (by decide) _ _).trans (Fr.sIA (by decide) _ _)).trans (Fr.sIA (by decide) _ _)).trans a3, ?_, ?_, ?_⟩
    · rw [← a2]
      show h_X12_goes_141 n (L_X12_goes n k) g (nI p) 0 (nI i) = _
      unfold h_X12_goes_141 b_X12_goes_251
      have e1 : (156 : Int32) * nI p + (3 : Int32) * nI i = nI (156 * p + 3 * i) := by rw [show (156 : Int32) = nI 156 from rfl, show (3 : Int32) = nI 3 from rfl, pk_mul, pk_mul, nI_add]
      have e2 : nI (156 * p + 3 * i) + (1 : Int32) = nI (156 * p + 3 * i + 1) := nI_1 _
      have e3 : nI (156 * p + 3 * i) + (2 : Int32) = nI (156 * p + 3 * i + 2) := nI_add _ 2
      have b1 : inB (nI (156 * p + 3 * i)) 624 = true := inB_nI (by omega) (by decide)
      have b2 : inB (nI (156 * p + 3 * i + 1)) 624 = true := inB_nI (by omega) (by decide)
      have b3 : inB (nI (156 * p + 3 * i + 2)) 624 = true := inB_nI (by omega) (by decide)
      have b4 : inB (nI i) 52 = true := inB_nI (by omega) (by decide)
      have d1 : (nI (156 * p + 3 * i)).toNatClampNeg = 156 * p + 3 * i := nI_clamp (by omega)
      have d2 : (nI (156 * p + 3 * i + 1)).toNatClampNeg = 156 * p + 3 * i + 1 := nI_clamp (by omega)
      have d3 : (nI (156 * p + 3 * i + 2)).toNatClampNeg = 156 * p + 3 * i + 2 := nI_clamp (by omega)
      have d4 : (nI i).toNatClampNeg = i := nI_clamp (by omega)
      rw [if_neg (show ¬ (52 : Int32) ≤ nI i from nI_ge (b := 52) (by omega) (by decide)), if_pos (show (0 : Int32) = 0 from rfl)]
      simp only [e1, e2, e3, grd_t b1, grd_t b2, grd_t b3, grd_t b4, d1, d2, d3, d4, show nI i + 1 = nI (i + 1) from nI_1 i]
    all_goals
      intro j
      first
      | (rw [c0 j]; show (if i + 1 ≤ j ∧ j < 52 then gIA g 107 (156 * p + 3 * j) else upd (gIA g 83) i _ j) = _)
      | (rw [c1 j]; show (if i + 1 ≤ j ∧ j < 52 then gIA g 107 (156 * p + 3 * j + 1) else upd (gIA g 84) i _ j) = _)
      | (rw [c2 j]; show (if i + 1 ≤ j ∧ j < 52 then gIA g 107 (156 * p + 3 * j + 2) else upd (gIA g 85) i _ j) = _)
      by_cases hq : j = i
      · rw [if_neg (by omega), hq, pk_us, if_pos (by omega)]
      · rw [pk_un hq]
        by_cases h : i ≤ j ∧ j < 52
        · rw [if_pos (by omega), if_pos h]
        · rw [if_neg (by omega), if_neg h]
theorem go2_t {n p : Nat} (hp : p < 4) : ∀ (d k i : Nat) (g : Gs), i + d = 52 → d < k → ∃ g' k', k ≤ k' + d + 1 ∧ (L_X12_goes n k).2.2.1 g (nI p) 1 (nI i) = (L_X12_goes n k').2.2.2.1 g' (nI p) 1 0 ∧ Fr [107] g g' ∧ (∀ j, i ≤ j → j < 52 → gIA g' 107 (156 * p + 3 * j) = gIA g 83 j ∧ gIA g' 107 (156 * p + 3 * j + 1) = gIA g 84 j ∧ gIA g' 107 (156 * p + 3 * j + 2) = gIA g 85 j) ∧ (∀ j, (j < 156 * p + 3 * i ∨ 156 * p + 156 ≤ j) → gIA g' 107 j = gIA g 107 j) := by
  intro d
  induction d with
  | zero =>
    intro k i g hi hk
    obtain ⟨k, rfl⟩ : ∃ q, k = q + 1 := ⟨k - 1, by omega⟩
    refine ⟨g, k, by omega, ?_, Fr.refl _ _, fun j h1 h2 => absurd h2 (by omega), fun j _ => rfl⟩
    show h_X12_goes_141 n (L_X12_goes n k) g (nI p) 1 (nI i) = _
    unfold h_X12_goes_141
    rw [show (52 : Int32) = nI 52 from rfl, if_pos (nI_le (by omega) (by omega))]
  | succ d ih =>
    intro k i g hi hk
    obtain ⟨k, rfl⟩ : ∃ q, k = q + 1 := ⟨k - 1, by omega⟩
    obtain ⟨U, hU⟩ : ∃ U, U = upd (upd (upd (gIA g 107) (156 * p + 3 * i) (gIA g 83 i)) (156 * p + 3 * i + 1) (gIA g 84 i)) (156 * p + 3 * i + 2) (gIA g 85 i) := ⟨_, rfl⟩
    obtain ⟨g', k', a1, a2, a3, c0, c1⟩ := ih k (i + 1) (sIA g 107 U) (by omega) (by omega)
    refine ⟨g', k', by omega, ?_, (Fr.sIA (by decide) _ _).trans a3, ?_, ?_⟩
    · rw [← a2]
      show h_X12_goes_141 n (L_X12_goes n k) g (nI p) 1 (nI i) = _
      unfold h_X12_goes_141 b_X12_goes_251
      have e1 : (156 : Int32) * nI p + (3 : Int32) * nI i = nI (156 * p + 3 * i) := by rw [show (156 : Int32) = nI 156 from rfl, show (3 : Int32) = nI 3 from rfl, pk_mul, pk_mul, nI_add]
      have e2 : nI (156 * p + 3 * i) + (1 : Int32) = nI (156 * p + 3 * i + 1) := nI_1 _
      have e3 : nI (156 * p + 3 * i) + (2 : Int32) = nI (156 * p + 3 * i + 2) := nI_add _ 2
      have b1 : inB (nI (156 * p + 3 * i)) 624 = true := inB_nI (by omega) (by decide)
      have b2 : inB (nI (156 * p + 3 * i + 1)) 624 = true := inB_nI (by omega) (by decide)
      have b3 : inB (nI (156 * p + 3 * i + 2)) 624 = true := inB_nI (by omega) (by decide)
      have b4 : inB (nI i) 52 = true := inB_nI (by omega) (by decide)
      have d1 : (nI (156 * p + 3 * i)).toNatClampNeg = 156 * p + 3 * i := nI_clamp (by omega)
      have d2 : (nI (156 * p + 3 * i + 1)).toNatClampNeg = 156 * p + 3 * i + 1 := nI_clamp (by omega)
      have d3 : (nI (156 * p + 3 * i + 2)).toNatClampNeg = 156 * p + 3 * i + 2 := nI_clamp (by omega)
      have d4 : (nI i).toNatClampNeg = i := nI_clamp (by omega)
      have ss : ∀ (A B C : Nat → Int32), sIA (sIA (sIA g 107 A) 107 B) 107 C = sIA g 107 C := by
        intro A B C
        unfold sIA
        congr 4
        funext q
        by_cases h : q = 107
        · subst h; rfl
        · unfold va_up; simp [h]
      rw [if_neg (show ¬ (52 : Int32) ≤ nI i from nI_ge (b := 52) (by omega) (by decide)), if_neg (show ¬ (1 : Int32) = 0 by decide)]
      simp only [e1, e2, e3, grd_t b1, grd_t b2, grd_t b3, grd_t b4, d1, d2, d3, d4, show nI i + 1 = nI (i + 1) from nI_1 i, ss, ← hU]
    · intro j h1 h2
      by_cases hq : j = i
      · subst hq
        have r1 := c1 (156 * p + 3 * j) (by omega)
        have r2 := c1 (156 * p + 3 * j + 1) (by omega)
        have r3 := c1 (156 * p + 3 * j + 2) (by omega)
        rw [r1, r2, r3]
        show U _ = _ ∧ U _ = _ ∧ U _ = _
        rw [hU]
        refine ⟨?_, ?_, ?_⟩
        · rw [pk_un (by omega), pk_un (by omega), pk_us]
        · rw [pk_un (by omega), pk_us]
        · rw [pk_us]
      · exact c0 j (by omega) h2
    · intro j hj
      rw [c1 j (by omega)]
      show U j = _
      rw [hU, pk_un (by omega), pk_un (by omega), pk_un (by omega)]
