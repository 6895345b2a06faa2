/-! the class clears what turns -/
theorem fill_j {n : Nat} (hn : 60 ≤ n) (g : Gs) (v : Int64) : ∃ g', f_J7_fill_d0a16__AJ40 n g v = some g' ∧ ∀ a, a < 40 → gLA g' 0 a = v := by
  have key : ∀ (d k i : Nat) (g : Gs), i + d = 40 → d < k → (∀ a, a < i → gLA g 0 a = v) → ∃ g', L_J7_fill_d0a16__AJ40 n k g v (nI i) 40 = some g' ∧ ∀ a, a < 40 → gLA g' 0 a = v := by
    intro d
    induction d with
    | zero =>
      intro k i g h1 h2 h3
      obtain ⟨k, rfl⟩ : ∃ x, k = x + 1 := ⟨k - 1, by omega⟩
      refine ⟨g, ?_, fun a ha => h3 a (by omega)⟩
      show h_J7_fill_d0a16__AJ40_6 n (L_J7_fill_d0a16__AJ40 n k) g v (nI i) 40 = _
      unfold h_J7_fill_d0a16__AJ40_6
      rw [if_pos (show (40 : Int32) ≤ nI i from nI_le (a := 40) (b := i) (by omega) (by omega))]
    | succ d ih =>
      intro k i g h1 h2 h3
      obtain ⟨k, rfl⟩ : ∃ x, k = x + 1 := ⟨k - 1, by omega⟩
      obtain ⟨g', a1, a2⟩ := ih k (i + 1) (sLA g 0 (vp_updL (gLA g 0) i v)) (by omega) (by omega) (fun a ha => by
        show vp_updL (gLA g 0) i v a = v
        by_cases c : a = i
        · rw [c]; exact pk_uLs
        · exact (pk_uLn c).trans (h3 a (by omega)))
      refine ⟨g', ?_, a2⟩
      rw [← a1]
      show h_J7_fill_d0a16__AJ40_6 n (L_J7_fill_d0a16__AJ40 n k) g v (nI i) 40 = _
      unfold h_J7_fill_d0a16__AJ40_6
      rw [if_neg (show ¬ (40 : Int32) ≤ nI i from nI_ge (a := i) (b := 40) (by omega) (by omega)), grd_t (inB_nI (by omega) (by decide)), nI_clamp (by omega), nI_1]
  exact key 40 n 0 g (by omega) (by omega) (fun a ha => by omega)
theorem fill_d {n : Nat} (hn : 60 ≤ n) (g : Gs) (v : UInt64) : ∃ g', f_J7_fill_7f8df__AD40 n g v = some g' ∧ ∀ a, a < 40 → gDA g' 0 a = v := by
  have key : ∀ (d k i : Nat) (g : Gs), i + d = 40 → d < k → (∀ a, a < i → gDA g 0 a = v) → ∃ g', L_J7_fill_7f8df__AD40 n k g v (nI i) 40 = some g' ∧ ∀ a, a < 40 → gDA g' 0 a = v := by
    intro d
    induction d with
    | zero =>
      intro k i g h1 h2 h3
      obtain ⟨k, rfl⟩ : ∃ x, k = x + 1 := ⟨k - 1, by omega⟩
      refine ⟨g, ?_, fun a ha => h3 a (by omega)⟩
      show h_J7_fill_7f8df__AD40_6 n (L_J7_fill_7f8df__AD40 n k) g v (nI i) 40 = _
      unfold h_J7_fill_7f8df__AD40_6
      rw [if_pos (show (40 : Int32) ≤ nI i from nI_le (a := 40) (b := i) (by omega) (by omega))]
    | succ d ih =>
      intro k i g h1 h2 h3
      obtain ⟨k, rfl⟩ : ∃ x, k = x + 1 := ⟨k - 1, by omega⟩
      obtain ⟨g', a1, a2⟩ := ih k (i + 1) (sDA g 0 (vf_upd (gDA g 0) i v)) (by omega) (by omega) (fun a ha => by
        show vf_upd (gDA g 0) i v a = v
        by_cases c : a = i
        · rw [c]; exact if_pos rfl
        · exact (if_neg c : vf_upd (gDA g 0) i v a = gDA g 0 a).trans (h3 a (by omega)))
      refine ⟨g', ?_, a2⟩
      rw [← a1]
      show h_J7_fill_7f8df__AD40_6 n (L_J7_fill_7f8df__AD40 n k) g v (nI i) 40 = _
      unfold h_J7_fill_7f8df__AD40_6
      rw [if_neg (show ¬ (40 : Int32) ≤ nI i from nI_ge (a := i) (b := 40) (by omega) (by omega)), grd_t (inB_nI (by omega) (by decide)), nI_clamp (by omega), nI_1]
  exact key 40 n 0 g (by omega) (by omega) (fun a ha => by omega)
theorem fill_i52 {n : Nat} (hn : 60 ≤ n) (g : Gs) (v : Int32) : ∃ g', f_J7_fill_53178__AI52 n g v = some g' ∧ ∀ a, a < 52 → gIA g' 0 a = v := by
  have key : ∀ (d k i : Nat) (g : Gs), i + d = 52 → d < k → (∀ a, a < i → gIA g 0 a = v) → ∃ g', L_J7_fill_53178__AI52 n k g v (nI i) 52 = some g' ∧ ∀ a, a < 52 → gIA g' 0 a = v := by
    intro d
    induction d with
    | zero =>
      intro k i g h1 h2 h3
      obtain ⟨k, rfl⟩ : ∃ x, k = x + 1 := ⟨k - 1, by omega⟩
      refine ⟨g, ?_, fun a ha => h3 a (by omega)⟩
      show h_J7_fill_53178__AI52_5 n (L_J7_fill_53178__AI52 n k) g v (nI i) 52 = _
      unfold h_J7_fill_53178__AI52_5
      rw [if_pos (show (52 : Int32) ≤ nI i from nI_le (a := 52) (b := i) (by omega) (by omega))]
    | succ d ih =>
      intro k i g h1 h2 h3
      obtain ⟨k, rfl⟩ : ∃ x, k = x + 1 := ⟨k - 1, by omega⟩
      obtain ⟨g', a1, a2⟩ := ih k (i + 1) (sIA g 0 (upd (gIA g 0) i v)) (by omega) (by omega) (fun a ha => by
        show upd (gIA g 0) i v a = v
        by_cases c : a = i
        · rw [c]; exact pk_us
        · exact (pk_un c).trans (h3 a (by omega)))
      refine ⟨g', ?_, a2⟩
      rw [← a1]
      show h_J7_fill_53178__AI52_5 n (L_J7_fill_53178__AI52 n k) g v (nI i) 52 = _
      unfold h_J7_fill_53178__AI52_5
      rw [if_neg (show ¬ (52 : Int32) ≤ nI i from nI_ge (a := i) (b := 52) (by omega) (by omega)), grd_t (inB_nI (by omega) (by decide)), nI_clamp (by omega), nI_1]
  exact key 52 n 0 g (by omega) (by omega) (fun a ha => by omega)
theorem fill_i12 {n : Nat} (hn : 60 ≤ n) (g : Gs) (v : Int32) : ∃ g', f_J7_fill_53178__AI12 n g v = some g' ∧ ∀ a, a < 12 → gIA g' 0 a = v := by
  have key : ∀ (d k i : Nat) (g : Gs), i + d = 12 → d < k → (∀ a, a < i → gIA g 0 a = v) → ∃ g', L_J7_fill_53178__AI12 n k g v (nI i) 12 = some g' ∧ ∀ a, a < 12 → gIA g' 0 a = v := by
    intro d
    induction d with
    | zero =>
      intro k i g h1 h2 h3
      obtain ⟨k, rfl⟩ : ∃ x, k = x + 1 := ⟨k - 1, by omega⟩
      refine ⟨g, ?_, fun a ha => h3 a (by omega)⟩
      show h_J7_fill_53178__AI12_5 n (L_J7_fill_53178__AI12 n k) g v (nI i) 12 = _
      unfold h_J7_fill_53178__AI12_5
      rw [if_pos (show (12 : Int32) ≤ nI i from nI_le (a := 12) (b := i) (by omega) (by omega))]
    | succ d ih =>
      intro k i g h1 h2 h3
      obtain ⟨k, rfl⟩ : ∃ x, k = x + 1 := ⟨k - 1, by omega⟩
      obtain ⟨g', a1, a2⟩ := ih k (i + 1) (sIA g 0 (upd (gIA g 0) i v)) (by omega) (by omega) (fun a ha => by
        show upd (gIA g 0) i v a = v
        by_cases c : a = i
        · rw [c]; exact pk_us
        · exact (pk_un c).trans (h3 a (by omega)))
      refine ⟨g', ?_, a2⟩
      rw [← a1]
      show h_J7_fill_53178__AI12_5 n (L_J7_fill_53178__AI12 n k) g v (nI i) 12 = _
      unfold h_J7_fill_53178__AI12_5
      rw [if_neg (show ¬ (12 : Int32) ≤ nI i from nI_ge (a := i) (b := 12) (by omega) (by omega)), grd_t (inB_nI (by omega) (by decide)), nI_clamp (by omega), nI_1]
  exact key 12 n 0 g (by omega) (by omega) (fun a ha => by omega)
abbrev clrX : List Nat := [0, 1, 2, 3, 6, 7, 8, 9, 12, 13, 14]
theorem clear_ok {n : Nat} {gs : Gs} (hn : 60 ≤ n) : ∃ gs1, f_X9_clear n gs = some gs1 ∧ Fr clrX gs gs1 ∧ (∀ a, a < 40 → gLA gs1 0 a = 0 ∧ gDA gs1 1 a = FP.dconst0) ∧ (∀ r, r < 52 → gIA gs1 6 r = 0 ∧ gIA gs1 7 r = 0 ∧ gIA gs1 8 r = -1) ∧ (∀ b, b < 12 → gIA gs1 9 b = 0) ∧ (gI gs1 12 = 0 ∧ gI gs1 13 = 0) ∧ gL gs1 14 = 0 := by
  obtain ⟨q1, a1, b1⟩ := fill_j hn (sLA gs 0 (gLA gs 0)) 0
  obtain ⟨q2, a2, b2⟩ := fill_d hn (sDA gs 0 (gDA gs 1)) FP.dconst0
  obtain ⟨q3, a3, b3⟩ := fill_j hn (sLA gs 0 (gLA gs 2)) 0
  obtain ⟨q4, a4, b4⟩ := fill_d hn (sDA gs 0 (gDA gs 3)) FP.dconst0
  obtain ⟨q5, a5, b5⟩ := fill_i52 hn (sIA gs 0 (gIA gs 6)) 0
  obtain ⟨q6, a6, b6⟩ := fill_i52 hn (sIA gs 0 (gIA gs 7)) 0
  obtain ⟨q7, a7, b7⟩ := fill_i52 hn (sIA gs 0 (gIA gs 8)) (-1)
  obtain ⟨q8, a8, b8⟩ := fill_i12 hn (sIA gs 0 (gIA gs 9)) 0
  unfold f_X9_clear
  rw [bnd_s a1, bnd_s a2, bnd_s a3, bnd_s a4, bnd_s a5, bnd_s a6, bnd_s a7, bnd_s a8]
  refine ⟨_, rfl, ?_, fun a ha => ⟨b1 a ha, b2 a ha⟩, fun r hr => ⟨b5 r hr, b6 r hr, b7 r hr⟩, fun b hb => b8 b hb, ⟨rfl, rfl⟩, rfl⟩
  exact ((((((((((Fr.sLA (by decide) _ _).trans (Fr.sDA (by decide) _ _)).trans (Fr.sLA (by decide) _ _)).trans (Fr.sDA (by decide) _ _)).trans (Fr.sIA (by decide) _ _)).trans (Fr.sIA (by decide) _ _)).trans (Fr.sIA (by decide) _ _)).trans (Fr.sIA (by decide) _ _)).trans (Fr.sI (by decide) _ _)).trans (Fr.sI (by decide) _ _)).trans (Fr.sL (by decide) _ _)
