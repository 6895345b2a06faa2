/-! settling: the bells' tables -/
/-- row r holds the NAME of token t -/
def Kn (g gx : Gs) (r t : Nat) : Prop := gIA gx 66 r = nI (te g t - ta g t) ∧ ∀ i, i < te g t - ta g t → gIA gx 65 (10 * r + i) = gIA g 5 (ta g t + i)
theorem Kn.keep {g gx gy : Gs} {r t : Nat} (h : Kn g gx r t) (hl : te g t - ta g t ≤ 10) (h66 : gIA gy 66 r = gIA gx 66 r) (h65 : ∀ i, i < 10 → gIA gy 65 (10 * r + i) = gIA gx 65 (10 * r + i)) : Kn g gy r t := ⟨h66.trans h.1, fun i hi => (h65 i (by omega)).trans (h.2 i hi)⟩
theorem bells_loop {n L T be A : Nat} {g2 g : Gs} {B : Nat → Nat} {tb : Nat → Nat} (hn : 20000 ≤ n) (hS : ScR n g2 L B g T) (hL : L ≤ 3000) (hb : ∀ p, p < L → byt (gIA g 5 p)) (hbe : be ≤ 12) (h34 : gI g 34 = nI be) (h48 : ∀ b, b < be → gIA g 48 b = nI (tb b) ∧ tb b < T ∧ tk g (tb b) = 2) : ∀ (d fr k : Nat) (gx : Gs), k + d = be → d < fr → Fr [65, 66, 74, 75, 86] g gx → (∀ q, (q < 40 ∨ 40 + k ≤ q) → gIA gx 66 q = gIA g 66 q) → (∀ q, (q < 400 ∨ 400 + 10 * k ≤ q) → gIA gx 65 q = gIA g 65 q) → (∀ i, i < k → Kn g gx (40 + i) (tb i) ∧ gIA gx 74 i = gIA g 49 i - 2000 ∧ gIA gx 75 i = gIA g 50 i - 2000 ∧ gIA gx 86 i = 0) → ∃ g', (L_X12_settle n fr).2.2.1 gx (nI k) = (L_X12_settle n (fr - d - 1)).2.2.2.1 g' 0 ∧ Fr [65, 66, 74, 75, 86] g g' ∧ (∀ q, (q < 40 ∨ 40 + be ≤ q) → gIA g' 66 q = gIA g 66 q) ∧ (∀ q, (q < 400 ∨ 400 + 10 * be ≤ q) → gIA g' 65 q = gIA g 65 q) ∧ (∀ i, i < be → Kn g g' (40 + i) (tb i) ∧ gIA g' 74 i = gIA g 49 i - 2000 ∧ gIA g' 75 i = gIA g 50 i - 2000 ∧ gIA g' 86 i = 0) := by
  intro d
  induction d with
  | zero =>
    intro fr k gx h1 h2 h3 h4 h5 h6
    obtain ⟨fr, rfl⟩ : ∃ x, fr = x + 1 := ⟨fr - 1, by omega⟩
    have ek : k = be := by omega
    rw [ek] at h4 h5 h6
    refine ⟨gx, ?_, h3, h4, h5, h6⟩
    show h_X12_settle_422 n (L_X12_settle n fr) gx (nI k) = _
    unfold h_X12_settle_422
    rw [(h3 34 (by decide)).1, h34, if_pos (nI_le (show be ≤ k by omega) (by omega))]
    rfl
  | succ d ih =>
    intro fr k gx h1 h2 h3 h4 h5 h6
    obtain ⟨fr, rfl⟩ : ∃ x, fr = x + 1 := ⟨fr - 1, by omega⟩
    have ef : fr + 1 - (d + 1) - 1 = fr - d - 1 := by omega
    rw [ef]
    obtain ⟨t1, t2, t3⟩ := h48 k (by omega)
    have hX : nTk [65, 66, 74, 75, 86] := by decide
    obtain ⟨e1, e2, e3, e4, e5⟩ := tok_same h3 hX
    have x5 : gIA gx 5 = gIA g 5 := (h3 5 (by decide)).2.2.2.1
    obtain ⟨g', a1, a2, a3, a4, a5, a6⟩ := name_kept (r := 40 + k) hn (hS.base h3 hX) hL (by rw [x5]; exact hb) (by omega) t2 (by rw [e1]; exact t3)
    rw [e2, e3, x5] at a6
    rw [e2, e3] at a3
    have b4 : inB (nI k) 400 = true := inB_nI (by omega) (by decide)
    have b12 : inB (nI k) 12 = true := inB_nI (by omega) (by decide)
    have ck : (nI k).toNatClampNeg = k := nI_clamp (by omega)
    have e : (L_X12_settle n (fr + 1)).2.2.1 gx (nI k) = (L_X12_settle n fr).2.2.1 (sIA (sIA (sIA g' 74 (upd (gIA gx 74) k (gIA g 49 k - 2000))) 75 (upd (gIA gx 75) k (gIA g 50 k - 2000))) 86 (upd (gIA gx 86) k 0)) (nI (k + 1)) := by
      show h_X12_settle_422 n (L_X12_settle n fr) gx (nI k) = _
      unfold h_X12_settle_422
      rw [(h3 34 (by decide)).1, h34, if_neg (nI_ge (a := k) (b := be) (by omega) (by omega)), grd_t b4, ck, show (40 : Int32) + nI k = nI (40 + k) from nI_plus 40 k, (h3 48 (by decide)).2.2.2.1, t1, bnd_s a1]
      simp only [grd_t b4, grd_t b12]
      rw [nI_1, (a2 74 (by decide)).2.2.2.1, (a2 75 (by decide)).2.2.2.1, (a2 86 (by decide)).2.2.2.1, (a2 49 (by decide)).2.2.2.1, (a2 50 (by decide)).2.2.2.1, (h3 49 (by decide)).2.2.2.1, (h3 50 (by decide)).2.2.2.1]
    rw [e]
    refine ih fr (k + 1) _ (by omega) (by omega) ((((h3.trans (a2.mono (by decide))).trans (Fr.sIA (by decide) _ _)).trans (Fr.sIA (by decide) _ _)).trans (Fr.sIA (by decide) _ _)) (fun q hq => ?_) (fun q hq => ?_) (fun i hi => ?_)
    · show gIA g' 66 q = _
      rw [a4 q (by omega)]; exact h4 q (by omega)
    · show gIA g' 65 q = _
      rw [a5 q (by omega)]; exact h5 q (by omega)
    · by_cases c : i = k
      · rw [c]
        refine ⟨⟨a3, a6⟩, ?_, ?_, ?_⟩
        · show upd (gIA gx 74) k _ k = _; rw [pk_us]
        · show upd (gIA gx 75) k _ k = _; rw [pk_us]
        · show upd (gIA gx 86) k _ k = _; rw [pk_us]
      · obtain ⟨y1, y2, y3, y4⟩ := h6 i (by omega)
        obtain ⟨s1, s2, s3⟩ := h48 i (by omega)
        refine ⟨y1.keep (len10 hS s2 s3).1 (a4 (40 + i) (by omega)) (fun q hq => a5 (10 * (40 + i) + q) (by omega)), ?_, ?_, ?_⟩
        · show upd (gIA gx 74) k _ i = _; rw [pk_un c]; exact y2
        · show upd (gIA gx 75) k _ i = _; rw [pk_un c]; exact y3
        · show upd (gIA gx 86) k _ i = _; rw [pk_un c]; exact y4
