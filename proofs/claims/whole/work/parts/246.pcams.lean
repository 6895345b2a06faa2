/-! settling: the cams' tables -/
theorem teeth_loop {n c a m : Nat} {g : Gs} (hc : c < 8) (hm : m ≤ 24) (ha : a + m ≤ 1600) (h55 : gIA g 55 c = nI m) (h54 : gIA g 54 c = nI a) : ∀ (d fr k : Nat) (gx : Gs), k + d = m → d < fr → Fr [79] g gx → (∀ q, (q < 24 * c ∨ 24 * c + k ≤ q) → gLA gx 79 q = gLA g 79 q) → (∀ i, i < k → gLA gx 79 (24 * c + i) = gLA g 56 (a + i)) → ∃ g', (L_X12_settle n fr).2.2.2.2.2.2.1 gx (nI c) (nI k) = (L_X12_settle n (fr - d - 1)).2.2.2.1 g' (nI (c + 1)) ∧ Fr [79] g g' ∧ (∀ q, (q < 24 * c ∨ 24 * c + m ≤ q) → gLA g' 79 q = gLA g 79 q) ∧ ∀ i, i < m → gLA g' 79 (24 * c + i) = gLA g 56 (a + i) := by
  intro d
  induction d with
  | zero =>
    intro fr k gx h1 h2 h3 h4 h5
    obtain ⟨fr, rfl⟩ : ∃ x, fr = x + 1 := ⟨fr - 1, by omega⟩
    have ek : k = m := by omega
    rw [ek] at h4 h5
    refine ⟨gx, ?_, h3, h4, h5⟩
    show h_X12_settle_528 n (L_X12_settle n fr) gx (nI c) (nI k) = _
    unfold h_X12_settle_528
    rw [grd_t (inB_nI (by omega) (by decide)), nI_clamp (show c < 2 ^ 31 by omega), (h3 55 (by decide)).2.2.2.1, h55, if_pos (nI_le (by omega) (by omega)), nI_1]
    rfl
  | succ d ih =>
    intro fr k gx h1 h2 h3 h4 h5
    obtain ⟨fr, rfl⟩ : ∃ x, fr = x + 1 := ⟨fr - 1, by omega⟩
    have ef : fr + 1 - (d + 1) - 1 = fr - d - 1 := by omega
    rw [ef]
    have e : (L_X12_settle n (fr + 1)).2.2.2.2.2.2.1 gx (nI c) (nI k) = (L_X12_settle n fr).2.2.2.2.2.2.1 (sLA gx 79 (vp_updL (gLA gx 79) (24 * c + k) (gLA g 56 (a + k)))) (nI c) (nI (k + 1)) := by
      show h_X12_settle_528 n (L_X12_settle n fr) gx (nI c) (nI k) = _
      unfold h_X12_settle_528
      have e24 : (24 : Int32) * nI c + nI k = nI (24 * c + k) := by
        have : ∀ c, c < 8 → (24 : Int32) * nI c = nI (24 * c) := by decide +kernel
        rw [this c hc, nI_plus]
      rw [grd_t (inB_nI (by omega) (by decide)), nI_clamp (show c < 2 ^ 31 by omega), (h3 55 (by decide)).2.2.2.1, h55, if_neg (nI_ge (a := k) (b := m) (by omega) (by omega)), grd_t (inB_nI (by omega) (by decide)), (h3 54 (by decide)).2.2.2.1, h54, nI_plus, grd_t (inB_nI (show a + k < 1600 by omega) (by decide)), e24, grd_t (inB_nI (show 24 * c + k < 192 by omega) (by decide)), nI_clamp (show a + k < 2 ^ 31 by omega), nI_clamp (show 24 * c + k < 2 ^ 31 by omega), (h3 56 (by decide)).2.2.2.2.1, nI_1]
    rw [e]
    refine ih fr (k + 1) _ (by omega) (by omega) (h3.trans (Fr.sLA (by decide) _ _)) (fun q hq => ?_) (fun i hi => ?_)
    · exact (pk_uLn (by omega)).trans (h4 q (by omega))
    · by_cases z : i = k
      · rw [z]; exact pk_uLs
      · exact (pk_uLn (by omega)).trans (h5 i (by omega))
theorem cams_loop {n L T ca : Nat} {g2 g : Gs} {B : Nat → Nat} {tc cm cs : Nat → Nat} (hn : 20000 ≤ n) (hS : ScR n g2 L B g T) (hL : L ≤ 3000) (hb : ∀ p, p < L → byt (gIA g 5 p)) (hca : ca ≤ 8) (h35 : gI g 35 = nI ca) (h53 : ∀ c, c < ca → gIA g 53 c = nI (tc c) ∧ tc c < T ∧ tk g (tc c) = 2) (h54 : ∀ c, c < ca → gIA g 54 c = nI (cs c) ∧ gIA g 55 c = nI (cm c) ∧ cm c ≤ 24 ∧ cs c + cm c ≤ 1600) : ∀ (d fr k : Nat) (gx : Gs), k + d = ca → 26 * d + 1 ≤ fr → Fr [65, 66, 78, 79] g gx → (∀ q, (q < 52 ∨ 52 + k ≤ q) → gIA gx 66 q = gIA g 66 q) → (∀ q, (q < 520 ∨ 520 + 10 * k ≤ q) → gIA gx 65 q = gIA g 65 q) → (∀ i, i < k → Kn g gx (52 + i) (tc i) ∧ gIA gx 78 i = nI (cm i) ∧ ∀ q, q < cm i → gLA gx 79 (24 * i + q) = gLA g 56 (cs i + q)) → ∃ g' fr', fr ≤ fr' + 26 * d + 1 ∧ (L_X12_settle n fr).2.2.2.1 gx (nI k) = (L_X12_settle n fr').2.2.2.2.1 (sI (sL g' 87 0) 88 0) 0 ∧ Fr [65, 66, 78, 79] g g' ∧ (∀ q, (q < 52 ∨ 52 + ca ≤ q) → gIA g' 66 q = gIA g 66 q) ∧ (∀ q, (q < 520 ∨ 520 + 10 * ca ≤ q) → gIA g' 65 q = gIA g 65 q) ∧ (∀ i, i < ca → Kn g g' (52 + i) (tc i) ∧ gIA g' 78 i = nI (cm i) ∧ ∀ q, q < cm i → gLA g' 79 (24 * i + q) = gLA g 56 (cs i + q)) := by
  intro d
  induction d with
  | zero =>
    intro fr k gx h1 h2 h3 h4 h5 h6
    obtain ⟨fr, rfl⟩ : ∃ x, fr = x + 1 := ⟨fr - 1, by omega⟩
    have ek : k = ca := by omega
    rw [ek] at h4 h5 h6
    refine ⟨gx, fr, by omega, ?_, h3, h4, h5, h6⟩
    show h_X12_settle_491 n (L_X12_settle n fr) gx (nI k) = _
    unfold h_X12_settle_491
    rw [(h3 35 (by decide)).1, h35, if_pos (nI_le (show ca ≤ k by omega) (by omega))]
  | succ d ih =>
    intro fr k gx h1 h2 h3 h4 h5 h6
    obtain ⟨fr, rfl⟩ : ∃ x, fr = x + 1 := ⟨fr - 1, by omega⟩
    obtain ⟨t1, t2, t3⟩ := h53 k (by omega)
    obtain ⟨u1, u2, u3, u4⟩ := h54 k (by omega)
    have hX : nTk [65, 66, 78, 79] := by decide
    obtain ⟨e1, e2, e3, e4, e5⟩ := tok_same h3 hX
    have x5 : gIA gx 5 = gIA g 5 := (h3 5 (by decide)).2.2.2.1
    obtain ⟨g', a1, a2, a3, a4, a5, a6⟩ := name_kept (r := 52 + k) hn (hS.base h3 hX) hL (by rw [x5]; exact hb) (by omega) t2 (by rw [e1]; exact t3)
    rw [e2, e3, x5] at a6
    rw [e2, e3] at a3
    have b4 : inB (nI k) 400 = true := inB_nI (by omega) (by decide)
    have b8 : inB (nI k) 8 = true := inB_nI (by omega) (by decide)
    have ck : (nI k).toNatClampNeg = k := nI_clamp (by omega)
    have e : (L_X12_settle n (fr + 1)).2.2.2.1 gx (nI k) = (L_X12_settle n fr).2.2.2.2.2.2.1 (sIA g' 78 (upd (gIA gx 78) k (nI (cm k)))) (nI k) (nI 0) := by
      show h_X12_settle_491 n (L_X12_settle n fr) gx (nI k) = _
      unfold h_X12_settle_491
      rw [(h3 35 (by decide)).1, h35, if_neg (nI_ge (a := k) (b := ca) (by omega) (by omega)), grd_t b4, ck, show (52 : Int32) + nI k = nI (52 + k) from nI_plus 52 k, (h3 53 (by decide)).2.2.2.1, t1, bnd_s a1, grd_t b4, grd_t b8, (a2 78 (by decide)).2.2.2.1, (a2 55 (by decide)).2.2.2.1, (h3 55 (by decide)).2.2.2.1, u2]
      rfl
    have fg : Fr [65, 66, 78, 79] g (sIA g' 78 (upd (gIA gx 78) k (nI (cm k)))) := (h3.trans (a2.mono (by decide))).trans (Fr.sIA (by decide) _ _)
    obtain ⟨gz, z1, z2, z3, z4⟩ := teeth_loop (n := n) (c := k) (a := cs k) (m := cm k) (g := sIA g' 78 (upd (gIA gx 78) k (nI (cm k)))) (by omega) u3 u4 (by rw [(fg 55 (by decide)).2.2.2.1]; exact u2) (by rw [(fg 54 (by decide)).2.2.2.1]; exact u1) (cm k) fr 0 _ (by omega) (by omega) (Fr.refl _ _) (fun _ _ => rfl) (fun i hi => by omega)
    have e56 : gLA (sIA g' 78 (upd (gIA gx 78) k (nI (cm k)))) 56 = gLA g 56 := (fg 56 (by decide)).2.2.2.2.1
    have e79 : gLA (sIA g' 78 (upd (gIA gx 78) k (nI (cm k)))) 79 = gLA gx 79 := (a2 79 (by decide)).2.2.2.2.1
    rw [e56] at z4
    rw [e79] at z3
    rw [e, z1]
    have q65 : gIA gz 65 = gIA g' 65 := (z2 65 (by decide)).2.2.2.1
    have q66 : gIA gz 66 = gIA g' 66 := (z2 66 (by decide)).2.2.2.1
    have q78 : gIA gz 78 = upd (gIA gx 78) k (nI (cm k)) := (z2 78 (by decide)).2.2.2.1
    obtain ⟨gF, fr', w1, w2, w3⟩ := ih (fr - cm k - 1) (k + 1) gz (by omega) (by omega) (fg.trans (z2.mono (by decide))) (fun q hq => by rw [q66, a4 q (by omega)]; exact h4 q (by omega)) (fun q hq => by rw [q65, a5 q (by omega)]; exact h5 q (by omega)) (fun i hi => by
      by_cases z : i = k
      · rw [z]
        exact ⟨⟨by rw [q66]; exact a3, by rw [q65]; exact a6⟩, by rw [q78, pk_us], z4⟩
      · obtain ⟨y1, y2, y3⟩ := h6 i (by omega)
        obtain ⟨s1, s2, s3⟩ := h53 i (by omega)
        have u3i := (h54 i (by omega)).2.2.1
        refine ⟨y1.keep (len10 hS s2 s3).1 (by rw [q66]; exact a4 (52 + i) (by omega)) (fun q hq => by rw [q65]; exact a5 (10 * (52 + i) + q) (by omega)), by rw [q78, pk_un z]; exact y2, fun q hq => ?_⟩
        rw [z3 (24 * i + q) (by omega)]; exact y3 q hq)
    exact ⟨gF, fr', by omega, w2, w3⟩
