/-! all tokens of a text -/
def tk (g : Gs) (j : Nat) : Nat := (gIA g 9 j).toNatClampNeg
def ta (g : Gs) (j : Nat) : Nat := (gIA g 10 j).toNatClampNeg
def te (g : Gs) (j : Nat) : Nat := (gIA g 11 j).toNatClampNeg
def ts (g : Gs) (j : Nat) : Nat := (gIA g 13 j).toNatClampNeg
def Tj (n : Nat) (g2 : Gs) (L : Nat) (B : Nat → Nat) (g : Gs) (j : Nat) : Prop := gIA g 9 j = nI (tk g j) ∧ gIA g 10 j = nI (ta g j) ∧ gIA g 11 j = nI (te g j) ∧ (tk g j = 3 → gIA g 13 j = nI (ts g j)) ∧ Tok n g2 L B (if j = 0 then 0 else te g (j - 1)) (tk g j) (ta g j) (te g j) (ts g j) (gLA g 12 j)
theorem Tj.same {n : Nat} {g2 : Gs} {L : Nat} {B : Nat → Nat} {g g' : Gs} {j : Nat} (h : Tj n g2 L B g j) (h9 : gIA g' 9 j = gIA g 9 j) (h10 : gIA g' 10 j = gIA g 10 j) (h11 : gIA g' 11 j = gIA g 11 j) (h11' : j ≠ 0 → gIA g' 11 (j - 1) = gIA g 11 (j - 1)) (h13 : gIA g' 13 j = gIA g 13 j) (h12 : gLA g' 12 j = gLA g 12 j) : Tj n g2 L B g' j := by
  have e : (if j = 0 then 0 else te g' (j - 1)) = (if j = 0 then 0 else te g (j - 1)) := by
    by_cases hj : j = 0
    · rw [if_pos hj, if_pos hj]
    · rw [if_neg hj, if_neg hj]; unfold te; rw [h11' hj]
  unfold Tj
  rw [e, show tk g' j = tk g j by unfold tk; rw [h9], show ta g' j = ta g j by unfold ta; rw [h10], show te g' j = te g j by unfold te; rw [h11], show ts g' j = ts g j by unfold ts; rw [h13], h9, h10, h11, h12, h13]
  exact h
/-- the tokens that a scan leaves -/
def ScR (n : Nat) (g2 : Gs) (L : Nat) (B : Nat → Nat) (g : Gs) (T : Nat) : Prop := gI g 8 = nI T ∧ 1 ≤ T ∧ T ≤ 3001 ∧ (∀ j, j < T → Tj n g2 L B g j) ∧ (∀ j, j + 1 < T → tk g j ≠ 0 ∧ tk g j ≠ 1) ∧ (tk g (T - 1) = 0 ∨ tk g (T - 1) = 1)
theorem tokH_facts {g gb : Gs} {T K a e s : Nat} {bits : Int64} (hf : Fr [0, 1, 2] g gb) (hK : K < 2 ^ 31) (ha : a < 2 ^ 31) (he : e < 2 ^ 31) (hs : s < 2 ^ 31) : gI (tokH gb T K a e s bits) 8 = nI (T + 1) ∧ gIA (tokH gb T K a e s bits) 9 = upd (gIA g 9) T (nI K) ∧ gIA (tokH gb T K a e s bits) 10 = upd (gIA g 10) T (nI a) ∧ gIA (tokH gb T K a e s bits) 11 = upd (gIA g 11) T (nI e) ∧ (∀ j, j ≠ T → gLA (tokH gb T K a e s bits) 12 j = gLA g 12 j ∧ gIA (tokH gb T K a e s bits) 13 j = gIA g 13 j) ∧ (K = 3 → gLA (tokH gb T K a e s bits) 12 T = bits ∧ gIA (tokH gb T K a e s bits) 13 T = nI s) ∧ Fr [0, 1, 2, 8, 9, 10, 11, 12, 13] g (tokH gb T K a e s bits) := by
  have e9 := (hf 9 (by decide)).2.2.2.1
  have e10 := (hf 10 (by decide)).2.2.2.1
  have e11 := (hf 11 (by decide)).2.2.2.1
  have e13 := (hf 13 (by decide)).2.2.2.1
  have e12 := (hf 12 (by decide)).2.2.2.2.1
  have fG : ∀ g' K, Fr [0, 1, 2, 8, 9, 10, 11, 12, 13] g' (tokG g' T K a e) := fun g' K => (((Fr.sIA (by decide) _ _).trans (Fr.sIA (by decide) _ _)).trans (Fr.sIA (by decide) _ _)).trans (Fr.sI (by decide) _ _)
  unfold tokH
  by_cases h3 : K = 3
  · subst h3
    rw [if_pos rfl]
    refine ⟨rfl, ?_, ?_, ?_, fun j hj => ⟨?_, ?_⟩, fun _ => ⟨?_, ?_⟩, ((hf.mono (by decide)).trans ((Fr.sLA (by decide) _ _).trans (Fr.sIA (by decide) _ _))).trans (fG _ _)⟩
    · show upd (gIA gb 9) T (nI 3) = _; rw [e9]
    · show upd (gIA gb 10) T (nI a) = _; rw [e10]
    · show upd (gIA gb 11) T (nI e) = _; rw [e11]
    · show vp_updL (gLA gb 12) T bits j = _; rw [pk_uLn hj, e12]
    · show upd (gIA gb 13) T (nI s) j = _; rw [pk_un hj, e13]
    · show vp_updL (gLA gb 12) T bits T = _; rw [pk_uLs]
    · show upd (gIA gb 13) T (nI s) T = _; rw [pk_us]
  · rw [if_neg h3]
    refine ⟨rfl, ?_, ?_, ?_, fun j hj => ⟨?_, ?_⟩, fun z => absurd z h3, (hf.mono (by decide)).trans (fG _ _)⟩
    · show upd (gIA gb 9) T (nI K) = _; rw [e9]
    · show upd (gIA gb 10) T (nI a) = _; rw [e10]
    · show upd (gIA gb 11) T (nI e) = _; rw [e11]
    · show gLA gb 12 j = _; rw [e12]
    · show gIA gb 13 j = _; rw [e13]
theorem ks_lt {K : Nat} (h : K ∈ KS) : K < 256 := by
  have : ∀ x ∈ KS, x < 256 := by decide
  exact this K h
theorem scan_loop {n : Nat} {g2 : Gs} {L : Nat} {B : Nat → Nat} (hn : 20000 ≤ n) (hTb : Tb g2) : ∀ (d k p T : Nat) (g : Gs), L - p < d → 3100 + 3 * d + (L - p) ≤ k → p ≤ L → T ≤ p → RefT g L B → (∀ i, i < 26 → gLA g 7 i = lN (Wl.getD i 0)) → gI g 8 = nI T → p = (if T = 0 then 0 else te g (T - 1)) → (∀ j, j < T → Tj n g2 L B g j) → (∀ j, j < T → tk g j ≠ 0 ∧ tk g j ≠ 1) → ∃ g' T', (L_X12_scan n k).2.2 g (nI p) = some g' ∧ ScR n g2 L B g' T' ∧ T' ≤ L + 1 ∧ Fr [0, 1, 2, 8, 9, 10, 11, 12, 13] g g' := by
  intro d
  induction d with
  | zero => intro k p T g h; omega
  | succ d ih =>
    intro k p T g hd hk hp hTp hR h7 h8 hpe hj hnb
    have hL := hR.1
    obtain ⟨K, a, e, s, bits, gb, tok, fr, hs⟩ := tok_ex (n := n) (T := T) hn hTb hR h7 h8 (by omega) hp
    obtain ⟨k', hk', es⟩ := hs k (by omega)
    obtain ⟨⟨t1, t2, t3, t4, t5, t6, t7, t8, t9⟩, tc⟩ := id tok
    have hK := ks_lt t1
    -- s is small where it counts
    obtain ⟨s', hs', hsame⟩ : ∃ s', s' < 2 ^ 31 ∧ (K = 3 → s' = s) := by
      by_cases h3 : K = 3
      · exact ⟨s, by have := t6 h3; omega, fun _ => rfl⟩
      · exact ⟨0, by decide, fun z => absurd z h3⟩
    have etok : tokH gb T K a e s bits = tokH gb T K a e s' bits := by
      unfold tokH
      by_cases h3 : K = 3
      · rw [hsame h3]
      · rw [if_neg h3, if_neg h3]
    have tok' : Tok n g2 L B p K a e s' bits := by
      by_cases h3 : K = 3
      · rw [hsame h3]; exact tok
      · refine ⟨⟨t1, t2, t3, t4, t5, fun z => absurd z h3, t7, t8, t9⟩, fun gsc gt c1 c2 => ?_⟩
        obtain ⟨g', x1, x2, x3, x4, x5, x6, x7⟩ := tc gsc gt c1 c2
        exact ⟨g', x1, x2, x3, x4, x5, fun z => absurd z h3, x7⟩
    rw [etok] at es
    obtain ⟨f1, f2, f3, f4, f5, f6, f7⟩ := tokH_facts (g := g) (gb := gb) (T := T) (K := K) (a := a) (e := e) (s := s') (bits := bits) fr (by omega) (by omega) (by omega) hs'
    obtain ⟨g1, hg1⟩ : ∃ g1, g1 = tokH gb T K a e s' bits := ⟨_, rfl⟩
    rw [← hg1] at es f1 f2 f3 f4 f5 f6 f7
    have k9 : tk g1 T = K := by unfold tk; rw [f2, pk_us, nI_clamp (by omega)]
    have k10 : ta g1 T = a := by unfold ta; rw [f3, pk_us, nI_clamp (by omega)]
    have k11 : te g1 T = e := by unfold te; rw [f4, pk_us, nI_clamp (by omega)]
    have old : ∀ j, j < T → Tj n g2 L B g1 j ∧ tk g1 j = tk g j ∧ te g1 j = te g j := by
      intro j hjT
      refine ⟨(hj j hjT).same (by rw [f2, pk_un (by omega)]) (by rw [f3, pk_un (by omega)]) (by rw [f4, pk_un (by omega)]) (fun _ => by rw [f4, pk_un (by omega)]) (f5 j (by omega)).2 (f5 j (by omega)).1, ?_, ?_⟩
      · unfold tk; rw [f2, pk_un (by omega)]
      · unfold te; rw [f4, pk_un (by omega)]
    have new : Tj n g2 L B g1 T := by
      refine ⟨by rw [k9, f2, pk_us], by rw [k10, f3, pk_us], by rw [k11, f4, pk_us], fun z => ?_, ?_⟩
      · rw [k9] at z
        unfold ts; rw [(f6 z).2, nI_clamp hs']
      · have ep : (if T = 0 then 0 else te g1 (T - 1)) = p := by
          rw [hpe]
          by_cases h0 : T = 0
          · rw [if_pos h0, if_pos h0]
          · rw [if_neg h0, if_neg h0, (old (T - 1) (by omega)).2.2]
        rw [ep, k9, k10, k11]
        by_cases h3 : K = 3
        · rw [(f6 h3).1, show ts g1 T = s' by unfold ts; rw [(f6 h3).2, nI_clamp hs']]
          exact tok'
        · obtain ⟨_, tc'⟩ := tok'
          refine ⟨⟨t1, t2, t3, t4, t5, fun z => absurd z h3, t7, t8, t9⟩, fun gsc gt c1 c2 => ?_⟩
          obtain ⟨g', x1, x2, x3, x4, x5, x6, x7⟩ := tc' gsc gt c1 c2
          exact ⟨g', x1, x2, x3, x4, x5, fun z => absurd z h3, x7⟩
    have allT : ∀ j, j < T + 1 → Tj n g2 L B g1 j := by
      intro j hjT
      by_cases hq : j = T
      · rw [hq]; exact new
      · exact (old j (by omega)).1
    have esub : gI g1 8 - 1 = nI T := by rw [f1]; exact nI_pred T
    have inT : inB (nI T) 3001 = true := inB_nI (by omega) (by decide)
    have g9T : gIA g1 9 T = nI K := by rw [f2, pk_us]
    have g11T : gIA g1 11 T = nI e := by rw [f4, pk_us]
    have e157 : ∀ rec, b_X12_scan_157 n rec g1 = rec.2.1 g1 (nI e) (if K = 0 ∨ K = 1 then 0 else 1) := by
      intro rec
      unfold b_X12_scan_157 b_X12_scan_185 b_X12_scan_186
      rw [esub]
      simp only [grd_t inT, nI_clamp (show T < 2 ^ 31 by omega), g9T, g11T]
      by_cases h0 : K = 0
      · rw [if_pos (show nI K = 0 by rw [h0]; rfl), if_pos (.inl h0)]
      · rw [if_neg (nI_ne0 (by omega) (by omega))]
        by_cases h1 : K = 1
        · rw [if_pos (show nI K = 1 by rw [h1]; rfl), if_pos (.inr h1)]
        · rw [if_neg (show ¬ nI K = 1 from fun z => h1 ((nI_eq (b := 1) (by omega) (by decide)).mp z)), if_neg (by omega)]
    obtain ⟨k2, hk2⟩ : ∃ k2, k' = k2 + 1 := ⟨k' - 1, by omega⟩
    rw [es, e157, hk2]
    show ∃ g' T', h_X12_scan_50 n (L_X12_scan n k2) g1 (nI e) _ = some g' ∧ _
    unfold h_X12_scan_50
    by_cases hend : K = 0 ∨ K = 1
    · rw [if_pos hend, if_pos rfl]
      refine ⟨g1, T + 1, rfl, ⟨f1, by omega, by omega, allT, fun j hjT => ?_, ?_⟩, by omega, f7⟩
      · rw [(old j (by omega)).2.1]; exact hnb j (by omega)
      · rw [Nat.add_sub_cancel, k9]; exact hend
    · rw [if_neg hend, if_neg (show ¬ (1 : Int32) = 0 by decide)]
      have hae := t5 (fun z => hend (.inl z)) (fun z => hend (.inr z))
      obtain ⟨g', T', r1, r2, r3, r4⟩ := ih k2 e (T + 1) g1 (by omega) (by omega) t4 (by omega) (hR.fr f7 (by decide)) (by rw [show gLA g1 7 = gLA g 7 from (f7 7 (by decide)).2.2.2.2.1]; exact h7) f1 (by rw [if_neg (by omega), Nat.add_sub_cancel, k11]) allT (fun j hjT => by
        by_cases hq : j = T
        · rw [hq, k9]; exact ⟨fun z => hend (.inl z), fun z => hend (.inr z)⟩
        · rw [(old j (by omega)).2.1]; exact hnb j (by omega))
      exact ⟨g', T', r1, r2, r3, f7.trans r4⟩
/-- bytes that are bytes -/
def byt (x : Int32) : Prop := vp_nar .byte x = x
theorem copy_loop {n L : Nat} {g0 : Gs} (hL : L ≤ 3000) (hb : ∀ p, p < L → byt (gIA g0 3 p)) : ∀ (d k i : Nat) (g : Gs), i + d = L → d < k → gI g 6 = nI L → gIA g 3 = gIA g0 3 → ∃ g', (L_X12_scan n k).1 g (nI i) = (L_X12_scan n (k - d - 1)).2.1 (sI (sI g' 4 0) 8 0) 0 1 ∧ Fr [5] g g' ∧ (∀ p, p < L → gIA g' 5 p = if i ≤ p then gIA g0 3 p else gIA g 5 p) := by
  intro d
  induction d with
  | zero =>
    intro k i g hi hk h6 h3
    obtain ⟨k, rfl⟩ : ∃ z, k = z + 1 := ⟨k - 1, by omega⟩
    refine ⟨g, ?_, Fr.refl _ _, fun p hp => by rw [if_neg (by omega)]⟩
    show h_X12_scan_10 n (L_X12_scan n k) g (nI i) = _
    unfold h_X12_scan_10
    rw [h6, if_pos (nI_le (by omega) (by omega))]
    rfl
  | succ d ih =>
    intro k i g hi hk h6 h3
    obtain ⟨k, rfl⟩ : ∃ z, k = z + 1 := ⟨k - 1, by omega⟩
    obtain ⟨g', a1, a2, a3⟩ := ih k (i + 1) (sIA g 5 (upd (gIA g 5) i (gIA g0 3 i))) (by omega) (by omega) h6 h3
    refine ⟨g', ?_, (Fr.sIA (by decide) _ _).trans a2, fun p hp => ?_⟩
    · rw [show k + 1 - (d + 1) - 1 = k - d - 1 by omega, ← a1]
      show h_X12_scan_10 n (L_X12_scan n k) g (nI i) = _
      unfold h_X12_scan_10
      rw [h6, if_neg (nI_ge (by omega) (by omega)), grd_t (inB_nI (by omega) (by decide)), grd_t (inB_nI (by omega) (by decide)), nI_clamp (by omega), h3, hb i (by omega), nI_1]
    · rw [a3 p hp]
      show (if i + 1 ≤ p then _ else upd (gIA g 5) i (gIA g0 3 i) p) = _
      by_cases hq : p = i
      · rw [if_neg (by omega), hq, pk_us, if_pos (by omega)]
      · rw [pk_un hq]
        by_cases hz : i ≤ p
        · rw [if_pos (by omega), if_pos hz]
        · rw [if_neg (by omega), if_neg hz]
/-- a scan of what was fed -/
theorem scan_ok {n : Nat} {g g2 : Gs} {L : Nat} {B : Nat → Nat} (hn : 20000 ≤ n) (hTb : Tb g2) (hL : L ≤ 3000) (h4 : gI g 4 = nI L) (hb : ∀ p, p < L → byt (gIA g 3 p)) (hB : ∀ p, p < L → B p < 256 ∧ gIA g 3 p &&& 255 = nI (B p)) (h7 : ∀ k, k < 26 → gLA g 7 k = lN (Wl.getD k 0)) : ∃ g' T, f_X12_scan n g = some g' ∧ ScR n g2 L B g' T ∧ T ≤ L + 1 ∧ RefT g' L B ∧ (∀ p, p < L → gIA g' 5 p = gIA g 3 p) ∧ gI g' 4 = 0 ∧ Fr [0, 1, 2, 4, 5, 6, 8, 9, 10, 11, 12, 13] g g' := by
  obtain ⟨g1, a1, a2, a3⟩ := copy_loop (n := n) (g0 := g) hL hb L n 0 (sI g 6 (nI L)) (by omega) (by omega) rfl rfl
  obtain ⟨gs, hgs⟩ : ∃ gs, gs = sI (sI g1 4 0) 8 0 := ⟨_, rfl⟩
  have fs : Fr [4, 8] g1 gs := by rw [hgs]; exact (Fr.sI (by decide) _ _).trans (Fr.sI (by decide) _ _)
  have f1 : Fr [0, 1, 2, 4, 5, 6, 8, 9, 10, 11, 12, 13] g gs := ((Fr.sI (by decide) _ _).trans (a2.mono (by decide))).trans (fs.mono (by decide))
  have t5 : ∀ p, p < L → gIA gs 5 p = gIA g 3 p := by
    intro p hp
    rw [show gIA gs 5 = gIA g1 5 from (fs 5 (by decide)).2.2.2.1, a3 p hp, if_pos (by omega)]
  have hR : RefT gs L B := by
    refine ⟨hL, ?_, fun p hp => ⟨(hB p hp).1, by rw [t5 p hp]; exact (hB p hp).2⟩⟩
    rw [(fs 6 (by decide)).1, (a2 6 (by decide)).1]; rfl
  obtain ⟨k2, hk2⟩ : ∃ k2, n - L - 1 = k2 + 1 := ⟨n - L - 2, by omega⟩
  obtain ⟨g', T, b1, b2, b3, b4⟩ := scan_loop (n := n) (g2 := g2) (B := B) hn hTb (L + 1) k2 0 0 gs (by omega) (by omega) (by omega) (by omega) hR (by rw [show gLA gs 7 = gLA g 7 from (f1 7 (by decide)).2.2.2.2.1]; exact h7) (by rw [hgs]; rfl) rfl (fun j hj => by omega) (fun j hj => by omega)
  refine ⟨g', T, ?_, b2, b3, hR.fr b4 (by decide), ?_, ?_, f1.trans (b4.mono (by decide))⟩
  · unfold f_X12_scan
    rw [h4, show (L_X12_scan n n).1 (sI g 6 (nI L)) 0 = _ from a1, hk2, ← hgs]
    show h_X12_scan_50 n (L_X12_scan n k2) gs 0 1 = _
    unfold h_X12_scan_50
    rw [if_neg (by decide)]
    exact b1
  · intro p hp
    rw [show gIA g' 5 = gIA gs 5 from (b4 5 (by decide)).2.2.2.1, t5 p hp]
  · rw [(b4 4 (by decide)).1, hgs]; rfl
