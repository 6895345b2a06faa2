/-! reals in a text, on both sides -/
theorem Fr.sD {A : List Nat} {k : Nat} (h : k ∈ A) (g : Gs) (v : UInt64) : Fr A g (sD g k v) := fun j hj => ⟨rfl, rfl, va_up_ne _ _ (fun z => hj (z ▸ h)), rfl, rfl, rfl, rfl⟩
theorem n32_of {r : UInt32} (h : Jvm.FP.Core.val32 r ≠ .nan) : n32 r = true := by
  unfold n32
  refine decide_eq_true ?_
  rw [UInt32.le_iff_toNat_le, Jvm.FP.Core.mask_toNat32]
  exact (Jvm.FP.Core.ne_nan32 _).mp h
theorem ten_ref {n : Nat} {g : Gs} {w : Int64} {b : Nat} {p s : Int32} (hb : b ≤ 15) : ∀ (d k i : Nat), i + d = b → d < k → L_X12_realOf n k g w (nI b) p s (tenf i) (nI i) = (grd (n64 (FP.ddiv (FP.l2d w) (tenf b))) (bnd (f_Jxe99ae_doubleToLongBits_ccdee (FP.ddiv (FP.l2d w) (tenf b))) (fun q_2 => bnd (f_X12_open g q_2 (7 : Int32)) (fun q_4 => bnd (f_X12_made n (0 : Int32) (gL q_4 1) ((gI q_4 2) + p) (7 : Int32)) (fun q_6 => if q_6 = (9223372036854775807 : Int64) then (some (q_6, q_4)) else (if s = (7 : Int32) then (some (q_6, q_4)) else (bnd (f_X12_become n q_4 q_6 (7 : Int32) (6 : Int32)) (fun q_8 => some (q_8.1, q_8.2))))))))) := by
  intro d
  induction d with
  | zero =>
    intro k i hi hk
    obtain ⟨k, rfl⟩ : ∃ q, k = q + 1 := ⟨k - 1, by omega⟩
    show h_X12_realOf_6 n (L_X12_realOf n k) g w (nI b) p s (tenf i) (nI i) = _
    unfold h_X12_realOf_6
    rw [if_pos (nI_le (by omega) (by omega)), show i = b by omega]
  | succ d ih =>
    intro k i hi hk
    obtain ⟨k, rfl⟩ : ∃ q, k = q + 1 := ⟨k - 1, by omega⟩
    show h_X12_realOf_6 n (L_X12_realOf n k) g w (nI b) p s (tenf i) (nI i) = _
    unfold h_X12_realOf_6
    have d1 := dv_tenf (i + 1) (by omega)
    rw [if_neg (nI_ge (by omega) (by omega)), grd_t (show n64 (FP.dmul (tenf i) 4621819117588971520) = true from d1.n64), nI_1]
    exact ih k (i + 1) (by omega) (by omega)
theorem ten_cls {n : Nat} {gsc gt g2 : Gs} {b : Nat} {x p : Int32} (hb : b ≤ 15) : ∀ (d k i : Nat), i + d = b → d < k → L_X7_settleReal n k gsc gt g2 x (nI b) p (tenf i) (nI i) = b_X7_settleReal_56 n (L_X7_settleReal n (k - d - 1)) gsc gt g2 p (tenf b) (if x = 102 then 6 else 7) := by
  intro d
  induction d with
  | zero =>
    intro k i hi hk
    obtain ⟨k, rfl⟩ : ∃ q, k = q + 1 := ⟨k - 1, by omega⟩
    show h_X7_settleReal_22 n (L_X7_settleReal n k) gsc gt g2 x (nI b) p (tenf i) (nI i) = _
    unfold h_X7_settleReal_22
    rw [if_pos (nI_le (by omega) (by omega)), show i = b by omega]
    by_cases hx : x = 102
    · rw [if_pos hx, if_pos hx]; rfl
    · rw [if_neg hx, if_neg hx]; rfl
  | succ d ih =>
    intro k i hi hk
    obtain ⟨k, rfl⟩ : ∃ q, k = q + 1 := ⟨k - 1, by omega⟩
    show h_X7_settleReal_22 n (L_X7_settleReal n k) gsc gt g2 x (nI b) p (tenf i) (nI i) = _
    unfold h_X7_settleReal_22
    have d1 := dv_tenf (i + 1) (by omega)
    rw [if_neg (nI_ge (by omega) (by omega)), grd_t (show n64 (FP.dmul (tenf i) 4621819117588971520) = true from d1.n64), nI_1, show k + 1 - (d + 1) - 1 = k - d - 1 by omega]
    exact ih k (i + 1) (by omega) (by omega)
theorem fin_ne_over {r : UInt64} {s : Bool} {v : Nat} (h : Dv r s v) : r.toInt64 ≠ 9223372036854775807 := by
  intro z
  have h1 := h.lt
  have h2 : uL r.toInt64 = r.toNat := uL_ofU r
  rw [z, show uL 9223372036854775807 = 9223372036854775807 by decide] at h2
  omega
theorem real_ref {n : Nat} {g g2 : Gs} {w b : Nat} {p : Int32} {U : Int} {s : Nat} (hn : 3000 ≤ n) (hTb : Tb g2) (hw : w < 10 ^ 15) (hb : b ≤ 15) (hp : p.toInt = U) (h1 : -1100 ≤ U) (h2 : U ≤ 1100) (hs : s = 6 ∨ s = 7) : ∃ bits gb r, f_X12_realOf n g (lN w) (nI b) p (nI s) = some (bits, gb) ∧ Fr [0, 1, 2] g gb ∧ n64 (FP.ddiv (FP.l2d (lN w)) (tenf b)) = true ∧ f_X6_scaled g2 (FP.ddiv (FP.l2d (lN w)) (tenf b)) p = some r ∧ Jvm.FP.Core.val64 r ≠ .nan ∧
    ((bits ≠ 9223372036854775807 ∧ (s = 7 → VR 7 bits 0 r) ∧ (s = 6 → VR 6 bits 0 (FP.f2d (FP.d2f r)))) ∨ (bits = 9223372036854775807 ∧ (s = 7 → fin64 r.toInt64 = false) ∧ (s = 6 → Jvm.FP.Core.val64 (FP.f2d (FP.d2f r)) = .inf false))) := by
  obtain ⟨X, x1, x2, x3, x4⟩ := lit_quot hw hb
  obtain ⟨r, bits, gb, y1, ⟨c, e, y2, y3, y4, y5⟩, y6, y7⟩ := lit_scaled (n := n) (g := g) (g2 := g2) (by omega) hTb x1 (by
    by_cases h0 : w = 0
    · exact .inl (x2 h0)
    · exact .inr (x3 (by omega))) x4 hp h1 h2
  have nn : Jvm.FP.Core.val64 r ≠ .nan := by
    rcases y7 with ⟨v, v1, _⟩ | ⟨v1, _⟩
    · exact v1.ne_nan
    · rw [v1]; intro z; cases z
  have e0 : f_X12_realOf n g (lN w) (nI b) p (nI s) = if bits = (9223372036854775807 : Int64) then (some (bits, gb)) else (if nI s = (7 : Int32) then (some (bits, gb)) else (bnd (f_X12_become n gb bits (7 : Int32) (6 : Int32)) (fun q_8 => some (q_8.1, q_8.2)))) := by
    unfold f_X12_realOf
    have := ten_ref (n := n) (g := g) (w := lN w) (p := p) (s := nI s) hb b n 0 (by omega) (by omega)
    rw [show L_X12_realOf n n g (lN w) (nI b) p (nI s) FP.dconst1 0 = _ from this, grd_t x1.n64, bnd_s (bitsOfD x1.ne_nan), bnd_s y2, y3, y4, bnd_s y5]
  rw [e0]
  rcases y7 with ⟨v, v1, v2⟩ | ⟨v1, v2⟩
  · have hne : bits ≠ 9223372036854775807 := by rw [v2]; exact fin_ne_over v1
    rw [if_neg hne]
    rcases hs with rfl | rfl
    · rw [if_neg (by decide)]
      have v1' : Dv bits.toUInt64 false v := by rw [v2]; simpa using v1
      obtain ⟨r6, g6, b1, b2, b3⟩ := become76 (n := n) (g := gb) (by omega) v1'
      rw [bnd_s b1]
      have er : bits.toUInt64 = r := by rw [v2]; simp
      rw [er] at b3
      refine ⟨_, _, r, rfl, y6.fr.trans b2.fr, x1.n64, y1, nn, ?_⟩
      rcases b3 with ⟨u, u1, u2⟩ | ⟨u1, u2⟩
      · exact .inl ⟨u1.ne_over, fun z => absurd z (by decide), fun _ => VR.six.mpr ⟨_, _, u1, u2⟩⟩
      · exact .inr ⟨u1, fun z => absurd z (by decide), fun _ => u2⟩
    · rw [if_pos (show nI 7 = 7 from rfl)]
      refine ⟨_, _, r, rfl, y6.fr, x1.n64, y1, nn, .inl ⟨hne, fun _ => VR.seven.mpr ⟨by rw [v2]; simp, _, _, v1⟩, fun z => absurd z (by decide)⟩⟩
  · rw [if_pos v2]
    refine ⟨_, _, r, rfl, y6.fr, x1.n64, y1, nn, .inr ⟨v2, fun _ => not_fin_inf v1, fun _ => val_inf_f2d ?_⟩⟩
    rw [jd2f nn, v1]
    rfl
theorem real_cls {n : Nat} {gsc gt g2 : Gs} {w b D : Nat} {p x r : Int32} {s : Nat} {bits : Int64} {R : UInt64} (hn : 3000 ≤ n) (hb : b ≤ 15) (hx : x ≠ 108) (hs : s = if x = 102 then 6 else 7) (h8 : gL gsc 8 = lN w) (h10 : gI gsc 10 = nI D) (hD : D ≤ 15) (q1 : n64 (FP.ddiv (FP.l2d (lN w)) (tenf b)) = true) (q2 : f_X6_scaled g2 (FP.ddiv (FP.l2d (lN w)) (tenf b)) p = some R) (q3 : Jvm.FP.Core.val64 R ≠ .nan)
    (q4 : (bits ≠ 9223372036854775807 ∧ (s = 7 → VR 7 bits 0 R) ∧ (s = 6 → VR 6 bits 0 (FP.f2d (FP.d2f R)))) ∨ (bits = 9223372036854775807 ∧ (s = 7 → fin64 R.toInt64 = false) ∧ (s = 6 → Jvm.FP.Core.val64 (FP.f2d (FP.d2f R)) = .inf false))) : ∃ g', f_X7_settleReal n gsc gt g2 x (nI b) p = some g' ∧ Fr [4, 7, 8, 9] gsc g' ∧ ((bits ≠ 9223372036854775807 ∧ gI g' 4 = 3 ∧ gI g' 7 = nI s ∧ VR s bits (gL g' 8) (gD g' 9)) ∨ (bits = 9223372036854775807 ∧ gI g' 4 = gI gsc 4)) := by
  unfold f_X7_settleReal
  have l := ten_cls (n := n) (gsc := gsc) (gt := gt) (g2 := g2) (x := x) (p := p) hb b n 0 (by omega) (by omega)
  rw [if_neg hx, h10, if_pos (show nI D ≤ (15 : Int32) from nI_le (b := 15) hD (by decide)), show L_X7_settleReal n n gsc gt g2 x (nI b) p FP.dconst1 0 = _ from l]
  unfold b_X7_settleReal_56
  rw [h8, grd_t q1, bnd_s q2]
  have fin : ∀ (g1 : Gs) (z : UInt64), gD g1 9 = z → Jvm.FP.Core.val64 z ≠ .nan → b_X7_settleReal_98 n (L_X7_settleReal n (n - b - 1)) g1 gt g2 = some (if fin64 z.toInt64 = true then sI (sL g1 8 0) 4 3 else sL g1 8 0) := by
    intro g1 z hz hnn
    unfold b_X7_settleReal_98
    rw [hz, bnd_s (isBeyond6 hnn), sgB_if]
    by_cases hf : fin64 z.toInt64 = true
    · rw [hf]; rfl
    · rw [Bool.not_eq_true] at hf
      rw [hf]; rfl
  by_cases hx2 : x = 102
  · rw [if_pos hx2] at hs ⊢
    subst hs
    have n32v : Jvm.FP.Core.val32 (FP.d2f R) ≠ .nan := by rw [jd2f q3]; exact fun z => q3 (Jvm.FP.Core.round_nan.mp z)
    have nn2 : Jvm.FP.Core.val64 (FP.f2d (FP.d2f R)) ≠ .nan := by rw [jf2d n32v]; exact fun z => n32v (Jvm.FP.Core.round_nan.mp z)
    rw [if_pos rfl, grd_t (n32_of n32v), grd_t (n64_of nn2), fin _ (FP.f2d (FP.d2f R)) rfl nn2]
    rcases q4 with ⟨a1, _, a3⟩ | ⟨a1, _, a3⟩
    · have v6 := a3 rfl
      obtain ⟨sg, u, f1, f2⟩ := VR.six.mp v6
      have hf : fin64 (FP.f2d (FP.d2f R)).toInt64 = true := Dv.fin64 (by simpa using f2)
      rw [if_pos hf]
      exact ⟨_, rfl, ((((Fr.sI (by decide) _ _).trans (Fr.sD (by decide) _ _)).trans (Fr.sD (by decide) _ _)).trans (Fr.sL (by decide) _ _)).trans (Fr.sI (by decide) _ _), .inl ⟨a1, rfl, rfl, VR.six.mpr ⟨sg, u, f1, f2⟩⟩⟩
    · have hf : ¬ fin64 (FP.f2d (FP.d2f R)).toInt64 = true := by rw [not_fin_inf (a3 rfl)]; decide
      rw [if_neg hf]
      exact ⟨_, rfl, (((Fr.sI (by decide) _ _).trans (Fr.sD (by decide) _ _)).trans (Fr.sD (by decide) _ _)).trans (Fr.sL (by decide) _ _), .inr ⟨a1, rfl⟩⟩
  · rw [if_neg hx2] at hs ⊢
    subst hs
    rw [if_neg (by decide), fin _ R rfl q3]
    rcases q4 with ⟨a1, a2, _⟩ | ⟨a1, a2, _⟩
    · have v7 := a2 rfl
      obtain ⟨f1, sg, u, f2⟩ := VR.seven.mp v7
      have hf : fin64 R.toInt64 = true := Dv.fin64 (by simpa using f2)
      rw [if_pos hf]
      exact ⟨_, rfl, (((Fr.sI (by decide) _ _).trans (Fr.sD (by decide) _ _)).trans (Fr.sL (by decide) _ _)).trans (Fr.sI (by decide) _ _), .inl ⟨a1, rfl, rfl, VR.seven.mpr ⟨f1, sg, u, f2⟩⟩⟩
    · have hf : ¬ fin64 R.toInt64 = true := by rw [a2 rfl]; decide
      rw [if_neg hf]
      exact ⟨_, rfl, ((Fr.sI (by decide) _ _).trans (Fr.sD (by decide) _ _)).trans (Fr.sL (by decide) _ _), .inr ⟨a1, rfl⟩⟩
