/-! the class's stages of a number -/
def CW (g : Gs) (V D : Nat) : Prop := gI g 10 = nI D ∧ ((V < 2 ^ 63 ∧ gI g 11 = 0 ∧ gL g 8 = lN V) ∨ (2 ^ 63 ≤ V ∧ gI g 11 = 1))
theorem dg_cls {n : Nat} {gt : Gs} {L : Nat} {B : Nat → Nat} : ∀ (m k p V D : Nat) (gsc : Gs), ClsT gsc gt L B → p + m ≤ 4000 → D + m ≤ 100000 → m < k → (∀ i, i < m → isD (rc L B (p + i)) = true) → isD (rc L B (p + m)) = false → CW gsc V D → ∃ g', L_X7_readDigits n k gsc gt (nI p) = some (nI (p + m), g') ∧ CW g' (da (rc L B) p V m) (D + m) ∧ Fr [8, 10, 11] gsc g' := by
  -- one digit more at the front
  have dc : ∀ (C : Nat → Nat) (p V : Nat) (m : Nat), da C p V (m + 1) = da C (p + 1) (V * 10 + (C p - 48)) m := by
    intro C p V m
    induction m with
    | zero => rfl
    | succ m ih =>
      show da C p V (m + 1) * 10 + (C (p + (m + 1)) - 48) = da C (p + 1) (V * 10 + (C p - 48)) m * 10 + (C (p + 1 + m) - 48)
      rw [ih, show p + (m + 1) = p + 1 + m by omega]
  intro m
  induction m with
  | zero =>
    intro k p V D gsc h hp hD hk _ he hc
    obtain ⟨k, rfl⟩ : ∃ q, k = q + 1 := ⟨k - 1, by omega⟩
    have hL := h.1
    refine ⟨gsc, ?_, hc, Fr.refl _ _⟩
    show h_X7_readDigits_2 n (L_X7_readDigits n k) gsc gt (nI p) = _
    unfold h_X7_readDigits_2
    rw [h.2.1]
    by_cases hq : L ≤ p
    · rw [if_pos (nI_le hq (by omega))]; rfl
    · obtain ⟨x, x1, x2, x3⟩ := by7 h (p := p) (by omega)
      rw [Nat.add_zero] at he
      rw [if_neg (nI_ge (by omega) (by omega)), bnd_s x1, bnd_s (dig7 x2), he, sgB_if, if_neg (by decide)]; rfl
  | succ m ih =>
    intro k p V D gsc h hp hD hk hd he hc
    obtain ⟨k, rfl⟩ : ∃ q, k = q + 1 := ⟨k - 1, by omega⟩
    have hL := h.1
    have hD0 := hd 0 (by omega)
    rw [Nat.add_zero] at hD0
    have hpL := isD_lt hD0
    have hr := isD_range hD0
    have hlt := h.lt p
    obtain ⟨x, x1, x2, x3⟩ := by7 h (p := p) (by omega)
    have xe : x = nI (rc L B p) := by rw [rc_in hpL]; exact x3 hpL
    have esub : nI (rc L B p) - (48 : Int32) = nI (rc L B p - 48) := nI_sub (a := rc L B p) (b := 48) hr.1
    obtain ⟨c1, c2⟩ := hc
    obtain ⟨g1, f1, f2, f3⟩ : ∃ g1, (if (gL gsc 8) ≤ (((9223372036854775807 : Int64) - ((nI (rc L B p - 48)).toInt64)) / (10 : Int64)) then (b_X7_readDigits_71 n (L_X7_readDigits n k) (sL gsc 8 (((gL gsc 8) * (10 : Int64)) + ((nI (rc L B p - 48)).toInt64))) gt (nI p)) else (b_X7_readDigits_71 n (L_X7_readDigits n k) (sI gsc 11 (1 : Int32)) gt (nI p))) = L_X7_readDigits n k g1 gt (nI (p + 1)) ∧ CW g1 (V * 10 + (rc L B p - 48)) (D + 1) ∧ Fr [8, 10, 11] gsc g1 := by
      unfold b_X7_readDigits_71
      rw [nI_1]
      obtain ⟨d, hdd⟩ : ∃ d, rc L B p - 48 = d := ⟨_, rfl⟩
      rw [hdd]
      rcases c2 with ⟨j1, j2, j3⟩ | ⟨j1, j2⟩
      · rw [j3]
        by_cases hf : V * 10 + d < 2 ^ 63
        · rw [if_pos ((dig_fits j1 (by omega)).mpr hf)]
          refine ⟨_, rfl, ⟨?_, .inl ⟨hf, j2, ?_⟩⟩, (Fr.sL (by decide) _ _).trans (Fr.sI (by decide) _ _)⟩
          · show gI gsc 10 + 1 = _; rw [c1, nI_1]
          · show lN V * 10 + (nI d).toInt64 = _
            rw [Int64.mul_comm]; exact (lN_mul10 (V := V) (d := d)).resolve_right (by omega)
        · rw [if_neg (fun z => hf ((dig_fits j1 (by omega)).mp z))]
          refine ⟨_, rfl, ⟨?_, .inr ⟨by omega, rfl⟩⟩, (Fr.sI (by decide) _ _).trans (Fr.sI (by decide) _ _)⟩
          show gI gsc 10 + 1 = _; rw [c1, nI_1]
      · split
        · refine ⟨_, rfl, ⟨?_, .inr ⟨by omega, j2⟩⟩, (Fr.sL (by decide) _ _).trans (Fr.sI (by decide) _ _)⟩
          show gI gsc 10 + 1 = _; rw [c1, nI_1]
        · refine ⟨_, rfl, ⟨?_, .inr ⟨by omega, rfl⟩⟩, (Fr.sI (by decide) _ _).trans (Fr.sI (by decide) _ _)⟩
          show gI gsc 10 + 1 = _; rw [c1, nI_1]
    obtain ⟨g', i1, i2, i3⟩ := ih k (p + 1) _ (D + 1) g1 (h.fr f3 (by decide)) (by omega) (by omega) (by omega) (fun i hi => by have := hd (i + 1) (by omega); rw [show p + 1 + i = p + (i + 1) by omega]; exact this) (by rw [show p + 1 + m = p + (m + 1) by omega]; exact he) f2
    refine ⟨g', ?_, ?_, f3.trans i3⟩
    · show h_X7_readDigits_2 n (L_X7_readDigits n k) gsc gt (nI p) = _
      unfold h_X7_readDigits_2
      rw [h.2.1, if_neg (nI_ge hpL (by omega)), bnd_s x1, bnd_s (dig7 x2), hD0, sgB_if, if_pos rfl, bnd_s x1, xe, esub, f1, i1, show p + 1 + m = p + (m + 1) by omega]
    · rw [dc, show D + (m + 1) = D + 1 + m by omega]; exact i2
theorem st1_cls {n : Nat} {gsc gt g2 : Gs} {L f d1 s t q0 E : Nat} {B : Nat → Nat} {pt pw mn : Bool} (hn : 5000 ≤ n) (h : ClsT gsc gt L B) (h3 : gI gsc 3 = nI f) (hN : NumS L B f d1 s t q0 E pt pw mn) : ∃ g1, CW g1 (nVal L B f d1 s pt) (d1 - f + nBeh d1 s pt) ∧ gI g1 4 = 1 ∧ Fr [4, 8, 10, 11] gsc g1 ∧ f_X7_readNumber n gsc gt g2 = if pt = true ∧ s = d1 + 1 then some g1 else b_X7_readNumber_62 n (L_X7_readNumber n n) g1 gt g2 (nI s) (nI (nBeh d1 s pt)) := by
  have hL := h.1
  obtain ⟨l1, l2, l3, l4, l5, l6⟩ := hN.le
  obtain ⟨⟨n1, n2, n3⟩, n4, n5⟩ := hN
  obtain ⟨g0, hg0⟩ : ∃ g0, g0 = sI (sI (sL (sI gsc 4 (1 : Int32)) 8 (0 : Int64)) 10 (0 : Int32)) 11 (0 : Int32) := ⟨_, rfl⟩
  have f0 : Fr [4, 8, 10, 11] gsc g0 := by rw [hg0]; exact (((Fr.sI (by decide) _ _).trans (Fr.sL (by decide) _ _)).trans (Fr.sI (by decide) _ _)).trans (Fr.sI (by decide) _ _)
  have k4 : gI g0 4 = 1 := by rw [hg0]; rfl
  have c0 : CW g0 0 0 := by rw [hg0]; exact ⟨rfl, .inl ⟨by decide, rfl, rfl⟩⟩
  obtain ⟨ga, a1, a2, a3⟩ := dg_cls (n := n) (gt := gt) (d1 - f) n f 0 0 g0 (h.fr f0 (by decide)) (by omega) (by omega) (by omega) (fun i hi => n2 _ (by omega) (by omega)) (by rw [show f + (d1 - f) = d1 by omega]; exact n3) c0
  rw [show f + (d1 - f) = d1 by omega] at a1
  rw [Nat.zero_add] at a2
  have fa : Fr [4, 8, 10, 11] gsc ga := f0.trans (a3.mono (by decide))
  have ka : gI ga 4 = 1 := by rw [(a3 4 (by decide)).1]; exact k4
  have ha := h.fr fa (by decide)
  obtain ⟨x, x1, x2, x3⟩ := by7 ha (p := d1) (by omega)
  unfold f_X7_readNumber
  rw [← hg0, h3, bnd_s (show f_X7_readDigits n g0 gt (nI f) = some (nI d1, ga) from a1), bnd_s x1]
  rcases n4 with ⟨rfl, p1, p2, p3, p4⟩ | ⟨rfl, p1, p2⟩
  · have e46 : x = 46 := (x2.eq (k := 46) (by decide) (by decide)).mpr p1
    obtain ⟨gb, b1, b2, b3⟩ := dg_cls (n := n) (gt := gt) (s - (d1 + 1)) n (d1 + 1) _ (d1 - f) ga ha (by omega) (by omega) (by omega) (fun i hi => p3 _ (by omega) (by omega)) (by rw [show d1 + 1 + (s - (d1 + 1)) = s by omega]; exact p4) a2
    rw [show d1 + 1 + (s - (d1 + 1)) = s by omega] at b1
    rw [if_pos e46, nI_1, bnd_s (show f_X7_readDigits n ga gt (nI (d1 + 1)) = some (nI s, gb) from b1)]
    refine ⟨gb, b2, by rw [(b3 4 (by decide)).1]; exact ka, fa.trans (b3.mono (by decide)), ?_⟩
    have esub : nI s - nI d1 - (1 : Int32) = nI (s - (d1 + 1)) := by
      rw [nI_sub (by omega), show (1 : Int32) = nI 1 from rfl, nI_sub (by omega), show s - d1 - 1 = s - (d1 + 1) by omega]
    show (if (nI s - nI d1 - (1 : Int32)) = 0 then some gb else b_X7_readNumber_62 n (L_X7_readNumber n n) gb gt g2 (nI s) (nI s - nI d1 - (1 : Int32))) = _
    rw [esub]
    by_cases hq : s = d1 + 1
    · rw [if_pos (show true = true ∧ s = d1 + 1 from ⟨rfl, hq⟩), hq, show d1 + 1 - (d1 + 1) = 0 by omega]; rfl
    · rw [if_neg (show ¬ nI (s - (d1 + 1)) = 0 from nI_ne0 (by omega) (by omega)), if_neg (show ¬ (true = true ∧ s = d1 + 1) from fun z => hq z.2)]; rfl
  · subst p2
    have e46 : ¬ x = 46 := fun z => p1 ((x2.eq (k := 46) (by decide) (by decide)).mp z)
    rw [if_neg e46]
    refine ⟨ga, ?_, ka, fa, ?_⟩
    · unfold nVal nBeh; exact a2
    · rw [if_neg (show ¬ (false = true ∧ s = s + 1) from fun z => absurd z.1 (by decide))]; rfl
def CU (v : Int32) (E : Nat) : Prop := (E ≤ 1100 ∧ v = nI E) ∨ (1100 < E ∧ v = nI 1101)
theorem up_cls {n : Nat} {gsc gt g2 : Gs} {L : Nat} {B : Nat → Nat} (h : ClsT gsc gt L B) {v2 v3 v5 v6 : Int32} : ∀ (m k p E : Nat) (v4 : Int32), p + m ≤ 4000 → m ≤ k → (∀ i, i < m → isD (rc L B (p + i)) = true) → CU v4 E → ∃ v4', L_X7_readNumber n k gsc gt g2 (nI p) v2 v3 v4 v5 v6 = L_X7_readNumber n (k - m) gsc gt g2 (nI (p + m)) v2 v3 v4' v5 v6 ∧ CU v4' (da (rc L B) p E m) := by
  have hL := h.1
  intro m
  induction m with
  | zero => intro k p E v4 _ _ _ hu; exact ⟨v4, rfl, hu⟩
  | succ m ih =>
    intro k p E v4 hp hk hd hu
    obtain ⟨u, i1, i2⟩ := ih k p E v4 (by omega) (by omega) (fun i hi => hd i (by omega)) hu
    rw [i1]
    obtain ⟨k', hk'⟩ : ∃ k', k - m = k' + 1 := ⟨k - m - 1, by omega⟩
    rw [hk', show k - (m + 1) = k' by omega]
    have hD := hd m (by omega)
    have hr := isD_range hD
    have hpL := isD_lt hD
    obtain ⟨x, x1, x2, x3⟩ := by7 h (p := p + m) (by omega)
    have xe : x = nI (rc L B (p + m)) := by rw [rc_in hpL]; exact x3 hpL
    show ∃ v4', h_X7_readNumber_121 n (L_X7_readNumber n k') gsc gt g2 (nI (p + m)) v2 v3 u v5 v6 = _ ∧ CU v4' (da (rc L B) p E m * 10 + (rc L B (p + m) - 48))
    unfold h_X7_readNumber_121
    rw [h.2.1, if_neg (nI_ge hpL (by omega)), bnd_s x1, bnd_s (dig7 x2), hD, sgB_if, if_pos rfl, bnd_s x1, xe, show nI (p + m) + 1 = nI (p + (m + 1)) from nI_1 _]
    obtain ⟨c, hc⟩ : ∃ c, rc L B (p + m) = c := ⟨_, rfl⟩
    obtain ⟨W, hW⟩ : ∃ W, da (rc L B) p E m = W := ⟨_, rfl⟩
    rw [hW] at i2 ⊢
    rw [hc] at hr ⊢
    have ev : ∀ q, q ≤ 100000 → (nI q * (10 : Int32) + nI c) - (48 : Int32) = nI (q * 10 + (c - 48)) := by
      intro q hq
      rw [show (10 : Int32) = nI 10 from rfl, pk_mul, nI_add, show (48 : Int32) = nI 48 from rfl, nI_sub (by omega)]
      congr 1; omega
    refine ⟨_, rfl, ?_⟩
    rcases i2 with ⟨j1, rfl⟩ | ⟨j1, rfl⟩
    · rw [ev W (by omega)]
      by_cases hE : W * 10 + (c - 48) ≤ 1100
      · rw [if_neg (show ¬ (1101 : Int32) < nI (W * 10 + (c - 48)) from nI_nlt (a := 1101) (by omega) (by decide))]
        exact .inl ⟨hE, rfl⟩
      · refine .inr ⟨by omega, ?_⟩
        by_cases h2 : 1101 < W * 10 + (c - 48)
        · rw [if_pos (show (1101 : Int32) < nI (W * 10 + (c - 48)) from nI_lt (a := 1101) h2 (by omega))]; rfl
        · rw [if_neg (show ¬ (1101 : Int32) < nI (W * 10 + (c - 48)) from nI_nlt (a := 1101) (by omega) (by omega))]
          congr 1; omega
    · rw [ev 1101 (by omega), if_pos (show (1101 : Int32) < nI (1101 * 10 + (c - 48)) from nI_lt (a := 1101) (by omega) (by omega))]
      exact .inr ⟨by omega, rfl⟩
theorem st2_cls {n : Nat} {gsc gt g2 : Gs} {L f d1 s t q0 E : Nat} {B : Nat → Nat} {pt pw mn : Bool} {v2 : Int32} (hn : 5000 ≤ n) (h : ClsT gsc gt L B) (hN : NumS L B f d1 s t q0 E pt pw mn) : (pw = true ∧ (t = q0 ∨ 1100 < E) → b_X7_readNumber_62 n (L_X7_readNumber n n) gsc gt g2 (nI s) v2 = some gsc) ∧ (¬ (pw = true ∧ (t = q0 ∨ 1100 < E)) → ∃ rec, b_X7_readNumber_62 n (L_X7_readNumber n n) gsc gt g2 (nI s) v2 = b_X7_readNumber_198 n rec gsc gt g2 (nI t) v2 (if pw = true then 1 else 0) (sgE mn E)) := by
  have hL := h.1
  obtain ⟨l1, l2, l3, l4, l5, l6⟩ := hN.le
  obtain ⟨_, _, n5⟩ := hN
  obtain ⟨x, x1, x2, x3⟩ := by7 h (p := s) (by omega)
  unfold b_X7_readNumber_62
  rw [bnd_s x1]
  rcases n5 with ⟨rfl, p1, p2, p3, p4, p5, p6⟩ | ⟨rfl, p1, p2, p3, p4, p5⟩
  · have hq0 : s + 1 ≤ q0 ∧ q0 ≤ s + 2 := by rcases p2 with ⟨_, _, b⟩ | ⟨_, _, b⟩ <;> omega
    rw [if_pos (show x = (112 : Int32) from (x2.eq (k := 112) (by decide) (by decide)).mpr p1)]
    unfold b_X7_readNumber_77
    obtain ⟨y, y1, y2, y3⟩ := by7 h (p := s + 1) (by omega)
    rw [if_neg (show ¬ (1 : Int32) = 0 by decide), nI_1, bnd_s y1]
    have e1 : (if y = (45 : Int32) then (b_X7_readNumber_102 n (L_X7_readNumber n n) gsc gt g2 (nI s) v2 1 0 1) else (b_X7_readNumber_102 n (L_X7_readNumber n n) gsc gt g2 (nI s) v2 1 0 0)) = L_X7_readNumber n n gsc gt g2 (nI q0) v2 1 0 (if mn = true then 1 else 0) (nI q0) := by
      unfold b_X7_readNumber_102 b_X7_readNumber_115
      rcases p2 with ⟨rfl, b1, b2⟩ | ⟨rfl, b1, b2⟩
      · rw [if_pos (show y = (45 : Int32) from (y2.eq (k := 45) (by decide) (by decide)).mpr b1), if_neg (show ¬ (1 : Int32) = 0 by decide), if_pos rfl, show nI s + 2 = nI q0 by rw [b2]; exact nI_add s 2]
      · rw [if_neg (show ¬ y = (45 : Int32) from fun z => b1 ((y2.eq (k := 45) (by decide) (by decide)).mp z)), if_pos rfl, if_neg (by decide), show nI s + 1 = nI q0 by rw [b2]; exact nI_1 s]
    rw [e1]
    obtain ⟨v4, u1, u2⟩ := up_cls (n := n) (gsc := gsc) (gt := gt) (g2 := g2) h (v2 := v2) (v3 := 1) (v5 := if mn = true then 1 else 0) (v6 := nI q0) (t - q0) n q0 0 0 (by omega) (by omega) (fun i hi => p4 _ (by omega) (by omega)) (.inl ⟨by decide, rfl⟩)
    rw [show q0 + (t - q0) = t by omega] at u1
    rw [← p6] at u2
    obtain ⟨k1, hk1⟩ : ∃ k1, n - (t - q0) = k1 + 1 := ⟨n - (t - q0) - 1, by omega⟩
    rw [hk1] at u1
    have e2 : L_X7_readNumber n (k1 + 1) gsc gt g2 (nI t) v2 1 v4 (if mn = true then 1 else 0) (nI q0) = b_X7_readNumber_168 n (L_X7_readNumber n k1) gsc gt g2 (nI t) v2 1 v4 (if mn = true then 1 else 0) (nI q0) := by
      show h_X7_readNumber_121 n (L_X7_readNumber n k1) gsc gt g2 (nI t) v2 1 v4 _ (nI q0) = _
      unfold h_X7_readNumber_121
      rw [h.2.1]
      by_cases hq : L ≤ t
      · rw [if_pos (nI_le hq (by omega))]
      · obtain ⟨z, z1, z2, z3⟩ := by7 h (p := t) (by omega)
        rw [if_neg (nI_ge (by omega) (by omega)), bnd_s z1, bnd_s (dig7 z2), p5, sgB_if, if_neg (by decide)]
    rw [show L_X7_readNumber n n gsc gt g2 (nI q0) v2 1 0 (if mn = true then 1 else 0) (nI q0) = _ from u1, e2]
    unfold b_X7_readNumber_168 b_X7_readNumber_196
    constructor
    · intro hb
      by_cases hq : t = q0
      · rw [if_pos (by rw [hq])]
      · rw [if_neg (fun z => hq ((nI_eq (by omega) (by omega)).mp z))]
        rcases u2 with ⟨j1, _⟩ | ⟨j1, rfl⟩
        · rcases hb.2 with hb | hb <;> omega
        · rw [if_neg (show ¬ nI 1101 ≤ (1100 : Int32) by decide)]
    · intro hb
      have hq : ¬ t = q0 := fun z => hb ⟨rfl, .inl z⟩
      rcases u2 with ⟨j1, rfl⟩ | ⟨j1, _⟩
      · rw [if_neg (fun z => hq ((nI_eq (by omega) (by omega)).mp z)), if_pos (show nI E ≤ (1100 : Int32) from nI_le (b := 1100) j1 (by decide))]
        refine ⟨L_X7_readNumber n k1, ?_⟩
        unfold sgE
        cases mn <;> rfl
      · exact absurd ⟨rfl, .inr j1⟩ hb
  · subst p3 p2 p5
    rw [if_neg (show ¬ x = (112 : Int32) from fun z => p1 ((x2.eq (k := 112) (by decide) (by decide)).mp z))]
    unfold b_X7_readNumber_77
    rw [if_pos rfl]
    exact ⟨fun z => absurd z.1 (by decide), fun _ => ⟨L_X7_readNumber n n, rfl⟩⟩
