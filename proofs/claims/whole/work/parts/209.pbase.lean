/-! plans' texts: tokens told from another state, what both sides take or refuse -/
theorem tok_same {X : List Nat} {G G1 : Gs} (hf : Fr X G G1) (hX : 8 ∉ X ∧ 9 ∉ X ∧ 10 ∉ X ∧ 11 ∉ X ∧ 12 ∉ X ∧ 13 ∉ X) : tk G1 = tk G ∧ ta G1 = ta G ∧ te G1 = te G ∧ ts G1 = ts G ∧ gLA G1 12 = gLA G 12 := by
  refine ⟨?_, ?_, ?_, ?_, (hf 12 hX.2.2.2.2.1).2.2.2.2.1⟩
  · unfold tk; rw [(hf 9 hX.2.1).2.2.2.1]
  · unfold ta; rw [(hf 10 hX.2.2.1).2.2.2.1]
  · unfold te; rw [(hf 11 hX.2.2.2.1).2.2.2.1]
  · unfold ts; rw [(hf 13 hX.2.2.2.2.2).2.2.2.1]
theorem ScR.base {X : List Nat} {n L T : Nat} {g2 G G1 : Gs} {B : Nat → Nat} (hS : ScR n g2 L B G T) (hf : Fr X G G1) (hX : 8 ∉ X ∧ 9 ∉ X ∧ 10 ∉ X ∧ 11 ∉ X ∧ 12 ∉ X ∧ 13 ∉ X) : ScR n g2 L B G1 T := by
  obtain ⟨e1, e2, e3, e4, e5⟩ := tok_same hf hX
  unfold ScR Tj at *
  rw [e1, e2, e3, e4, e5, (hf 8 hX.1).1, (hf 9 hX.2.1).2.2.2.1, (hf 10 hX.2.2.1).2.2.2.1, (hf 11 hX.2.2.2.1).2.2.2.1, (hf 13 hX.2.2.2.2.2).2.2.2.1]
  exact hS
theorem TokAt.base {X : List Nat} {L j : Nat} {G G1 gt gs : Gs} {B : Nat → Nat} (h : TokAt L B G gt j gs) (hf : Fr X G G1) (hX : 8 ∉ X ∧ 9 ∉ X ∧ 10 ∉ X ∧ 11 ∉ X ∧ 12 ∉ X ∧ 13 ∉ X) : TokAt L B G1 gt j gs := by
  obtain ⟨e1, e2, e3, e4, e5⟩ := tok_same hf hX
  unfold TokAt at *
  rw [e1, e2, e3, e4, e5]
  exact h
theorem RE.base {X : List Nat} {i : Nat} {G G1 g : Gs} {q : Nat × Nat × Nat} (h : RE G g i q) (hf : Fr X G G1) (hX : 8 ∉ X ∧ 9 ∉ X ∧ 10 ∉ X ∧ 11 ∉ X ∧ 12 ∉ X ∧ 13 ∉ X) : RE G1 g i q := by
  obtain ⟨e1, e2, e3, e4, e5⟩ := tok_same hf hX
  unfold RE at *
  rw [e1, e2, e4, e5]
  exact h
theorem CE.base {X : List Nat} {i : Nat} {G G1 gc : Gs} {q : Nat × Nat × Nat} (h : CE G gc i q) (hf : Fr X G G1) (hX : 8 ∉ X ∧ 9 ∉ X ∧ 10 ∉ X ∧ 11 ∉ X ∧ 12 ∉ X ∧ 13 ∉ X) : CE G1 gc i q := by
  obtain ⟨e1, e2, e3, e4, e5⟩ := tok_same hf hX
  unfold CE at *
  rw [e1, e2, e3, e4, e5]
  exact h
theorem expect7 {n : Nat} {gt g2 gr gs : Gs} {K k : Nat} (h4 : gI gs 4 = nI k) (hk : k < 256) (hK : K < 256) : f_X5_expect n gr gt gs g2 (nI K) = if k = K then bnd (f_X7_advance n gs gt g2) (fun q => some (1, q)) else some (0, gs) := by
  unfold f_X5_expect
  rw [h4]
  by_cases h : k = K
  · rw [if_pos (by rw [h]), if_pos h]
  · rw [if_neg (fun z => h ((nIx hk hK).mp z)), if_neg h]
/-- both take a token of kind K, or both refuse -/
theorem need_both {n L T : Nat} {g2 gt g gr gs : Gs} {B : Nat → Nat} {j K k : Nat} (hS : ScR n g2 L B g T) (h20 : gI g 20 = nI j) (ht : TokAt L B g gt j gs) (hj : j < T) (hK : K < 256) (hk : 2 ≤ k ∧ k < 256) (hkk : ∀ K' ∈ KS, (kc K' = k ↔ K' = K)) : (tk g j = K ∧ j + 1 < T ∧ f_X12_need g (nI K) = some (1, sI g 20 (nI (j + 1))) ∧ ∃ gs', f_X5_expect n gr gt gs g2 (nI k) = some (1, gs') ∧ TokAt L B g gt (j + 1) gs' ∧ Fr scA gs gs') ∨ (tk g j ≠ K ∧ f_X12_need g (nI K) = some (0, sI (sI g 21 1) 22 (nI (ta g j))) ∧ f_X5_expect n gr gt gs g2 (nI k) = some (0, gs)) := by
  have nd := need12 (G := g) hS (Fr.refl _ _) h20 hj hK
  have k3 := (hS.tok hj).2.2.1
  have kl := kc_lt k3
  have ex := expect7 (n := n) (gt := gt) (g2 := g2) (gr := gr) (gs := gs) (k := kc (tk g j)) (K := k) ht.2.1 (by omega) hk.2
  by_cases h : tk g j = K
  · have hkc := (hkk _ k3).mpr h
    have hT1 := tok_more hS hj (by omega)
    obtain ⟨gs', a1, a2, a3⟩ := ht.next hS hT1
    rw [if_pos h] at nd
    rw [if_pos hkc, bnd_s a1] at ex
    exact .inl ⟨h, hT1, nd, gs', ex, a2, a3⟩
  · rw [if_neg h] at nd
    rw [if_neg (fun z => h ((hkk _ k3).mp z))] at ex
    exact .inr ⟨h, nd, ex⟩
theorem kk58 : ∀ K' ∈ KS, (kc K' = 40 ↔ K' = 58) := by decide
theorem kk61 : ∀ K' ∈ KS, (kc K' = 43 ↔ K' = 61) := by decide
theorem kk59 : ∀ K' ∈ KS, (kc K' = 41 ↔ K' = 59) := by decide
theorem kk204 : ∀ K' ∈ KS, (kc K' = 14 ↔ K' = 204) := by decide
theorem kk205 : ∀ K' ∈ KS, (kc K' = 15 ↔ K' = 205) := by decide
theorem kk0 : ∀ K' ∈ KS, (kc K' = 0 ↔ K' = 0) ∧ (kc K' = 10 ↔ K' = 200) ∧ (kc K' = 11 ↔ K' = 201) ∧ (kc K' = 12 ↔ K' = 202) ∧ (kc K' = 13 ↔ K' = 203) ∧ (kc K' = 2 ↔ K' = 2) ∧ (kc K' = 3 ↔ K' = 3) ∧ (kc K' = 42 ↔ K' = 44) ∧ (kc K' = 50 ↔ K' = 45) := by decide
/-- both note that there is too much -/
theorem much_both {g gr gc : Gs} {hP p : Nat} (ht : Tm g gr) (hR : gR gr 15 = some hP) (hp : p < 2 ^ 31) : ∃ g' gr' gc', f_X12_much g (nI p) = some g' ∧ f_X5_noteTooMuch hP gr gc (nI p) = some (gr', gc') ∧ Tm g' gr' ∧ Fr [23] g g' ∧ Fr [16] gr gr' ∧ Fr [10] gc gc' ∧ ¬ gI gr' 16 = -1 ∧ ((gI gr 16 = -1 ↔ gI gc 10 = 0) → ¬ gI gc' 10 = 0) := by
  obtain ⟨t1, t2⟩ := ht
  have r : rEq (gR gr 15) hP = true := decide_eq_true hR
  unfold f_X12_much f_X5_noteTooMuch
  by_cases h : gI gr 16 = -1
  · rw [if_pos h, grd_t r, t1, h, if_neg (show ¬ (0 : Int32) ≤ -1 by decide)]
    refine ⟨_, _, _, rfl, rfl, ⟨rfl, .inr (fun z => nI_pos hp z)⟩, Fr.sI (by decide) _ _, Fr.sI (by decide) _ _, Fr.sI (by decide) _ _, fun z => absurd (show nI p = -1 from z) (nI_ne_m1 hp), fun _ z => absurd (show (1 : Int32) = 0 from z) (by decide)⟩
  · have h23 : 0 ≤ gI g 23 := by
      rcases t2 with z | z
      · rw [t1] at z; exact absurd z h
      · exact Int32.not_lt.mp z
    rw [if_neg h, if_pos h23]
    exact ⟨_, _, _, rfl, rfl, ⟨t1, t2⟩, Fr.refl _ _, Fr.refl _ _, Fr.refl _ _, h, fun z y => h (z.mpr y)⟩
/-! a NAME is kept -/
theorem byt_fit {x : Int32} (h : byt x) : Jvm.fits .byte (.int x) = true := by
  have h : x.toInt8.toInt32 = x := h
  have h1 := Int8.le_toInt x.toInt8
  have h2 := Int8.toInt_lt x.toInt8
  have h3 : x.toInt = x.toInt8.toInt := by rw [← Int8.toInt_toInt32, h]
  show (decide ((-128 : Int32) ≤ x) && decide (x ≤ (127 : Int32))) = true
  rw [Bool.and_eq_true, decide_eq_true_iff, decide_eq_true_iff, Int32.le_iff_toInt_le, Int32.le_iff_toInt_le, h3]
  have h4 : (127 : Int32).toInt = 127 := by decide
  refine ⟨h1, ?_⟩
  rw [h4]; omega
def nameP (gp gt : Gs) (r a s : Nat) : Gs := sIA (sIA (sIA gp 1 (va_cpy (gIA gt 0) (gIA gp 1) a (10 * r) s)) 2 (upd (gIA gp 2) r (nI s))) 3 (upd (gIA gp 3) r (nI a))
theorem put_name {gp gt : Gs} {r a s : Nat} (hr : r < 60) (has : a + s ≤ 3000) (hs : s ≤ 10) (hb : ∀ i, i < s → byt (gIA gt 0 (a + i))) : f_X4_putName gp gt (nI r) (nI a) (nI s) = some (nameP gp gt r a s) := by
  have e1 : (if (10 : Int32) < nI s then (10 : Int32) else nI s) = nI s := if_neg (nI_nlt (a := 10) hs (by decide))
  have e2 : (3000 : Int32) - nI a = nI (3000 - a) := nI_sub (a := 3000) (b := a) (by omega)
  have e3 : nI r * (10 : Int32) = nI (10 * r) := by rw [show (10 : Int32) = nI 10 from rfl, pk_mul, Nat.mul_comm]
  have c1 : (nI a).toNatClampNeg = a := nI_clamp (by omega)
  have c2 : (nI s).toNatClampNeg = s := nI_clamp (by omega)
  have c3 : (nI (10 * r)).toNatClampNeg = 10 * r := nI_clamp (by omega)
  have p1 : ¬ nI a < (0 : Int32) := nI_pos (by omega)
  unfold f_X4_putName
  rw [if_neg p1, e1, e2, if_pos (nI_le (by omega) (by omega)), e3]
  have b1 : cpB (nI a) (nI (10 * r)) (nI s) 3000 600 = true := decide_eq_true ⟨p1, nI_pos (by omega), nI_pos (by omega), by rw [c1, c2]; omega, by rw [c3, c2]; omega⟩
  have b2 : fitB .byte (gIA gt 0) (nI a) (nI s) = true := decide_eq_true (fun i hi => by rw [c1]; rw [c2] at hi; exact byt_fit (hb i hi))
  rw [grd_t b1, grd_t b2, grd_t (inB_nI hr (by decide)), grd_t (inB_nI hr (by decide)), c1, c2, c3, nI_clamp (show r < 2 ^ 31 by omega)]
  rfl
theorem nameP_fr (gp gt : Gs) (r a s : Nat) : Fr [1, 2, 3] gp (nameP gp gt r a s) := ((Fr.sIA (by decide) _ _).trans (Fr.sIA (by decide) _ _)).trans (Fr.sIA (by decide) _ _)
theorem nameP_at (gp gt : Gs) (r a s : Nat) : gIA (nameP gp gt r a s) 2 r = nI s ∧ gIA (nameP gp gt r a s) 3 r = nI a ∧ (∀ k, k < s → gIA (nameP gp gt r a s) 1 (10 * r + k) = gIA gt 0 (a + k)) ∧ (∀ q, q ≠ r → gIA (nameP gp gt r a s) 2 q = gIA gp 2 q ∧ gIA (nameP gp gt r a s) 3 q = gIA gp 3 q ∧ (s ≤ 10 → ∀ k, k < 10 → gIA (nameP gp gt r a s) 1 (10 * q + k) = gIA gp 1 (10 * q + k))) := by
  refine ⟨?_, ?_, fun k hk => ?_, fun q hq => ⟨?_, ?_, fun hs k hk => ?_⟩⟩
  · show upd _ r _ r = _; rw [pk_us]
  · show upd _ r _ r = _; rw [pk_us]
  · show va_cpy (gIA gt 0) (gIA gp 1) a (10 * r) s (10 * r + k) = _
    unfold va_cpy
    rw [if_pos ⟨by omega, by omega⟩, show 10 * r + k - 10 * r = k by omega]
  · show upd _ r _ q = _; rw [pk_un hq]
  · show upd _ r _ q = _; rw [pk_un hq]
  · show va_cpy (gIA gt 0) (gIA gp 1) a (10 * r) s (10 * q + k) = _
    unfold va_cpy
    rw [if_neg (by omega)]
/-! how tokens lie -/
theorem ScR.len {n L T : Nat} {g2 G : Gs} {B : Nat → Nat} (hS : ScR n g2 L B G T) {j : Nat} (hj : j + 1 < T) : ta G j < te G j ∧ te G j ≤ ta G (j + 1) ∧ te G j ≤ L ∧ ta G (j + 1) ≤ L ∧ (200 ≤ tk G j → tk G j < 226 → ta G j + 3 ≤ te G j) ∧ ((tk G j = 2 ∨ (200 ≤ tk G j ∧ tk G j < 226)) → (tk G (j + 1) = 2 ∨ (200 ≤ tk G (j + 1) ∧ tk G (j + 1) < 226)) → te G j + 1 ≤ ta G (j + 1)) ∧ (tk G j = 2 → te G j - ta G j ≤ 10) := by
  obtain ⟨s1, s2, s3, s4, s5, s6⟩ := hS
  obtain ⟨a1, a2, a3, a4, ⟨b1, b2, b3, b4, b5, b6, b7, b8, b9⟩, _⟩ := s4 j (by omega)
  obtain ⟨c1, c2, c3, c4, ⟨d1, d2, d3, d4, d5, d6, d7, d8, d9⟩, _⟩ := s4 (j + 1) (by omega)
  rw [if_neg (by omega), Nat.add_sub_cancel] at d2
  obtain ⟨n0, n1⟩ := s5 j hj
  refine ⟨b5 n0 n1, d2, b4, d3, fun z1 z2 => b9 ⟨z1, z2⟩, fun z1 z2 => ?_, b7⟩
  have w1 := (b8 z1).2
  have w2 := (d8 z2).1
  by_cases h : te G j = ta G (j + 1)
  · rw [h, w2] at w1; exact absurd w1 (by decide)
  · omega
