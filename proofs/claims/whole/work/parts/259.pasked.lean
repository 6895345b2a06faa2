/-! asked NAMEs: the same fault on both sides, or the same meanings -/
/-- the row that entry a's NAME is found at, in the class -/
def cvf (n : Nat) (gp gt g : Gs) (E : Nat → Nat × Nat × Nat) (th ca a : Nat) : Option Int32 := f_X4_find n gp gt (nI (ta g (E a).2.2)) (nI (te g (E a).2.2 - ta g (E a).2.2)) (if (E a).1 = 64 then 52 else 0) (if (E a).1 = 64 then nI ca else nI th)
def Fnd (n : Nat) (gp gt g : Gs) (E : Nat → Nat × Nat × Nat) (th ca a : Nat) : Prop := ∃ k, k < (if (E a).1 = 64 then ca else th) ∧ cvf n gp gt g E th ca a = some (nI k)
theorem cv_both {n L T : Nat} {g2 g gx gt gp : Gs} {B : Nat → Nat} {E : Nat → Nat × Nat × Nat} {th ca a : Nat} (hn : 20000 ≤ n) (hS : ScR n g2 L B g T) (hL : L ≤ 3000) (hTE : ∀ p, p < L → gIA g 5 p = gIA gt 0 p) (hl : ∀ i, i < th → Lt g gp i) (hlc : ∀ i, i < ca → Lt g gp (52 + i)) (hth : th ≤ 40) (hca : ca ≤ 8) (ht : (E a).2.2 < T) (hkt : tk g (E a).2.2 = 2) (hx : Fr [15] g gx) : ∃ v, f_X12_rowCalled n gx (if (E a).1 = 64 then 52 else 0) (if (E a).1 = 64 then nI ca else nI th) (nI (E a).2.2) = some v ∧ cvf n gp gt g E th ca a = some v ∧ (v = -1 ∨ ∃ k, k < (if (E a).1 = 64 then ca else th) ∧ v = nI k) := by
  have hX : nTk [15] := by decide
  obtain ⟨e1, e2, e3, _, _⟩ := tok_same hx hX
  have sx := hS.base hx hX
  have e5 : gIA gx 5 = gIA g 5 := (hx 5 (by decide)).2.2.2.1
  have lx : ∀ r, Lt g gp r → Lt gx gp r := fun r h => by
    unfold Lt at *
    rw [(hx 66 (by decide)).2.2.2.1, (hx 65 (by decide)).2.2.2.1]; exact h
  unfold cvf
  by_cases c64 : (E a).1 = 64
  · rw [if_pos c64, if_pos c64, if_pos c64]
    have := found_both (r0 := 52) (c := ca) hn sx hL (by rw [e5]; exact hTE) (fun i hi => lx _ (hlc i hi)) (by omega) ht (by rw [e1]; exact hkt)
    rw [e2, e3] at this
    exact this
  · rw [if_neg c64, if_neg c64, if_neg c64]
    have := found_both (r0 := 0) (c := th) hn sx hL (by rw [e5]; exact hTE) (fun i hi => by rw [Nat.zero_add]; exact lx _ (hl i hi)) (by omega) ht (by rw [e1]; exact hkt)
    rw [e2, e3] at this
    exact this
/-- the class -/
theorem asked_cls {n L T : Nat} {g2 g gt gp gc : Gs} {B : Nat → Nat} {E : Nat → Nat × Nat × Nat} {th ca A : Nat} (hn : 20000 ≤ n) (hS : ScR n g2 L B g T) (hL : L ≤ 3000) (hA : A ≤ 840) (h12 : f_X0_endOf gc (nI 0) = some (nI A)) (hop : ∀ a, a < A → (E a).1 < 100) (hCE : ∀ i, i < A → CE g gc i (E i)) (hT2 : ∀ a, a < A → opN (E a).1 → (E a).2.2 < T ∧ tk g (E a).2.2 = 2) (hv : ∀ a, a < A → opN (E a).1 → cvf n gp gt g E th ca a = some (-1) ∨ Fnd n gp gt g E th ca a) (hth : th ≤ 40) (hca : ca ≤ 8) : ∀ (d f cur : Nat) (gN gx : Gs) (V : Nat → Prop), cur + d = A → d < f → NF g gN V → Fr [5] gc gx → (∀ a, cur ≤ a → gIA gx 5 a = gIA gc 5 a) → ∃ gN' gx', (L_X2_resolve n f).2 gN gt gp gx (nI 0) (nI th) (nI ca) (nI cur) = (L_X2_resolve n (f - d - 1)).1 gN' gt gp gx' (nI 1) ∧ NF g gN' (fun t => V t ∨ ∃ a, cur ≤ a ∧ a < A ∧ opN (E a).1 ∧ (E a).2.2 = t ∧ cvf n gp gt g E th ca a = some (-1)) ∧ Fr [5] gc gx' ∧ Fr [1] gN gN' ∧ (∀ a, (a < cur ∨ ¬ opN (E a).1) → gIA gx' 5 a = gIA gx 5 a) ∧ (∀ a k, cur ≤ a → a < A → opN (E a).1 → k < 2 ^ 31 → cvf n gp gt g E th ca a = some (nI k) → gIA gx' 5 a = nI k) := by
  have hend : ∀ gx : Gs, Fr [5] gc gx → f_X0_endOf gx (nI 0) = some (nI A) := fun gx h4 => by
    rw [endOf_fr h4 (by decide)]; exact h12
  intro d
  induction d with
  | zero =>
    intro f cur gN gx V h1 h2 h3 h4 h5
    obtain ⟨f, rfl⟩ : ∃ x, f = x + 1 := ⟨f - 1, by omega⟩
    refine ⟨gN, gx, ?_, h3.iff (fun t => ⟨fun y => .inl y, fun y => y.elim id (fun ⟨i, i1, i2, _⟩ => by omega)⟩), h4, Fr.refl _ _, fun _ _ => rfl, fun a k a1 a2 => by omega⟩
    show h_X2_resolve_47 n (L_X2_resolve n f) gN gt gp gx (nI 0) (nI th) (nI ca) (nI cur) = _
    unfold h_X2_resolve_47
    rw [bnd_s (hend gx h4), if_pos (nI_le (show A ≤ cur by omega) (by omega)), nI_1]
    rfl
  | succ d ih =>
    intro f cur gN gx V h1 h2 h3 h4 h5
    obtain ⟨f, rfl⟩ : ∃ x, f = x + 1 := ⟨f - 1, by omega⟩
    have ef : f + 1 - (d + 1) - 1 = f - d - 1 := by omega
    rw [ef]
    have hcz : cur < A := by omega
    have ho := hop cur hcz
    obtain ⟨k0, k1, k2, k3, k4, k5, k6⟩ := hCE cur (by omega)
    have x0 : gIA gx 0 cur = nI (E cur).1 := by rw [(h4 0 (by decide)).2.2.2.1]; exact k0
    have bc : inB (nI cur) 840 = true := inB_nI (by omega) (by decide)
    have cc : (nI cur).toNatClampNeg = cur := nI_clamp (by omega)
    have q : ∀ {x : Nat}, x < 100 → (nI (E cur).1 = nI x ↔ (E cur).1 = x) := fun hx => nI_eq (by omega) (by omega)
    show ∃ gN' gx', h_X2_resolve_47 n (L_X2_resolve n f) gN gt gp gx (nI 0) (nI th) (nI ca) (nI cur) = _ ∧ _
    have e48 : h_X2_resolve_47 n (L_X2_resolve n f) gN gt gp gx (nI 0) (nI th) (nI ca) (nI cur) = if ((E cur).1 = 63 ∨ (E cur).1 = 16 ∨ (E cur).1 = 64) then b_X2_resolve_108 n (L_X2_resolve n f) gN gt gp gx (nI 0) (nI th) (nI ca) (nI cur) (if (E cur).1 = 64 then 1 else 0) else (L_X2_resolve n f).2 gN gt gp gx (nI 0) (nI th) (nI ca) (nI (cur + 1)) := by
      unfold h_X2_resolve_47 b_X2_resolve_74 b_X2_resolve_183
      rw [bnd_s (hend gx h4), if_neg (show ¬ nI A ≤ nI cur from nI_ge (b := A) hcz (by omega)), grd_t bc, cc, x0]
      by_cases c64 : (E cur).1 = 64
      · rw [if_pos (show nI (E cur).1 = (64 : Int32) by rw [c64]; rfl), if_neg (show ¬ (1 : Int32) = 0 by decide), if_pos (show ((E cur).1 = 63 ∨ (E cur).1 = 16 ∨ (E cur).1 = 64) from .inr (.inr c64)), if_pos c64]
      · rw [if_neg (show ¬ nI (E cur).1 = (64 : Int32) from fun y => c64 ((q (x := 64) (by decide)).mp y)), if_pos (show (0 : Int32) = 0 from rfl), grd_t bc]
        by_cases c63 : (E cur).1 = 63
        · rw [if_pos (show nI (E cur).1 = (63 : Int32) by rw [c63]; rfl), if_pos (show ((E cur).1 = 63 ∨ (E cur).1 = 16 ∨ (E cur).1 = 64) from .inl c63), if_neg c64]
        · rw [if_neg (show ¬ nI (E cur).1 = (63 : Int32) from fun y => c63 ((q (x := 63) (by decide)).mp y)), grd_t bc]
          by_cases c16 : (E cur).1 = 16
          · rw [if_pos (show nI (E cur).1 = (16 : Int32) by rw [c16]; rfl), if_pos (show ((E cur).1 = 63 ∨ (E cur).1 = 16 ∨ (E cur).1 = 64) from .inr (.inl c16)), if_neg c64]
          · rw [if_neg (show ¬ nI (E cur).1 = (16 : Int32) from fun y => c16 ((q (x := 16) (by decide)).mp y)), if_neg (show ¬ ((E cur).1 = 63 ∨ (E cur).1 = 16 ∨ (E cur).1 = 64) from fun y => by omega), nI_1]
    rw [e48]
    by_cases hN : opN (E cur).1
    · rw [if_pos (show ((E cur).1 = 63 ∨ (E cur).1 = 16 ∨ (E cur).1 = 64) from hN)]
      obtain ⟨u1, u2, u3⟩ := k4 hN
      obtain ⟨w1, w2⟩ := hT2 cur hcz hN
      have x5 : gIA gx 5 cur = nI (ta g (E cur).2.2) := by rw [h5 cur (Nat.le_refl _)]; exact u1
      have x3 : gIA gx 3 cur = nI (te g (E cur).2.2 - ta g (E cur).2.2) := by rw [(h4 3 (by decide)).2.2.2.1]; exact u2
      have e110 : ∀ v, cvf n gp gt g E th ca cur = some v → b_X2_resolve_108 n (L_X2_resolve n f) gN gt gp gx (nI 0) (nI th) (nI ca) (nI cur) (if (E cur).1 = 64 then 1 else 0) = (if v = (-1 : Int32) then (bnd (f_X2_refuse gN (nI (ta g (E cur).2.2))) (fun q_11 => (L_X2_resolve n f).2 q_11 gt gp gx (nI 0) (nI th) (nI ca) (nI (cur + 1)))) else ((L_X2_resolve n f).2 gN gt gp (sIA gx 5 (upd (gIA gx 5) cur v)) (nI 0) (nI th) (nI ca) (nI (cur + 1)))) := by
        intro v f1
        unfold cvf at f1
        unfold b_X2_resolve_108 b_X2_resolve_142 b_X2_resolve_154 b_X2_resolve_183
        rw [grd_t bc, grd_t bc, cc, x5, x3]
        by_cases c64 : (E cur).1 = 64
        · rw [if_pos c64, if_pos c64] at f1
          rw [if_pos c64, if_neg (show ¬ (1 : Int32) = 0 by decide), if_neg (show ¬ (1 : Int32) = 0 by decide), bnd_s f1, nI_1, grd_t bc]
        · rw [if_neg c64, if_neg c64] at f1
          rw [if_neg c64, if_pos (show (0 : Int32) = 0 from rfl), if_pos (show (0 : Int32) = 0 from rfl), bnd_s f1, nI_1, grd_t bc]
      rcases hv cur hcz hN with f5 | ⟨k, f4, f5⟩
      · rw [e110 _ f5, if_pos rfl]
        have htl : ta g (E cur).2.2 < 2 ^ 31 := by have := (len10 hS w1 u3).2.2; omega
        obtain ⟨gA, a1, a2, a3⟩ := h3.add htl
        rw [bnd_s a1]
        obtain ⟨gN', gx', y1, y2, y3, y4, y5, y6⟩ := ih f (cur + 1) gA gx _ (by omega) (by omega) a2 h4 (fun a a1 => h5 a (by omega))
        refine ⟨gN', gx', y1, y2.iff (fun t => ⟨?_, ?_⟩), y3, a3.trans y4, fun a ha => y5 a (by rcases ha with h | h; exact .inl (by omega); exact .inr h), fun a k b1 b2 b3 b4 b5 => ?_⟩
        · rintro ((h | h) | ⟨a, a1, a2⟩)
          · exact .inl h
          · exact .inr ⟨cur, by omega, hcz, hN, h.symm, f5⟩
          · exact .inr ⟨a, by omega, a2⟩
        · rintro (h | ⟨a, a1, a2, a3, a4, a5⟩)
          · exact .inl (.inl h)
          · by_cases ha : a = cur
            · rw [ha] at a4; exact .inl (.inr a4.symm)
            · exact .inr ⟨a, by omega, a2, a3, a4, a5⟩
        · by_cases ha : a = cur
          · rw [ha, f5] at b5
            exact absurd (Option.some.inj b5).symm (nI_ne_m1 b4)
          · exact y6 a k (by omega) b2 b3 b4 b5
      · have hk : k < 2 ^ 31 := by
          have : (if (E cur).1 = 64 then ca else th) ≤ 40 := by split <;> omega
          omega
        rw [e110 _ f5, if_neg (nI_ne_m1 hk)]
        obtain ⟨gN', gx', y1, y2, y3, y4, y5, y6⟩ := ih f (cur + 1) gN (sIA gx 5 (upd (gIA gx 5) cur (nI k))) V (by omega) (by omega) h3 (h4.trans (Fr.sIA (by decide) _ _)) (fun a a1 => by
          show upd (gIA gx 5) cur _ a = _; rw [pk_un (by omega)]; exact h5 a (by omega))
        refine ⟨gN', gx', y1, y2.iff (fun t => ⟨?_, ?_⟩), y3, y4, fun a ha => ?_, fun a k' a1 a2 a3 a4 a5 => ?_⟩
        · rintro (h | ⟨a, a1, a2⟩)
          · exact .inl h
          · exact .inr ⟨a, by omega, a2⟩
        · rintro (h | ⟨a, a1, a2, a3, a4, a5⟩)
          · exact .inl h
          · by_cases ha : a = cur
            · rw [ha, f5] at a5
              exact absurd (Option.some.inj a5) (nI_ne_m1 hk)
            · exact .inr ⟨a, by omega, a2, a3, a4, a5⟩
        · have hne : a ≠ cur := by
            rcases ha with h | h
            · omega
            · exact fun y => h (by rw [y]; exact hN)
          rw [y5 a (by rcases ha with h | h; exact .inl (by omega); exact .inr h)]
          show upd (gIA gx 5) cur _ a = _; rw [pk_un hne]
        · by_cases ha : a = cur
          · rw [ha, f5] at a5
            rw [ha, y5 cur (.inl (by omega))]
            show upd (gIA gx 5) cur _ cur = _
            rw [pk_us]; exact Option.some.inj a5
          · exact y6 a k' (by omega) a2 a3 a4 a5
    · rw [if_neg (show ¬ ((E cur).1 = 63 ∨ (E cur).1 = 16 ∨ (E cur).1 = 64) from hN)]
      obtain ⟨gN', gx', y1, y2, y3, y4, y5, y6⟩ := ih f (cur + 1) gN gx V (by omega) (by omega) h3 h4 (fun a a1 => h5 a (by omega))
      refine ⟨gN', gx', y1, y2.iff (fun t => ⟨?_, ?_⟩), y3, y4, fun a ha => y5 a (by rcases ha with h | h; exact .inl (by omega); exact .inr h), fun a k a1 a2 a3 a4 a5 => ?_⟩
      · rintro (h | ⟨a, a1, a2⟩)
        · exact .inl h
        · exact .inr ⟨a, by omega, a2⟩
      · rintro (h | ⟨a, a1, a2, a3, a4⟩)
        · exact .inl h
        · refine .inr ⟨a, ?_, a2, a3, a4⟩
          by_cases ha : a = cur
          · rw [ha] at a3; exact absurd a3 hN
          · omega
      · refine y6 a k ?_ a2 a3 a4 a5
        by_cases ha : a = cur
        · rw [ha] at a3; exact absurd a3 hN
        · omega
/-- row m of the table of names stands for entry a -/
def NUa (g : Gs) (E : Nat → Nat × Nat × Nat) (A m a : Nat) : Prop := a < A ∧ opN (E a).1 ∧ (E a).2.2 = nt g m ∧ gIA g 32 m = nI (2000 + a) ∧ gIA g 28 m = (if (E a).1 = 64 then 2 else 1)
/-- the reference -/
theorem asked_ref {n L T : Nat} {g2 g gt gp : Gs} {B : Nat → Nat} {E : Nat → Nat × Nat × Nat} {th ca A M : Nat} (hn : 20000 ≤ n) (hS : ScR n g2 L B g T) (hL : L ≤ 3000) (hTE : ∀ p, p < L → gIA g 5 p = gIA gt 0 p) (hl : ∀ i, i < th → Lt g gp i) (hlc : ∀ i, i < ca → Lt g gp (52 + i)) (hth : th ≤ 40) (hca : ca ≤ 8) (h60 : gI g 60 = nI th) (h62 : gI g 62 = nI ca) (h27 : gI g 27 = nI M) (hM : M ≤ 3000) (hA : A ≤ 840) (h29 : ∀ m, m < M → gIA g 29 m = nI (nt g m) ∧ nt g m < T ∧ tk g (nt g m) = 2 ∧ ∃ a, NUa g E A m a) : ∀ (d k m : Nat) (gx : Gs), m + d = M → d < k → Fr [15] g gx → (∀ q, q < 2000 → gIA gx 15 q = gIA g 15 q) → (∀ a, ¬ opN (E a).1 → gIA gx 15 (2000 + a) = gIA g 15 (2000 + a)) → (∀ m', m' < m → ∀ a, NUa g E A m' a → ∃ k, k < (if (E a).1 = 64 then ca else th) ∧ cvf n gp gt g E th ca a = some (nI k) ∧ gIA gx 15 (2000 + a) = nI k) → ∃ g', Fr [15, 21, 22] g g' ∧ (∀ q, q < 2000 → gIA g' 15 q = gIA g 15 q) ∧ ((L_X12_asks n k gx (nI m) = some (-1, g') ∧ gI g' 21 = 3 ∧ ∃ m0 a0, m0 < M ∧ NUa g E A m0 a0 ∧ cvf n gp gt g E th ca a0 = some (-1) ∧ (∀ m' a, m' < m0 → NUa g E A m' a → ¬ cvf n gp gt g E th ca a = some (-1)) ∧ gI g' 22 = nI (ta g (nt g m0))) ∨ (L_X12_asks n k gx (nI m) = bnd (f_X12_judged n g' 2000 (gI g' 19)) (fun q => some (q.1, q.2)) ∧ Fr [15] g g' ∧ (∀ a, ¬ opN (E a).1 → gIA g' 15 (2000 + a) = gIA g 15 (2000 + a)) ∧ ∀ m', m' < M → ∀ a, NUa g E A m' a → ∃ k, k < (if (E a).1 = 64 then ca else th) ∧ cvf n gp gt g E th ca a = some (nI k) ∧ gIA g' 15 (2000 + a) = nI k)) := by
  have hT := hS.2.2.1
  intro d
  induction d with
  | zero =>
    intro k m gx h1 h2 h3 h4 h5 h6
    obtain ⟨k, rfl⟩ : ∃ x, k = x + 1 := ⟨k - 1, by omega⟩
    refine ⟨gx, h3.mono (by decide), h4, .inr ⟨?_, h3, h5, fun m' hm' => h6 m' (by omega)⟩⟩
    show h_X12_asks_58 n (L_X12_asks n k) gx (nI m) = _
    unfold h_X12_asks_58
    rw [(h3 27 (by decide)).1, h27, if_pos (nI_le (show M ≤ m by omega) (by omega))]
  | succ d ih =>
    intro k m gx h1 h2 h3 h4 h5 h6
    obtain ⟨k, rfl⟩ : ∃ x, k = x + 1 := ⟨k - 1, by omega⟩
    have hm : m < M := by omega
    obtain ⟨y1, y2, y3, a, y4⟩ := h29 m hm
    obtain ⟨z1, z2, z3, z4, z5⟩ := id y4
    have sl : ∀ q, q ≠ 15 → gIA gx q = gIA g q := fun q hq => (h3 q (by simp; exact hq)).2.2.2.1
    obtain ⟨v, v1, v2, v3⟩ := cv_both (a := a) hn hS hL hTE hl hlc hth hca (by rw [z3]; exact y2) (by rw [z3]; exact y3) h3
    rw [z3] at v1
    have bm : inB (nI m) 3001 = true := inB_nI (by omega) (by decide)
    have cm : (nI m).toNatClampNeg = m := nI_clamp (by omega)
    have e : L_X12_asks n (k + 1) gx (nI m) = b_X12_asks_110 n (L_X12_asks n k) gx (nI m) v := by
      show h_X12_asks_58 n (L_X12_asks n k) gx (nI m) = _
      unfold h_X12_asks_58
      rw [(h3 27 (by decide)).1, h27, if_neg (show ¬ nI M ≤ nI m from nI_ge (b := M) hm (by omega)), grd_t bm, cm, sl 28 (by decide), z5, sl 29 (by decide), y1, (h3 60 (by decide)).1, h60, (h3 62 (by decide)).1, h62]
      by_cases c64 : (E a).1 = 64
      · rw [if_pos c64, if_pos c64] at v1
        rw [if_pos c64, if_neg (show ¬ (2 : Int32) = 1 by decide), grd_t bm, bnd_s v1]
      · rw [if_neg c64, if_neg c64] at v1
        rw [if_neg c64, if_pos rfl, grd_t bm, bnd_s v1]
    rcases v3 with v3 | ⟨r, v3, v4⟩
    · refine ⟨sI (sI gx 21 3) 22 (nI (ta g (nt g m))), ((h3.mono (by decide)).trans (Fr.sI (by decide) _ _)).trans (Fr.sI (by decide) _ _), h4, .inl ⟨?_, rfl, m, a, hm, y4, by rw [v2, v3], fun m' a' hm' ha' z => ?_, rfl⟩⟩
      · rw [e, v3]
        unfold b_X12_asks_110
        rw [if_neg (show ¬ (0 : Int32) ≤ -1 by decide), grd_t bm, cm, sl 29 (by decide), y1, grd_t (inB_nI (by omega) (by decide)), nI_clamp (show nt g m < 2 ^ 31 by omega), sl 10 (by decide), (hS.tok y2).2.1]
        rfl
      · obtain ⟨r, r1, r2, _⟩ := h6 m' hm' a' ha'
        rw [r2] at z
        have : (if (E a').1 = 64 then ca else th) ≤ 40 := by split <;> omega
        exact absurd (Option.some.inj z) (nI_ne_m1 (by omega))
    · have hr : r < 2 ^ 31 := by
        have : (if (E a).1 = 64 then ca else th) ≤ 40 := by split <;> omega
        omega
      have e2 : L_X12_asks n (k + 1) gx (nI m) = L_X12_asks n k (sIA gx 15 (upd (gIA gx 15) (2000 + a) (nI r))) (nI (m + 1)) := by
        rw [e, v4]
        unfold b_X12_asks_110
        rw [if_pos (show (0 : Int32) ≤ nI r from nI_le (a := 0) (by omega) hr), grd_t bm, cm, sl 32 (by decide), z4, grd_t (inB_nI (by omega) (by decide)), nI_clamp (show 2000 + a < 2 ^ 31 by omega), nI_1]
      rw [e2]
      refine ih k (m + 1) _ (by omega) (by omega) (h3.trans (Fr.sIA (by decide) _ _)) (fun q hq => ?_) (fun a' ha' => ?_) (fun m' hm' a' ha' => ?_)
      · show upd (gIA gx 15) (2000 + a) _ q = _
        rw [pk_un (by omega)]; exact h4 q hq
      · show upd (gIA gx 15) (2000 + a) _ (2000 + a') = _
        rw [pk_un (fun z => ha' (by rw [show a' = a by omega]; exact z2))]
        exact h5 a' ha'
      · show ∃ k, _ ∧ _ ∧ upd (gIA gx 15) (2000 + a) (nI r) (2000 + a') = nI k
        by_cases c : a' = a
        · rw [c, pk_us]
          exact ⟨r, v3, by rw [v2, v4], rfl⟩
        · rw [pk_un (by omega)]
          refine h6 m' ?_ a' ha'
          by_cases cm' : m' = m
          · rw [cm'] at ha'
            have hA' := ha'.1
            have := (nI_eq (by omega) (by omega)).mp (ha'.2.2.2.1.symm.trans z4)
            omega
          · omega
