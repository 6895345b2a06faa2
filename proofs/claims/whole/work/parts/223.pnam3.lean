/-! names: all NAMEs of formulas, in the class -/
theorem Eg.op {E : Nat → Nat × Nat × Nat} {m : Nat} : ∀ {j j' : Nat}, Eg E m j j' → ∀ i, j ≤ i → i < j' → (E i).1 < 100 := by
  induction m with
  | zero => intro j j' h; exact h.elim
  | succ m ih =>
    intro j j' h i i1 i2
    rcases h with ⟨h1, h2⟩ | ⟨a, h1, h2, h3⟩ | ⟨a, k, h1, h2, h3, h4, _⟩ | ⟨o, a, k, h1, h2, h3, h4, h5, h6⟩ | ⟨a, p, k, h1, h2, h3, h4, h5, h6, h7, h8, h9, h10⟩
    · rw [show i = j by omega]; omega
    · by_cases h : i < a
      · exact ih h2 i i1 h
      · rw [show i = a by omega]; omega
    · by_cases h : i < a
      · exact ih h2 i i1 h
      · by_cases h' : i < k
        · exact ih h3 i (by omega) h'
        · rw [show i = k by omega]; unfold opT at h4; omega
    · by_cases h : i < a
      · exact ih h2 i i1 h
      · by_cases h'' : i = a
        · rw [h'', h3]; split <;> omega
        · by_cases h' : i < k
          · exact ih h5 i (by omega) h'
          · rw [show i = k by omega, h6]; split <;> omega
    · by_cases h : i < a
      · exact ih h2 i i1 h
      · by_cases h'' : i = a
        · rw [h'', h3]; omega
        · by_cases h' : i < p
          · exact ih h5 i (by omega) h'
          · by_cases h''' : i = p
            · rw [h''', h6]; omega
            · by_cases h4' : i < k
              · exact ih h8 i (by omega) h4'
              · rw [show i = k by omega, h9]; omega
/-- how many rows a formula's NAME may be looked for in -/
def lim (gc : Gs) (E : Nat → Nat × Nat × Nat) (th ca F a : Nat) : Nat := if (E a).1 = 64 then min ca (rtk gc 16 F) else min th (rtk gc 15 F)
def kof (E : Nat → Nat × Nat × Nat) (a : Nat) : Nat := if (E a).1 = 64 then 53 else 37
/-- k is the row that the NAME of entry a means -/
def Rs (g gc : Gs) (E : Nat → Nat × Nat × Nat) (th ca F a k : Nat) : Prop := k < lim gc E th ca F a ∧ Sm g (rtk g (kof E a) k) (E a).2.2 ∧ ∀ i, i < k → ¬ Sm g (rtk g (kof E a) i) (E a).2.2
def Uns (g gc : Gs) (E : Nat → Nat × Nat × Nat) (th ca F a : Nat) : Prop := ∀ i, i < lim gc E th ca F a → ¬ Sm g (rtk g (kof E a) i) (E a).2.2
theorem resolve_in {n L T : Nat} {g2 g gt gp gc : Gs} {B : Nat → Nat} {E : Nat → Nat × Nat × Nat} {th ca F z A f0 : Nat} {v4 v5 : Int32} (hn : 20000 ≤ n) (hS : ScR n g2 L B g T) (hL : L ≤ 3000) (hTE : ∀ p, p < L → gIA g 5 p = gIA gt 0 p) (n1 : ∀ i, i < th → Nd T g gt gp 37 i i) (n3 : ∀ q, q < ca → Nd T g gt gp 53 (52 + q) q) (hc : th ≤ 40 ∧ ca ≤ 8) {fN : Nat} (hF : F < fN ∧ fN ≤ 92) (h18 : gI gc 18 = nI fN ∧ gI gc 8 = nI A) (hz : z ≤ A) (hA : A ≤ 840) (h12 : gIA gc 12 F = nI z) (hop : ∀ a, f0 ≤ a → a < z → (E a).1 < 100) (hCE : ∀ i, i < A → CE g gc i (E i)) (hx : ∀ a, f0 ≤ a → a < z → opN (E a).1 → (E a).2.2 < T ∧ (if (E a).1 = 64 then v5 else v4) = nI (lim gc E th ca F a)) : ∀ (d f cur : Nat) (gN gx : Gs) (V : Nat → Prop), f0 ≤ cur → cur + d = z → d < f → NF g gN V → Fr [5] gc gx → (∀ a, cur ≤ a → a < z → gIA gx 5 a = gIA gc 5 a) → ∃ gN' gx', (L_X2_resolve n f).2 gN gt gp gx (nI F) v4 v5 (nI cur) = (L_X2_resolve n (f - d - 1)).1 gN' gt gp gx' (nI (F + 1)) ∧ NF g gN' (fun t => V t ∨ ∃ a, cur ≤ a ∧ a < z ∧ opN (E a).1 ∧ (E a).2.2 = t ∧ Uns g gc E th ca F a) ∧ Fr [5] gc gx' ∧ Fr [1] gN gN' ∧ (∀ a, (a < cur ∨ z ≤ a ∨ ¬ opN (E a).1) → gIA gx' 5 a = gIA gx 5 a) ∧ (∀ a, cur ≤ a → a < z → opN (E a).1 → Uns g gc E th ca F a ∨ ∃ k, Rs g gc E th ca F a k ∧ gIA gx' 5 a = nI k) := by
  have hend : ∀ gx : Gs, Fr [5] gc gx → f_X0_endOf gx (nI F) = some (nI z) := fun gx h4 => by
    rw [endOf_fr h4 (by decide)]
    exact end_of hF.1 hF.2 h18.1 h18.2 hA hz h12
  intro d
  induction d with
  | zero =>
    intro f cur gN gx V h0 h1 h2 h3 h4 h5
    obtain ⟨f, rfl⟩ : ∃ x, f = x + 1 := ⟨f - 1, by omega⟩
    refine ⟨gN, gx, ?_, h3.iff (fun t => ⟨fun y => .inl y, fun y => y.elim id (fun ⟨i, i1, i2, _⟩ => by omega)⟩), h4, Fr.refl _ _, fun _ _ => rfl, fun a a1 a2 => by omega⟩
    show h_X2_resolve_47 n (L_X2_resolve n f) gN gt gp gx (nI F) v4 v5 (nI cur) = _
    unfold h_X2_resolve_47
    rw [bnd_s (hend gx h4), if_pos (nI_le (show z ≤ cur by omega) (by omega)), nI_1]
    rfl
  | succ d ih =>
    intro f cur gN gx V h0 h1 h2 h3 h4 h5
    obtain ⟨f, rfl⟩ : ∃ x, f = x + 1 := ⟨f - 1, by omega⟩
    have ef : f + 1 - (d + 1) - 1 = f - d - 1 := by omega
    rw [ef]
    have hcz : cur < z := by omega
    have ho := hop cur h0 hcz
    obtain ⟨k0, k1, k2, k3, k4, k5, k6⟩ := hCE cur (by omega)
    have x0 : gIA gx 0 cur = nI (E cur).1 := by rw [(h4 0 (by decide)).2.2.2.1]; exact k0
    have bc : inB (nI cur) 840 = true := inB_nI (by omega) (by decide)
    have cc : (nI cur).toNatClampNeg = cur := nI_clamp (by omega)
    have q : ∀ {x : Nat}, x < 100 → (nI (E cur).1 = nI x ↔ (E cur).1 = x) := fun hx => nI_eq (by omega) (by omega)
    show ∃ gN' gx', h_X2_resolve_47 n (L_X2_resolve n f) gN gt gp gx (nI F) v4 v5 (nI cur) = _ ∧ _
    have e48 : h_X2_resolve_47 n (L_X2_resolve n f) gN gt gp gx (nI F) v4 v5 (nI cur) = if ((E cur).1 = 63 ∨ (E cur).1 = 16 ∨ (E cur).1 = 64) then b_X2_resolve_108 n (L_X2_resolve n f) gN gt gp gx (nI F) v4 v5 (nI cur) (if (E cur).1 = 64 then 1 else 0) else (L_X2_resolve n f).2 gN gt gp gx (nI F) v4 v5 (nI (cur + 1)) := by
      unfold h_X2_resolve_47 b_X2_resolve_74 b_X2_resolve_183
      rw [bnd_s (hend gx h4), if_neg (show ¬ nI z ≤ nI cur from nI_ge (b := z) hcz (by omega)), grd_t bc, cc, x0]
      by_cases c64 : (E cur).1 = 64
      · rw [if_pos (show nI (E cur).1 = (64 : Int32) by rw [c64]; rfl), if_neg (show ¬ (1 : Int32) = 0 by decide), if_pos (show ((E cur).1 = 63 ∨ (E cur).1 = 16 ∨ (E cur).1 = 64) from .inr (.inr c64)), if_pos c64]
      · rw [if_neg (show ¬ nI (E cur).1 = (64 : Int32) from fun y => c64 ((q (x := 64) (by decide)).mp y)), if_pos (show (0 : Int32) = 0 from rfl), grd_t bc]
        by_cases c63 : (E cur).1 = 63
        · rw [if_pos (show nI (E cur).1 = (63 : Int32) by rw [c63]; rfl), if_pos (show ((E cur).1 = 63 ∨ (E cur).1 = 16 ∨ (E cur).1 = 64) from .inl c63), if_neg c64]
        · rw [if_neg (show ¬ nI (E cur).1 = (63 : Int32) from fun y => c63 ((q (x := 63) (by decide)).mp y)), grd_t bc]
          by_cases c16 : (E cur).1 = 16
          · rw [if_pos (show nI (E cur).1 = (16 : Int32) by rw [c16]; rfl), if_pos (show ((E cur).1 = 63 ∨ (E cur).1 = 16 ∨ (E cur).1 = 64) from .inr (.inl c16)), if_neg c64]
          · rw [if_neg (show ¬ nI (E cur).1 = (16 : Int32) from fun y => c16 ((q (x := 16) (by decide)).mp y)), if_neg (show ¬ ((E cur).1 = 63 ∨ (E cur).1 = 16 ∨ (E cur).1 = 64) from fun y => by omega), nI_1]
    rw [e48]
    by_cases hN : opN (E cur).1
    · rw [if_pos (show ((E cur).1 = 63 ∨ (E cur).1 = 16 ∨ (E cur).1 = 64) from hN)]
      obtain ⟨u1, u2, u3⟩ := k4 hN
      obtain ⟨w1, w2⟩ := hx cur h0 hcz hN
      have x5 : gIA gx 5 cur = nI (ta g (E cur).2.2) := by rw [h5 cur (Nat.le_refl _) hcz]; exact u1
      have x3 : gIA gx 3 cur = nI (te g (E cur).2.2 - ta g (E cur).2.2) := by rw [(h4 3 (by decide)).2.2.2.1]; exact u2
      have hfind : ∃ v q', f_X4_find n gp gt (nI (ta g (E cur).2.2)) (nI (te g (E cur).2.2 - ta g (E cur).2.2)) (if (E cur).1 = 64 then 52 else 0) (nI (lim gc E th ca F cur)) = some v ∧ q' ≤ lim gc E th ca F cur ∧ (∀ i, i < q' → ¬ Sm g (rtk g (kof E cur) i) (E cur).2.2) ∧ ((q' < lim gc E th ca F cur ∧ Sm g (rtk g (kof E cur) q') (E cur).2.2 ∧ v = nI q') ∨ (q' = lim gc E th ca F cur ∧ v = -1)) := by
        by_cases c64 : (E cur).1 = 64
        · have hl : lim gc E th ca F cur ≤ ca := by unfold lim; rw [if_pos c64]; omega
          have ek : kof E cur = 53 := by unfold kof; rw [if_pos c64]
          rw [if_pos c64, ek]
          exact find_ok (r0 := 52) (c := lim gc E th ca F cur) hn hS hL hTE (fun i hi => n3 i (by omega)) (by omega) w1 u3
        · have hl : lim gc E th ca F cur ≤ th := by unfold lim; rw [if_neg c64]; omega
          have ek : kof E cur = 37 := by unfold kof; rw [if_neg c64]
          rw [if_neg c64, ek]
          exact find_ok (r0 := 0) (c := lim gc E th ca F cur) hn hS hL hTE (fun i hi => by rw [Nat.zero_add]; exact n1 i (by omega)) (by omega) w1 u3
      obtain ⟨v, q', f1, f2, f3, f4⟩ := hfind
      have e110 : b_X2_resolve_108 n (L_X2_resolve n f) gN gt gp gx (nI F) v4 v5 (nI cur) (if (E cur).1 = 64 then 1 else 0) = (if v = (-1 : Int32) then (bnd (f_X2_refuse gN (nI (ta g (E cur).2.2))) (fun q_11 => (L_X2_resolve n f).2 q_11 gt gp gx (nI F) v4 v5 (nI (cur + 1)))) else ((L_X2_resolve n f).2 gN gt gp (sIA gx 5 (upd (gIA gx 5) cur v)) (nI F) v4 v5 (nI (cur + 1)))) := by
        unfold b_X2_resolve_108 b_X2_resolve_142 b_X2_resolve_154 b_X2_resolve_183
        rw [grd_t bc, grd_t bc, cc, x5, x3]
        by_cases c64 : (E cur).1 = 64
        · rw [if_pos c64] at f1 w2 ⊢
          rw [if_neg (show ¬ (1 : Int32) = 0 by decide), if_neg (show ¬ (1 : Int32) = 0 by decide), w2, bnd_s f1, nI_1, grd_t bc]
        · rw [if_neg c64] at f1 w2 ⊢
          rw [if_pos (show (0 : Int32) = 0 from rfl), if_pos (show (0 : Int32) = 0 from rfl), w2, bnd_s f1, nI_1, grd_t bc]
      rw [e110]
      rcases f4 with ⟨f4, f5, f6⟩ | ⟨f4, f5⟩
      · have hlim : lim gc E th ca F cur ≤ 40 := by unfold lim; split <;> omega
        rw [if_neg (by rw [f6]; exact nI_ne_m1 (by omega)), f6]
        obtain ⟨gN', gx', y1, y2, y3, y4, y5, y6⟩ := ih f (cur + 1) gN (sIA gx 5 (upd (gIA gx 5) cur (nI q'))) V (by omega) (by omega) (by omega) h3 (h4.trans (Fr.sIA (by decide) _ _)) (fun a a1 a2 => by
          show upd (gIA gx 5) cur _ a = _; rw [pk_un (by omega)]; exact h5 a (by omega) a2)
        refine ⟨gN', gx', y1, y2.iff (fun t => ⟨?_, ?_⟩), y3, y4, fun a ha => ?_, fun a a1 a2 a3 => ?_⟩
        · rintro (h | ⟨a, a1, a2⟩)
          · exact .inl h
          · exact .inr ⟨a, by omega, a2⟩
        · rintro (h | ⟨a, a1, a2, a3, a4, a5⟩)
          · exact .inl h
          · by_cases ha : a = cur
            · rw [ha] at a5; exact absurd f5 (a5 q' f4)
            · exact .inr ⟨a, by omega, a2, a3, a4, a5⟩
        · have hne : a ≠ cur := by
            rcases ha with h | h | h
            · omega
            · omega
            · exact fun y => h (by rw [y]; exact hN)
          rw [y5 a (by rcases ha with h | h | h; exact .inl (by omega); exact .inr (.inl h); exact .inr (.inr h))]
          show upd (gIA gx 5) cur _ a = _; rw [pk_un hne]
        · by_cases ha : a = cur
          · rw [ha]
            refine .inr ⟨q', ⟨f4, f5, f3⟩, ?_⟩
            rw [y5 cur (.inl (by omega))]
            show upd (gIA gx 5) cur _ cur = _; rw [pk_us]
          · exact y6 a (by omega) a2 a3
      · rw [if_pos f5]
        have htl : ta g (E cur).2.2 < 2 ^ 31 := by have := (len10 hS w1 u3).2.2; omega
        obtain ⟨gA, a1, a2, a3⟩ := h3.add htl
        rw [bnd_s a1]
        obtain ⟨gN', gx', y1, y2, y3, y4, y5, y6⟩ := ih f (cur + 1) gA gx _ (by omega) (by omega) (by omega) a2 h4 (fun a a1 a2 => h5 a (by omega) a2)
        have hU : Uns g gc E th ca F cur := fun i hi => f3 i (by omega)
        refine ⟨gN', gx', y1, y2.iff (fun t => ⟨?_, ?_⟩), y3, a3.trans y4, fun a ha => y5 a (by rcases ha with h | h | h; exact .inl (by omega); exact .inr (.inl h); exact .inr (.inr h)), fun a b1 b2 b3 => ?_⟩
        · rintro ((h | h) | ⟨a, a1, a2⟩)
          · exact .inl h
          · exact .inr ⟨cur, by omega, hcz, hN, h.symm, hU⟩
          · exact .inr ⟨a, by omega, a2⟩
        · rintro (h | ⟨a, a1, a2, a3, a4, a5⟩)
          · exact .inl (.inl h)
          · by_cases ha : a = cur
            · rw [ha] at a4; exact .inl (.inr a4.symm)
            · exact .inr ⟨a, by omega, a2, a3, a4, a5⟩
        · by_cases ha : a = cur
          · rw [ha]; exact .inl hU
          · exact y6 a (by omega) b2 b3
    · rw [if_neg (show ¬ ((E cur).1 = 63 ∨ (E cur).1 = 16 ∨ (E cur).1 = 64) from hN)]
      obtain ⟨gN', gx', y1, y2, y3, y4, y5, y6⟩ := ih f (cur + 1) gN gx V (by omega) (by omega) (by omega) h3 h4 (fun a a1 a2 => h5 a (by omega) a2)
      refine ⟨gN', gx', y1, y2.iff (fun t => ⟨?_, ?_⟩), y3, y4, fun a ha => y5 a (by rcases ha with h | h | h; exact .inl (by omega); exact .inr (.inl h); exact .inr (.inr h)), fun a a1 a2 a3 => ?_⟩
      · rintro (h | ⟨a, a1, a2⟩)
        · exact .inl h
        · exact .inr ⟨a, by omega, a2⟩
      · rintro (h | ⟨a, a1, a2, a3, a4⟩)
        · exact .inl h
        · refine .inr ⟨a, ?_, a2, a3, a4⟩
          by_cases ha : a = cur
          · rw [ha] at a3; exact absurd a3 hN
          · omega
      · refine y6 a ?_ a2 a3
        by_cases ha : a = cur
        · rw [ha] at a3; exact absurd a3 hN
        · omega
