/-! whole codes: works against run -/
/-- an entry that puts a value of sort t on; K is its place on the reference's side -/
def Ps (g gc : Gs) (srt : Nat → Nat) (many K j t : Nat) : Prop :=
  (gIA gc 0 j = 3 ∧ gIA g 14 K = 1 ∧ VR t (gLA g 18 K) (gLA gc 6 j) (gDA gc 7 j) ∧ VI t (gLA g 18 K)) ∨
  (gIA gc 0 j = 18 ∧ gIA g 14 K = 2 ∧ t = 5) ∨ (gIA gc 0 j = 17 ∧ gIA g 14 K = 3 ∧ t = 7) ∨
  (gIA gc 0 j = 63 ∧ gIA g 14 K = 4 ∧ ∃ a, a < many ∧ gIA gc 5 j = nI a ∧ gIA g 15 K = nI a ∧ t = srt a) ∨
  (gIA gc 0 j = 16 ∧ gIA g 14 K = 5 ∧ ∃ a, a < many ∧ gIA gc 5 j = nI a ∧ gIA g 15 K = nI a ∧ t = srt a)
/-- an entry that works on one value -/
def Un (g gc : Gs) (cams K j s t : Nat) : Prop := s ≤ 7 ∧
  ((gIA gc 0 j = 64 ∧ gIA g 14 K = 6 ∧ s ≤ 5 ∧ t = 7 ∧ ∃ a, a < cams ∧ gIA gc 5 j = nI a ∧ gIA g 15 K = nI a) ∨
  (gIA gc 0 j = 65 ∧ gIA g 14 K = 7 ∧ 1 ≤ s ∧ t = max 4 s ∧ gIA g 16 K = nI s ∧ gIA gc 3 j = nI s ∧ gIA gc 2 j = nI t) ∨
  (gIA gc 0 j = 54 ∧ gIA g 14 K = 8 ∧ s = 0 ∧ t = 0 ∧ (∃ l, gIA gc 3 j = nI l) ∧ ∃ r, gIA gc 2 j = nI r) ∨
  (gIA gc 0 j = 66 ∧ gIA g 14 K = 9 ∧ ((s = 0 ∧ t = 0) ∨ (1 ≤ s ∧ 1 ≤ t)) ∧ t ≤ 7 ∧ gIA g 15 K = nI t ∧ gIA g 16 K = nI s ∧ gIA gc 3 j = nI s ∧ gIA gc 2 j = nI t) ∨
  (∃ w, w < 4 ∧ gIA gc 0 j = nI (19 + w) ∧ gIA g 14 K = 10 ∧ gIA g 15 K = nI (209 + w) ∧ 1 ≤ s ∧ t = 7 ∧ gIA g 16 K = nI s ∧ gIA gc 3 j = nI s ∧ gIA gc 2 j = nI 7))
/-- an entry that works on two values -/
def Bi (g gc : Gs) (K j l r t : Nat) : Prop := gIA g 16 K = nI (8 * l + r) ∧ gIA gc 3 j = nI l ∧ gIA gc 4 j = nI r ∧ l ≤ 7 ∧ r ≤ 7 ∧
  ((1 ≤ l ∧ 1 ≤ r ∧ gIA g 14 K = 12 ∧ gIA gc 2 j = nI (jn l r) ∧ t = jn l r ∧ OP (gIA g 15 K) (gIA gc 0 j)) ∨
  (1 ≤ l ∧ 1 ≤ r ∧ gIA g 14 K = 12 ∧ gIA gc 2 j = nI (jn l r) ∧ t = 0 ∧ CP (gIA g 15 K) (gIA gc 0 j)) ∨
  (1 ≤ l ∧ 1 ≤ r ∧ gIA g 14 K = 11 ∧ gIA gc 2 j = nI (jn l r) ∧ t = jn l r ∧ ∃ m : Bool, gIA g 15 K = (if m = true then 214 else 213) ∧ gIA gc 0 j = (if m = true then 24 else 23)) ∨
  (1 ≤ l ∧ 1 ≤ r ∧ gIA g 14 K = 11 ∧ gIA gc 2 j = nI 7 ∧ t = 7 ∧ gIA g 15 K = 215 ∧ gIA gc 0 j = 25) ∨
  (l = 0 ∧ r = 0 ∧ gIA g 14 K = 12 ∧ gIA gc 2 j = nI 0 ∧ t = 0 ∧ ∃ e : Bool, gIA g 15 K = (if e = true then 189 else 161) ∧ gIA gc 0 j = (if e = true then 59 else 60)))
/-- from j to j' lies the code of a part of sort t, that wants d rows; on the reference's side off further; m bounds its depth -/
def Ex (g gc : Gs) (off : Nat) (srt : Nat → Nat) (many cams : Nat) : Nat → (Nat → Nat → Nat → Nat → Prop)
  | 0 => fun _ _ _ _ => False
  | m + 1 => fun j j' t d =>
    (j' = j + 1 ∧ d = 1 ∧ Ps g gc srt many (off + j) j t) ∨
    (∃ i s, j' = i + 1 ∧ Ex g gc off srt many cams m j i s d ∧ Un g gc cams (off + i) i s t ∧ gIA gc 1 i = gIA g 17 (off + i)) ∨
    (∃ i k l r d1 d2, j' = k + 1 ∧ d = max d1 (d2 + 1) ∧ Ex g gc off srt many cams m j i l d1 ∧ Ex g gc off srt many cams m i k r d2 ∧ Bi g gc (off + k) k l r t ∧ gIA gc 1 k = gIA g 17 (off + k)) ∨
    (∃ (o : Bool) (i k d1 d2 : Nat), j' = k + 1 ∧ d = max d1 d2 ∧ t = 0 ∧ Ex g gc off srt many cams m j i 0 d1 ∧ (gIA gc 0 i = (if o = true then 68 else 67) ∧ gIA g 14 (off + i) = (if o = true then 15 else 13) ∧ gIA gc 5 i = nI k ∧ gIA g 15 (off + i) = nI (off + k + 1)) ∧ Ex g gc off srt many cams m (i + 1) k 0 d2 ∧ (gIA gc 0 k = (if o = true then 62 else 61) ∧ gIA g 14 (off + k) = (if o = true then 16 else 14))) ∨
    (∃ i p k a b d1 d2 d3, j' = k + 1 ∧ d = max d1 (max d2 d3) ∧ Ex g gc off srt many cams m j i 0 d1 ∧ (gIA gc 0 i = 69 ∧ gIA g 14 (off + i) = 17 ∧ gIA gc 5 i = nI p ∧ gIA g 15 (off + i) = nI (off + p + 1)) ∧ Ex g gc off srt many cams m (i + 1) p a d2 ∧ (gIA gc 0 p = 70 ∧ gIA g 14 (off + p) = 18 ∧ gIA gc 5 p = nI k ∧ gIA g 15 (off + p) = nI (off + k + 1) ∧ gIA gc 3 p = nI a ∧ gIA gc 2 p = nI t ∧ gIA g 16 (off + p) = nI (8 * a + t)) ∧ Ex g gc off srt many cams m (p + 1) k b d3 ∧ (gIA gc 0 k = 44 ∧ gIA g 14 (off + k) = 19 ∧ gIA gc 4 k = nI b ∧ gIA gc 2 k = nI t ∧ gIA g 16 (off + k) = nI (8 * b + t)) ∧ ((a = 0 ∧ b = 0 ∧ t = 0) ∨ (1 ≤ a ∧ 1 ≤ b ∧ a ≤ 7 ∧ b ≤ 7 ∧ t = jn a b)))
theorem Ex.lt {g gc : Gs} {off : Nat} {srt : Nat → Nat} {many cams m : Nat} : ∀ {j j' t d : Nat}, Ex g gc off srt many cams m j j' t d → j < j' ∧ 1 ≤ d := by
  induction m with
  | zero => intro j j' t d h; exact h.elim
  | succ m ih =>
    intro j j' t d h
    rcases h with ⟨h1, h2, _⟩ | ⟨i, s, h1, h2, _⟩ | ⟨i, k, l, r, d1, d2, h1, h2, h3, h4, _⟩ | ⟨o, i, k, d1, d2, h1, h2, _, h3, _, h4, _⟩ | ⟨i, p, k, a, b, d1, d2, d3, h1, h2, h3, _, h4, _, h5, _⟩
    · omega
    · have := ih h2; omega
    · have := ih h3; have := ih h4; omega
    · have := ih h3; have := ih h4; omega
    · have := ih h3; have := ih h4; have := ih h5; omega
/-- things, ticks and step of both sides -/
def Dyn (g gs : Gs) (srt : Nat → Nat) (many : Nat) : Prop := many ≤ 40 ∧ gL g 87 = gL gs 14 ∧ VR 7 (gL g 91) 0 (gD gs 15) ∧ ∀ a, a < many → VR (srt a) (gLA g 80 a) (gLA gs 0 a) (gDA gs 1 a) ∧ VI (srt a) (gLA g 80 a) ∧ VR (srt a) (gLA g 81 a) (gLA gs 2 a) (gDA gs 3 a) ∧ VI (srt a) (gLA g 81 a)
/-- the states while a code runs, T values being held -/
def RS (g0 gm0 : Gs) (T : Nat) (g gm : Gs) : Prop := Fr [0, 1, 2, 92, 93, 94, 95, 96] g0 g ∧ Fr [2, 3, 4, 5, 6] gm0 gm ∧ gI g 93 = nI T ∧ gI gm 4 = nI T ∧ gI gm 5 = 0
/-- what comes of running a part's code -/
def Res (n : Nat) (g0 gm0 g2 gs gp gc : Gs) (off last T t j' : Nat) (g gm : Gs) (fr fm cost : Nat) (ref cls : Option (Int32 × Gs)) : Prop :=
  (∃ g' gm' fr' fm', fr ≤ fr' + cost ∧ (fm ≤ fm' + cost ∧ fm' ≤ fm) ∧ ref = L_X12_works n fr' g' (nI (off + last)) (nI (off + j')) ∧ cls = LX n fm' gm' g2 gs gp gc (nI last) (nI j') ∧ RS g0 gm0 (T + 1) g' gm' ∧ (∀ i, i < T → gLA g' 92 i = gLA g 92 i ∧ gLA gm' 2 i = gLA gm 2 i ∧ gDA gm' 3 i = gDA gm 3 i) ∧ VR t (gLA g' 92 T) (gLA gm' 2 T) (gDA gm' 3 T) ∧ VI t (gLA g' 92 T)) ∨
  (∃ g' gm', ref = some (0, g') ∧ cls = some (0, gm') ∧ Fr [0, 1, 2, 92, 93, 94, 95, 96] g0 g' ∧ Fr [2, 3, 4, 5, 6] gm0 gm' ∧ gI gm' 5 ≠ 0 ∧ gI g' 95 = gI gm' 5 ∧ gI g' 96 = gI gm' 6)
/-- a step that is done on both sides -/
theorem res_step {n : Nat} {g0 gm0 g2 gs gp gc : Gs} {off last T T' t i : Nat} {g gm : Gs} {fr fm : Nat} {D : Option (Int32 × Gs)} {C : Option Gs} (h : RS g0 gm0 T' g gm) (hfm : 1 ≤ fm) (hpl : gIA gc 1 i = gIA g0 17 (off + i) ∨ ∃ g', D = some (1, g')) (ho : Out g (sI gm 6 (gIA gc 1 i)) T (off + i) t D C) : Res n g0 gm0 g2 gs gp gc off last T t (i + 1) g gm (fr + 1) (fm + 1) 1 (bnd D (fun q => if q.1 = 0 then some (0, q.2) else L_X12_works n fr q.2 (nI (off + last)) (nI (off + i + 1)))) (bnd C (fun q => LX n fm q g2 gs gp gc (nI last) (nI (i + 1)))) := by
  obtain ⟨r1, r2, r3, r4, r5⟩ := h
  have f6 : Fr [2, 3, 4, 5, 6] gm0 (sI gm 6 (gIA gc 1 i)) := r2.trans (Fr.sI (by decide) _ _)
  rcases ho with ⟨g', gm', h1, h2, h3, h4, h5, h6, h7, h8, h9, h10, h11⟩ | ⟨g', gm', h1, h2, h3, h4, h5, h6, h7⟩
  · left
    refine ⟨g', gm', fr, fm, by omega, by omega, ?_, ?_, ⟨r1.trans (h3.mono (by decide)), f6.trans (h4.mono (by decide)), h5, h6, h11.trans r5⟩, fun j hj => ⟨h7 j hj, h8 j hj⟩, h9, h10⟩
    · rw [bnd_s h1]; rfl
    · rw [bnd_s h2]
  · right
    refine ⟨g', gm', ?_, ?_, r1.trans (h3.mono (by decide)), f6.trans (h4.mono (by decide)), h5, h6, ?_⟩
    · rw [bnd_s h1]; rfl
    · rw [bnd_s h2]
      obtain ⟨f, rfl⟩ : ∃ f, fm = f + 1 := ⟨fm - 1, by omega⟩
      exact run_jam h5
    · rcases hpl with hpl | ⟨g'', hpl⟩
      · rw [h7, (h4 6 (by decide)).1, (r1 17 (by decide)).2.2.2.1, ← hpl]; rfl
      · rw [hpl] at h1
        injection h1 with h1
        injection h1 with h1 _
        exact absurd h1 (by decide)
/-- first one part, then the rest -/
theorem Res.next {n : Nat} {g0 gm0 g2 gs gp gc : Gs} {off last T U t u i j' : Nat} {g gm : Gs} {fr fm c1 c2 : Nat} {ref cls : Option (Int32 × Gs)} (hU : U ≤ T) (h : Res n g0 gm0 g2 gs gp gc off last T t i g gm fr fm c1 ref cls)
    (k : ∀ (g' gm' : Gs) (fr' fm' : Nat), fr ≤ fr' + c1 → (fm ≤ fm' + c1 ∧ fm' ≤ fm) → RS g0 gm0 (T + 1) g' gm' → (∀ i, i < T → gLA g' 92 i = gLA g 92 i ∧ gLA gm' 2 i = gLA gm 2 i ∧ gDA gm' 3 i = gDA gm 3 i) → VR t (gLA g' 92 T) (gLA gm' 2 T) (gDA gm' 3 T) → VI t (gLA g' 92 T) → Res n g0 gm0 g2 gs gp gc off last U u j' g' gm' fr' fm' c2 (L_X12_works n fr' g' (nI (off + last)) (nI (off + i))) (LX n fm' gm' g2 gs gp gc (nI last) (nI i))) : Res n g0 gm0 g2 gs gp gc off last U u j' g gm fr fm (c1 + c2) ref cls := by
  rcases h with ⟨g', gm', fr', fm', h1, h2, h3, h4, h5, h6, h7, h8⟩ | h
  · rw [h3, h4]
    rcases k g' gm' fr' fm' h1 h2 h5 h6 h7 h8 with ⟨g'', gm'', fr'', fm'', k1, k2, k3, k4, k5, k6, k7⟩ | k
    · left
      refine ⟨g'', gm'', fr'', fm'', by omega, by omega, k3, k4, k5, ?_, k7⟩
      intro i hi
      obtain ⟨a1, a2, a3⟩ := k6 i hi
      obtain ⟨b1, b2, b3⟩ := h6 i (by omega)
      exact ⟨a1.trans b1, a2.trans b2, a3.trans b3⟩
    · exact .inr k
  · exact .inr h
theorem Res.cost {n : Nat} {g0 gm0 g2 gs gp gc : Gs} {off last T t j' : Nat} {g gm : Gs} {fr fm c c' : Nat} {ref cls : Option (Int32 × Gs)} (h : Res n g0 gm0 g2 gs gp gc off last T t j' g gm fr fm c ref cls) (hc : c ≤ c') : Res n g0 gm0 g2 gs gp gc off last T t j' g gm fr fm c' ref cls := by
  rcases h with ⟨g', gm', fr', fm', h1, h2, h3⟩ | h
  · exact .inl ⟨g', gm', fr', fm', by omega, by omega, h3⟩
  · exact .inr h
