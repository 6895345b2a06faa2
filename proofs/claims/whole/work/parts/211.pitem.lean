/-! plans' texts: a NAME told, items -/
theorem len10 {n L T : Nat} {g2 G : Gs} {B : Nat → Nat} (hS : ScR n g2 L B G T) {t : Nat} (ht : t < T) (hk : tk G t = 2) : te G t - ta G t ≤ 10 ∧ te G t ≤ L ∧ ta G t ≤ L := by
  obtain ⟨_, _, _, s4, _, _⟩ := hS
  obtain ⟨a1, a2, a3, a4, ⟨b1, b2, b3, b4, b5, b6, b7, b8, b9⟩, _⟩ := s4 t ht
  exact ⟨b7 hk, b4, b3⟩
theorem NU.keep {T : Nat} {g g' gc gc' : Gs} {E : Nat → Nat × Nat × Nat} {FA : Nat → Nat} {f m K K' : Nat} (h : NU T g gc E FA f m) (hk : Nk g g' K K') (h1 : K ≤ m) (h2 : m < K') (hc : ∀ F, F < f → gIA gc' 15 F = gIA gc 15 F ∧ gIA gc' 16 F = gIA gc 16 F) : NU T g' gc' E FA f m := by
  obtain ⟨F, a, x, y, x1, x2, x3, x4, x5, x6, x7, x8, x9, x10, x11, x12⟩ := h
  obtain ⟨r1, r2, r3, r4, r5⟩ := hk m h1 h2
  obtain ⟨o1, o2⟩ := hc F x1
  exact ⟨F, a, x, y, x1, x2, x3, x4, by rw [hk.ntE h1 h2]; exact x5, by rw [r5]; exact x6, by rw [r1]; exact x7, x8, x9, by rw [o1]; exact x10, by rw [o2]; exact x11, by rw [r3, r4]; exact x12⟩
/-- a NAME is told: the rows of the class's names -/
theorem Nd.name {n L T : Nat} {g2 g g' gt gp : Gs} {B : Nat → Nat} {X : List Nat} {k row i r a s : Nat} (hS : ScR n g2 L B g T) (h : Nd T g gt gp k row i) (hf : Fr X g g') (hX : nTk X) (hk : gIA g' k i = gIA g k i) (hr : row ≠ r) (hs : s ≤ 10) : Nd T g' gt (nameP gp gt r a s) k row i := by
  obtain ⟨e1, e2, e3, e4, e5⟩ := tok_same hf hX
  obtain ⟨t, x1, x2, x3, x4, x5, x6⟩ := h
  obtain ⟨n1, n2, n3⟩ := (nameP_at gp gt r a s).2.2.2 row hr
  have l := (len10 hS x2 x3).1
  unfold Nd
  rw [e1, e2, e3, hk]
  exact ⟨t, x1, x2, x3, by rw [n2]; exact x4, by rw [n1]; exact x5, fun q hq => by rw [n3 hs q (by omega)]; exact x6 q hq⟩
theorem Nd.new {T : Nat} {g g' gt gp : Gs} {X : List Nat} {k i r t : Nat} (hf : Fr X g g') (hX : nTk X) (hk : gIA g' k i = nI t) (ht : t < T) (hn : tk g t = 2) : Nd T g' gt (nameP gp gt r (ta g t) (te g t - ta g t)) k r i := by
  obtain ⟨e1, e2, e3, e4, e5⟩ := tok_same hf hX
  obtain ⟨n1, n2, n3, _⟩ := nameP_at gp gt r (ta g t) (te g t - ta g t)
  unfold Nd
  rw [e1, e2, e3]
  exact ⟨t, hk, ht, hn, n2, n1, n3⟩
theorem PN.tellT {n L T : Nat} {g2 g g' gt gp gc : Gs} {B : Nat → Nat} {X : List Nat} {j j' t th be ca f A M : Nat} {E : Nat → Nat × Nat × Nat} {FA : Nat → Nat} (hS : ScR n g2 L B g T) (h : PN T g gt gp gc j th be ca f A M E FA) (hf : Fr X g g') (hX : nTk X) (hK : gIA g' 37 = upd (gIA g 37) th (nI t)) (h48 : gIA g' 48 = gIA g 48) (h53 : gIA g' 53 = gIA g 53) (hk : Nk g g' 0 M) (r28 : gIA g' 28 M = 0) (r29 : gIA g' 29 M = nI t) (hj : j ≤ t) (hj' : t < j') (ht : t < T) (hn : tk g t = 2) (hc : th ≤ 40 ∧ be ≤ 12 ∧ ca ≤ 8) (hl : th < 40) (hT : T ≤ 3001) : PN T g' gt (nameP gp gt (th) (ta g t) (te g t - ta g t)) gc j' (th + 1) be ca f A (M + 1) E FA := by
  obtain ⟨⟨f1, f2, f3⟩, ⟨n1, n2, n3, n4, n5, n6⟩, m1, m2, m3, m4, m5, m6⟩ := h
  have hs : te g t - ta g t ≤ 10 := (len10 hS ht hn).1
  have eM : nt g' M = t := by unfold nt; rw [r29, nI_clamp (by omega)]
  refine ⟨⟨f1, f2, f3⟩, ⟨fun i hi => by
      by_cases h : i = th
      · rw [h]; exact Nd.new hf hX (by rw [hK]; exact pk_us) ht hn
      · exact (n1 i (by omega)).name hS hf hX (by rw [hK]; exact pk_un (by omega)) (by omega) hs, fun i hi => ((n2 i hi).name hS hf hX (by rw [h48]) (by omega) hs), fun i hi => ((n3 i hi).name hS hf hX (by rw [h53]) (by omega) hs), fun i i' h1 h2 => by
      unfold rtk
      rw [hK]
      by_cases h : i' = th
      · obtain ⟨m, y1, y2, y3⟩ := m4 i (by omega)
        have := (m1 m y1).2.1
        rw [h, pk_us, pk_un (by omega), y3, nI_clamp (by omega), nI_clamp (by omega)]; omega
      · rw [pk_un h, pk_un (by omega)]; exact n4 i i' h1 (by omega), fun i i' h1 h2 => by unfold rtk; rw [h48]; exact n5 i i' h1 h2, fun i i' h1 h2 => by unfold rtk; rw [h53]; exact n6 i i' h1 h2⟩, fun m hm => ?_, fun m m' h1 h2 => ?_, fun F a h1 h2 h3 h4 => ?_, fun i hi => ?_, fun i hi => ?_, fun i hi => ?_⟩
  · by_cases h : m < M
    · obtain ⟨y1, y2, y3⟩ := m1 m h
      have e := hk.ntE (g := g) (g' := g') (Nat.zero_le m) h
      refine ⟨by rw [e, (hk m (by omega) h).2.1]; exact y1, by rw [e]; omega, ?_⟩
      rcases y3 with ⟨z1, z2⟩ | z
      · refine .inl ⟨by rw [(hk m (by omega) h).1]; exact z1, ?_⟩
        rw [e]
        rcases z2 with ⟨i, i1, i2⟩ | ⟨i, i1, i2⟩ | ⟨i, i1, i2⟩
        · exact .inl ⟨i, by omega, by rw [hK, pk_un (by omega)]; exact i2⟩
        · exact .inr (.inl ⟨i, by omega, by rw [h48]; exact i2⟩)
        · exact .inr (.inr ⟨i, by omega, by rw [h53]; exact i2⟩)
      · exact .inr (z.keep hk (by omega) h (fun _ _ => ⟨rfl, rfl⟩))
    · have : m = M := by omega
      rw [this, eM]
      refine ⟨r29, hj', .inl ⟨r28, ?_⟩⟩
      exact .inl ⟨th, by omega, by rw [hK, eM]; exact pk_us⟩
  · by_cases h : m' < M
    · rw [hk.ntE (g := g) (Nat.zero_le m) (by omega), hk.ntE (g := g) (Nat.zero_le m') h]
      exact m2 m m' h1 h
    · have : m' = M := by omega
      rw [this, eM, hk.ntE (g := g) (Nat.zero_le m) (by omega)]
      have := (m1 m (by omega)).2.1
      omega
  · obtain ⟨m, y1, y2, y3, y4⟩ := m3 F a h1 h2 h3 h4
    obtain ⟨r1, r2, r3, r4, r5⟩ := hk m (by omega) y1
    exact ⟨m, by omega, by rw [hk.ntE (g := g) (Nat.zero_le m) y1]; exact y2, by rw [r5]; exact y3, by rw [r1]; exact y4⟩
  · by_cases h : i = th
    · exact ⟨M, by omega, r28, by rw [h, hK, eM]; exact pk_us⟩
    · obtain ⟨m, y1, y2, y3⟩ := m4 i (by omega)
      exact ⟨m, by omega, by rw [(hk m (by omega) y1).1]; exact y2, by rw [hK, pk_un h, hk.ntE (g := g) (Nat.zero_le m) y1]; exact y3⟩
  · obtain ⟨m, y1, y2, y3⟩ := m5 i hi
    exact ⟨m, by omega, by rw [(hk m (by omega) y1).1]; exact y2, by rw [h48, hk.ntE (g := g) (Nat.zero_le m) y1]; exact y3⟩
  · obtain ⟨m, y1, y2, y3⟩ := m6 i hi
    exact ⟨m, by omega, by rw [(hk m (by omega) y1).1]; exact y2, by rw [h53, hk.ntE (g := g) (Nat.zero_le m) y1]; exact y3⟩
theorem PN.tellB {n L T : Nat} {g2 g g' gt gp gc : Gs} {B : Nat → Nat} {X : List Nat} {j j' t th be ca f A M : Nat} {E : Nat → Nat × Nat × Nat} {FA : Nat → Nat} (hS : ScR n g2 L B g T) (h : PN T g gt gp gc j th be ca f A M E FA) (hf : Fr X g g') (hX : nTk X) (hK : gIA g' 48 = upd (gIA g 48) be (nI t)) (h37 : gIA g' 37 = gIA g 37) (h53 : gIA g' 53 = gIA g 53) (hk : Nk g g' 0 M) (r28 : gIA g' 28 M = 0) (r29 : gIA g' 29 M = nI t) (hj : j ≤ t) (hj' : t < j') (ht : t < T) (hn : tk g t = 2) (hc : th ≤ 40 ∧ be ≤ 12 ∧ ca ≤ 8) (hl : be < 12) (hT : T ≤ 3001) : PN T g' gt (nameP gp gt (40 + be) (ta g t) (te g t - ta g t)) gc j' th (be + 1) ca f A (M + 1) E FA := by
  obtain ⟨⟨f1, f2, f3⟩, ⟨n1, n2, n3, n4, n5, n6⟩, m1, m2, m3, m4, m5, m6⟩ := h
  have hs : te g t - ta g t ≤ 10 := (len10 hS ht hn).1
  have eM : nt g' M = t := by unfold nt; rw [r29, nI_clamp (by omega)]
  refine ⟨⟨f1, f2, f3⟩, ⟨fun i hi => ((n1 i hi).name hS hf hX (by rw [h37]) (by omega) hs), fun i hi => by
      by_cases h : i = be
      · rw [h]; exact Nd.new hf hX (by rw [hK]; exact pk_us) ht hn
      · exact (n2 i (by omega)).name hS hf hX (by rw [hK]; exact pk_un (by omega)) (by omega) hs, fun i hi => ((n3 i hi).name hS hf hX (by rw [h53]) (by omega) hs), fun i i' h1 h2 => by unfold rtk; rw [h37]; exact n4 i i' h1 h2, fun i i' h1 h2 => by
      unfold rtk
      rw [hK]
      by_cases h : i' = be
      · obtain ⟨m, y1, y2, y3⟩ := m5 i (by omega)
        have := (m1 m y1).2.1
        rw [h, pk_us, pk_un (by omega), y3, nI_clamp (by omega), nI_clamp (by omega)]; omega
      · rw [pk_un h, pk_un (by omega)]; exact n5 i i' h1 (by omega), fun i i' h1 h2 => by unfold rtk; rw [h53]; exact n6 i i' h1 h2⟩, fun m hm => ?_, fun m m' h1 h2 => ?_, fun F a h1 h2 h3 h4 => ?_, fun i hi => ?_, fun i hi => ?_, fun i hi => ?_⟩
  · by_cases h : m < M
    · obtain ⟨y1, y2, y3⟩ := m1 m h
      have e := hk.ntE (g := g) (g' := g') (Nat.zero_le m) h
      refine ⟨by rw [e, (hk m (by omega) h).2.1]; exact y1, by rw [e]; omega, ?_⟩
      rcases y3 with ⟨z1, z2⟩ | z
      · refine .inl ⟨by rw [(hk m (by omega) h).1]; exact z1, ?_⟩
        rw [e]
        rcases z2 with ⟨i, i1, i2⟩ | ⟨i, i1, i2⟩ | ⟨i, i1, i2⟩
        · exact .inl ⟨i, by omega, by rw [h37]; exact i2⟩
        · exact .inr (.inl ⟨i, by omega, by rw [hK, pk_un (by omega)]; exact i2⟩)
        · exact .inr (.inr ⟨i, by omega, by rw [h53]; exact i2⟩)
      · exact .inr (z.keep hk (by omega) h (fun _ _ => ⟨rfl, rfl⟩))
    · have : m = M := by omega
      rw [this, eM]
      refine ⟨r29, hj', .inl ⟨r28, ?_⟩⟩
      exact .inr (.inl ⟨be, by omega, by rw [hK, eM]; exact pk_us⟩)
  · by_cases h : m' < M
    · rw [hk.ntE (g := g) (Nat.zero_le m) (by omega), hk.ntE (g := g) (Nat.zero_le m') h]
      exact m2 m m' h1 h
    · have : m' = M := by omega
      rw [this, eM, hk.ntE (g := g) (Nat.zero_le m) (by omega)]
      have := (m1 m (by omega)).2.1
      omega
  · obtain ⟨m, y1, y2, y3, y4⟩ := m3 F a h1 h2 h3 h4
    obtain ⟨r1, r2, r3, r4, r5⟩ := hk m (by omega) y1
    exact ⟨m, by omega, by rw [hk.ntE (g := g) (Nat.zero_le m) y1]; exact y2, by rw [r5]; exact y3, by rw [r1]; exact y4⟩
  · obtain ⟨m, y1, y2, y3⟩ := m4 i hi
    exact ⟨m, by omega, by rw [(hk m (by omega) y1).1]; exact y2, by rw [h37, hk.ntE (g := g) (Nat.zero_le m) y1]; exact y3⟩
  · by_cases h : i = be
    · exact ⟨M, by omega, r28, by rw [h, hK, eM]; exact pk_us⟩
    · obtain ⟨m, y1, y2, y3⟩ := m5 i (by omega)
      exact ⟨m, by omega, by rw [(hk m (by omega) y1).1]; exact y2, by rw [hK, pk_un h, hk.ntE (g := g) (Nat.zero_le m) y1]; exact y3⟩
  · obtain ⟨m, y1, y2, y3⟩ := m6 i hi
    exact ⟨m, by omega, by rw [(hk m (by omega) y1).1]; exact y2, by rw [h53, hk.ntE (g := g) (Nat.zero_le m) y1]; exact y3⟩
theorem PN.tellC {n L T : Nat} {g2 g g' gt gp gc : Gs} {B : Nat → Nat} {X : List Nat} {j j' t th be ca f A M : Nat} {E : Nat → Nat × Nat × Nat} {FA : Nat → Nat} (hS : ScR n g2 L B g T) (h : PN T g gt gp gc j th be ca f A M E FA) (hf : Fr X g g') (hX : nTk X) (hK : gIA g' 53 = upd (gIA g 53) ca (nI t)) (h37 : gIA g' 37 = gIA g 37) (h48 : gIA g' 48 = gIA g 48) (hk : Nk g g' 0 M) (r28 : gIA g' 28 M = 0) (r29 : gIA g' 29 M = nI t) (hj : j ≤ t) (hj' : t < j') (ht : t < T) (hn : tk g t = 2) (hc : th ≤ 40 ∧ be ≤ 12 ∧ ca ≤ 8) (hl : ca < 8) (hT : T ≤ 3001) : PN T g' gt (nameP gp gt (52 + ca) (ta g t) (te g t - ta g t)) gc j' th be (ca + 1) f A (M + 1) E FA := by
  obtain ⟨⟨f1, f2, f3⟩, ⟨n1, n2, n3, n4, n5, n6⟩, m1, m2, m3, m4, m5, m6⟩ := h
  have hs : te g t - ta g t ≤ 10 := (len10 hS ht hn).1
  have eM : nt g' M = t := by unfold nt; rw [r29, nI_clamp (by omega)]
  refine ⟨⟨f1, f2, f3⟩, ⟨fun i hi => ((n1 i hi).name hS hf hX (by rw [h37]) (by omega) hs), fun i hi => ((n2 i hi).name hS hf hX (by rw [h48]) (by omega) hs), fun i hi => by
      by_cases h : i = ca
      · rw [h]; exact Nd.new hf hX (by rw [hK]; exact pk_us) ht hn
      · exact (n3 i (by omega)).name hS hf hX (by rw [hK]; exact pk_un (by omega)) (by omega) hs, fun i i' h1 h2 => by unfold rtk; rw [h37]; exact n4 i i' h1 h2, fun i i' h1 h2 => by unfold rtk; rw [h48]; exact n5 i i' h1 h2, fun i i' h1 h2 => by
      unfold rtk
      rw [hK]
      by_cases h : i' = ca
      · obtain ⟨m, y1, y2, y3⟩ := m6 i (by omega)
        have := (m1 m y1).2.1
        rw [h, pk_us, pk_un (by omega), y3, nI_clamp (by omega), nI_clamp (by omega)]; omega
      · rw [pk_un h, pk_un (by omega)]; exact n6 i i' h1 (by omega)⟩, fun m hm => ?_, fun m m' h1 h2 => ?_, fun F a h1 h2 h3 h4 => ?_, fun i hi => ?_, fun i hi => ?_, fun i hi => ?_⟩
  · by_cases h : m < M
    · obtain ⟨y1, y2, y3⟩ := m1 m h
      have e := hk.ntE (g := g) (g' := g') (Nat.zero_le m) h
      refine ⟨by rw [e, (hk m (by omega) h).2.1]; exact y1, by rw [e]; omega, ?_⟩
      rcases y3 with ⟨z1, z2⟩ | z
      · refine .inl ⟨by rw [(hk m (by omega) h).1]; exact z1, ?_⟩
        rw [e]
        rcases z2 with ⟨i, i1, i2⟩ | ⟨i, i1, i2⟩ | ⟨i, i1, i2⟩
        · exact .inl ⟨i, by omega, by rw [h37]; exact i2⟩
        · exact .inr (.inl ⟨i, by omega, by rw [h48]; exact i2⟩)
        · exact .inr (.inr ⟨i, by omega, by rw [hK, pk_un (by omega)]; exact i2⟩)
      · exact .inr (z.keep hk (by omega) h (fun _ _ => ⟨rfl, rfl⟩))
    · have : m = M := by omega
      rw [this, eM]
      refine ⟨r29, hj', .inl ⟨r28, ?_⟩⟩
      exact .inr (.inr ⟨ca, by omega, by rw [hK, eM]; exact pk_us⟩)
  · by_cases h : m' < M
    · rw [hk.ntE (g := g) (Nat.zero_le m) (by omega), hk.ntE (g := g) (Nat.zero_le m') h]
      exact m2 m m' h1 h
    · have : m' = M := by omega
      rw [this, eM, hk.ntE (g := g) (Nat.zero_le m) (by omega)]
      have := (m1 m (by omega)).2.1
      omega
  · obtain ⟨m, y1, y2, y3, y4⟩ := m3 F a h1 h2 h3 h4
    obtain ⟨r1, r2, r3, r4, r5⟩ := hk m (by omega) y1
    exact ⟨m, by omega, by rw [hk.ntE (g := g) (Nat.zero_le m) y1]; exact y2, by rw [r5]; exact y3, by rw [r1]; exact y4⟩
  · obtain ⟨m, y1, y2, y3⟩ := m4 i hi
    exact ⟨m, by omega, by rw [(hk m (by omega) y1).1]; exact y2, by rw [h37, hk.ntE (g := g) (Nat.zero_le m) y1]; exact y3⟩
  · obtain ⟨m, y1, y2, y3⟩ := m5 i hi
    exact ⟨m, by omega, by rw [(hk m (by omega) y1).1]; exact y2, by rw [h48, hk.ntE (g := g) (Nat.zero_le m) y1]; exact y3⟩
  · by_cases h : i = ca
    · exact ⟨M, by omega, r28, by rw [h, hK, eM]; exact pk_us⟩
    · obtain ⟨m, y1, y2, y3⟩ := m6 i (by omega)
      exact ⟨m, by omega, by rw [(hk m (by omega) y1).1]; exact y2, by rw [hK, pk_un h, hk.ntE (g := g) (Nat.zero_le m) y1]; exact y3⟩
/-- items: things and bells in the order of the text -/
def ItT (g gp gc : Gs) (FA fn : Nat → Nat) (k i r : Nat) : Prop := ∃ s p, s ≤ 7 ∧ gIA gp 11 k = nI i ∧ gIA g 38 i = nI s ∧ gIA gp 7 i = nI s ∧ p ≤ 1 ∧ gIA g 39 i = nI p ∧ gIA gp 8 i = nI p ∧ fn (k + 1) = fn k + 1 + p ∧ gIA gp 9 i = nI (fn k) ∧ gIA gp 10 i = nI (fn k + p) ∧ gIA g 40 i = nI (2000 + FA (fn k)) ∧ gIA g 41 i = nI (2000 + FA (fn k + 1)) ∧ gIA g 42 i = nI (2000 + FA (fn k + 1 + p)) ∧ gIA g 45 i = nI r ∧ (gIA gc 13 (fn k) = nI i ∧ gIA gc 15 (fn k) = nI i) ∧ gIA gc 14 (fn k) = gIA g 43 i ∧ (p = 1 → gIA gc 13 (fn k + 1) = nI i ∧ gIA gc 14 (fn k + 1) = gIA g 44 i)
def ItB (g gp gc : Gs) (FA fn : Nat → Nat) (k b r : Nat) : Prop := gIA gp 11 k = nI (40 + b) ∧ gIA gp 10 (40 + b) = nI (fn k) ∧ fn (k + 1) = fn k + 1 ∧ gIA g 49 b = nI (2000 + FA (fn k)) ∧ gIA g 50 b = nI (2000 + FA (fn k + 1)) ∧ gIA g 52 b = nI r ∧ gIA gc 13 (fn k) = nI (40 + b) ∧ gIA gc 14 (fn k) = gIA g 51 b
def PI (g gp gc : Gs) (th be f : Nat) (FA : Nat → Nat) (M : Nat) (tn fn rkk : Nat → Nat) : Prop :=
  (tn 0 = 0 ∧ tn (th + be) = th ∧ fn 0 = 0 ∧ fn (th + be) = f) ∧ (∀ k, k ≤ th + be → tn k ≤ th ∧ tn k ≤ k ∧ k ≤ be + tn k ∧ fn k ≤ f) ∧ (∀ k, k < th + be → rkk k < M) ∧ (∀ k k', k < k' → k' < th + be → rkk k < rkk k') ∧
  ∀ k, k < th + be → (tn (k + 1) = tn k + 1 ∧ ItT g gp gc FA fn k (tn k) (rkk k)) ∨ (tn (k + 1) = tn k ∧ ItB g gp gc FA fn k (k - tn k) (rkk k))
theorem ItT.keep {g g' gp gp' gc gc' : Gs} {FA FA' fn fn' : Nat → Nat} {k i r th f Q : Nat} (h : ItT g gp gc FA fn k i r) (hi : i < th) (hk : k < Q) (hfn : fn' k = fn k ∧ fn' (k + 1) = fn (k + 1)) (hf : fn (k + 1) ≤ f) (hFA : ∀ F, F ≤ f → FA' F = FA F) (hg : ∀ s, 38 ≤ s → s ≤ 45 → gIA g' s i = gIA g s i) (hp : ∀ s, 7 ≤ s → s ≤ 10 → gIA gp' s i = gIA gp s i) (ho : gIA gp' 11 k = gIA gp 11 k) (hc : ∀ F, F < f → gIA gc' 13 F = gIA gc 13 F ∧ gIA gc' 14 F = gIA gc 14 F ∧ gIA gc' 15 F = gIA gc 15 F) : ItT g' gp' gc' FA' fn' k i r := by
  obtain ⟨s, p, x1, x2, x3, x4, x5, x6, x7, x8, x9, x10, x11, x12, x13, x14, x15, x16, x17⟩ := h
  unfold ItT
  rw [hfn.1, hfn.2, ho, hg 38 (by omega) (by omega), hg 39 (by omega) (by omega), hg 40 (by omega) (by omega), hg 41 (by omega) (by omega), hg 42 (by omega) (by omega), hg 43 (by omega) (by omega), hg 44 (by omega) (by omega), hg 45 (by omega) (by omega), hp 7 (by omega) (by omega), hp 8 (by omega) (by omega), hp 9 (by omega) (by omega), hp 10 (by omega) (by omega), hFA (fn k) (by omega), hFA (fn k + 1) (by omega), (hc (fn k) (by omega)).1, (hc (fn k) (by omega)).2.1, (hc (fn k) (by omega)).2.2]
  refine ⟨s, p, x1, x2, x3, x4, x5, x6, x7, x8, x9, x10, x11, x12, by rw [hFA _ (by omega)]; exact x13, x14, x15, x16, fun z => ?_⟩
  rw [(hc (fn k + 1) (by omega)).1, (hc (fn k + 1) (by omega)).2.1]
  exact x17 z
theorem ItB.keep {g g' gp gp' gc gc' : Gs} {FA FA' fn fn' : Nat → Nat} {k b r f : Nat} (h : ItB g gp gc FA fn k b r) (hfn : fn' k = fn k ∧ fn' (k + 1) = fn (k + 1)) (hf : fn (k + 1) ≤ f) (hFA : ∀ F, F ≤ f → FA' F = FA F) (hg : ∀ s, 49 ≤ s → s ≤ 52 → gIA g' s b = gIA g s b) (hp : gIA gp' 10 (40 + b) = gIA gp 10 (40 + b)) (ho : gIA gp' 11 k = gIA gp 11 k) (hc : ∀ F, F < f → gIA gc' 13 F = gIA gc 13 F ∧ gIA gc' 14 F = gIA gc 14 F ∧ gIA gc' 15 F = gIA gc 15 F) : ItB g' gp' gc' FA' fn' k b r := by
  obtain ⟨x1, x2, x3, x4, x5, x6, x7, x8⟩ := h
  unfold ItB
  rw [hfn.1, hfn.2, ho, hp, hg 49 (by omega) (by omega), hg 50 (by omega) (by omega), hg 51 (by omega) (by omega), hg 52 (by omega) (by omega), hFA (fn k) (by omega), hFA (fn k + 1) (by omega), (hc (fn k) (by omega)).1, (hc (fn k) (by omega)).2.1]
  exact ⟨x1, x2, x3, x4, x5, x6, x7, x8⟩
/-- one item more: k is the next place, told at rank r, its formulas f to f' -/
theorem PI.more {g g' gp gp' gc gc' : Gs} {th be th' be' f f' M M' r : Nat} {FA FA' tn fn rkk : Nat → Nat} (h : PI g gp gc th be f FA M tn fn rkk) (hM : M ≤ r ∧ r < M') (hf : f ≤ f') (hFA : ∀ F, F ≤ f → FA' F = FA F) (hg : ∀ s, 38 ≤ s → s ≤ 45 → ∀ i, i < th → gIA g' s i = gIA g s i) (hgb : ∀ s, 49 ≤ s → s ≤ 52 → ∀ b, b < be → gIA g' s b = gIA g s b) (hp : ∀ s, 7 ≤ s → s ≤ 10 → ∀ i, i < th → gIA gp' s i = gIA gp s i) (hpb : ∀ b, b < be → gIA gp' 10 (40 + b) = gIA gp 10 (40 + b)) (ho : ∀ k, k < th + be → gIA gp' 11 k = gIA gp 11 k) (hc : ∀ F, F < f → gIA gc' 13 F = gIA gc 13 F ∧ gIA gc' 14 F = gIA gc 14 F ∧ gIA gc' 15 F = gIA gc 15 F) (hnew : (th' = th + 1 ∧ be' = be ∧ ItT g' gp' gc' FA' (fun k => if k ≤ th + be then fn k else f') (th + be) th r) ∨ (th' = th ∧ be' = be + 1 ∧ ItB g' gp' gc' FA' (fun k => if k ≤ th + be then fn k else f') (th + be) be r)) : PI g' gp' gc' th' be' f' FA' M' (fun k => if k ≤ th + be then tn k else th') (fun k => if k ≤ th + be then fn k else f') (fun k => if k < th + be then rkk k else r) := by
  obtain ⟨⟨t1, t2, t3, t4⟩, b1, r1, r2, i1⟩ := h
  have hQ : th' + be' = th + be + 1 := by rcases hnew with ⟨a, b, _⟩ | ⟨a, b, _⟩ <;> omega
  refine ⟨⟨?_, ?_, ?_, ?_⟩, fun k hk => ?_, fun k hk => ?_, fun k k' h1 h2 => ?_, fun k hk => ?_⟩
  · show (if 0 ≤ th + be then tn 0 else th') = 0; rw [if_pos (by omega)]; exact t1
  · show (if th' + be' ≤ th + be then tn (th' + be') else th') = th'; rw [if_neg (by omega)]
  · show (if 0 ≤ th + be then fn 0 else f') = 0; rw [if_pos (by omega)]; exact t3
  · show (if th' + be' ≤ th + be then fn (th' + be') else f') = f'; rw [if_neg (by omega)]
  · show (if k ≤ th + be then tn k else th') ≤ th' ∧ (if k ≤ th + be then tn k else th') ≤ k ∧ k ≤ be' + (if k ≤ th + be then tn k else th') ∧ (if k ≤ th + be then fn k else f') ≤ f'
    by_cases h : k ≤ th + be
    · have := b1 k h
      rw [if_pos h, if_pos h]
      rcases hnew with ⟨a, b, _⟩ | ⟨a, b, _⟩ <;> omega
    · rw [if_neg h, if_neg h]
      rcases hnew with ⟨a, b, _⟩ | ⟨a, b, _⟩ <;> omega
  · show (if k < th + be then rkk k else r) < M'
    by_cases h : k < th + be
    · rw [if_pos h]; have := r1 k h; omega
    · rw [if_neg h]; omega
  · show (if k < th + be then rkk k else r) < (if k' < th + be then rkk k' else r)
    by_cases h : k' < th + be
    · rw [if_pos (by omega), if_pos h]; exact r2 k k' h1 h
    · rw [if_pos (by omega), if_neg h]; have := r1 k (by omega); omega
  · show ((if k + 1 ≤ th + be then tn (k + 1) else th') = (if k ≤ th + be then tn k else th') + 1 ∧ ItT g' gp' gc' FA' (fun k => if k ≤ th + be then fn k else f') k (if k ≤ th + be then tn k else th') (if k < th + be then rkk k else r)) ∨ ((if k + 1 ≤ th + be then tn (k + 1) else th') = (if k ≤ th + be then tn k else th') ∧ ItB g' gp' gc' FA' (fun k => if k ≤ th + be then fn k else f') k (k - (if k ≤ th + be then tn k else th')) (if k < th + be then rkk k else r))
    by_cases h : k < th + be
    · rw [if_pos (show k + 1 ≤ th + be by omega), if_pos (show k ≤ th + be by omega), if_pos h]
      have hb1 := b1 k (by omega)
      have hb2 := b1 (k + 1) (by omega)
      have hfn : (fun k => if k ≤ th + be then fn k else f') k = fn k ∧ (fun k => if k ≤ th + be then fn k else f') (k + 1) = fn (k + 1) := ⟨if_pos (by omega), if_pos (by omega)⟩
      rcases i1 k h with ⟨z1, z2⟩ | ⟨z1, z2⟩
      · exact .inl ⟨z1, z2.keep (th := th) (Q := th + be) (f := f) (by omega) h hfn (by omega) hFA (fun s s1 s2 => hg s s1 s2 _ (by omega)) (fun s s1 s2 => hp s s1 s2 _ (by omega)) (ho k h) hc⟩
      · exact .inr ⟨z1, z2.keep (f := f) hfn (by omega) hFA (fun s s1 s2 => hgb s s1 s2 _ (by omega)) (hpb _ (by omega)) (ho k h) hc⟩
    · have : k = th + be := by omega
      rw [this, if_neg (by omega), if_pos (by omega), if_neg (by omega), t2]
      rcases hnew with ⟨a, b, c⟩ | ⟨a, b, c⟩
      · exact .inl ⟨a, c⟩
      · exact .inr ⟨a, by rw [show th + be - th = be by omega]; exact c⟩
/-- the same items seen later -/
theorem PI.keep {g g' gp gp' gc gc' : Gs} {th be f M M' : Nat} {FA FA' tn fn rkk : Nat → Nat} (h : PI g gp gc th be f FA M tn fn rkk) (hM : M ≤ M') (hFA : ∀ F, F ≤ f → FA' F = FA F) (hg : ∀ s, 38 ≤ s → s ≤ 45 → ∀ i, i < th → gIA g' s i = gIA g s i) (hgb : ∀ s, 49 ≤ s → s ≤ 52 → ∀ b, b < be → gIA g' s b = gIA g s b) (hp : ∀ s, 7 ≤ s → s ≤ 10 → ∀ i, i < th → gIA gp' s i = gIA gp s i) (hpb : ∀ b, b < be → gIA gp' 10 (40 + b) = gIA gp 10 (40 + b)) (ho : ∀ k, k < th + be → gIA gp' 11 k = gIA gp 11 k) (hc : ∀ F, F < f → gIA gc' 13 F = gIA gc 13 F ∧ gIA gc' 14 F = gIA gc 14 F ∧ gIA gc' 15 F = gIA gc 15 F) : PI g' gp' gc' th be f FA' M' tn fn rkk := by
  obtain ⟨t1, b1, r1, r2, i1⟩ := h
  refine ⟨t1, b1, fun k hk => by have := r1 k hk; omega, r2, fun k hk => ?_⟩
  have hb1 := b1 k (by omega)
  have hb2 := b1 (k + 1) (by omega)
  rcases i1 k hk with ⟨z1, z2⟩ | ⟨z1, z2⟩
  · exact .inl ⟨z1, z2.keep (th := th) (Q := th + be) (f := f) (by omega) hk ⟨rfl, rfl⟩ (by omega) hFA (fun s s1 s2 => hg s s1 s2 _ (by omega)) (fun s s1 s2 => hp s s1 s2 _ (by omega)) (ho k hk) hc⟩
  · exact .inr ⟨z1, z2.keep (f := f) ⟨rfl, rfl⟩ (by omega) hFA (fun s s1 s2 => hgb s s1 s2 _ (by omega)) (hpb _ (by omega)) (ho k hk) hc⟩
