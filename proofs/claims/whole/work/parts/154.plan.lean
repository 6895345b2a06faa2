/-! plans of both sides -/
theorem Ex.congr {g g' gc : Gs} {off : Nat} {srt : Nat → Nat} {many cams : Nat} (h14 : gIA g' 14 = gIA g 14) (h15 : gIA g' 15 = gIA g 15) (h16 : gIA g' 16 = gIA g 16) (h17 : gIA g' 17 = gIA g 17) (h18 : gLA g' 18 = gLA g 18) (m : Nat) : Ex g' gc off srt many cams m = Ex g gc off srt many cams m := by
  induction m with
  | zero => rfl
  | succ m ih =>
    unfold Ex
    rw [ih, h14, h15, h16, h17]
    unfold Ps Un Bi
    rw [h14, h15, h16, h18]
/-- a formula of both sides: its code from j to j', its number F in the class, its sort t -/
def Fo (g gc : Gs) (srt : Nat → Nat) (many cams F j j' t : Nat) : Prop := F < 92 ∧ j' ≤ 840 ∧ f_X0_beginOf gc (nI F) = some (nI j) ∧ f_X0_endOf gc (nI F) = some (nI j') ∧ gIA gc 17 F = nI t ∧ ∃ m d, Ex g gc 0 srt many cams m j j' t d ∧ d ≤ 400
/-- a value of sort t may come into a thing of sort u -/
def Co (t u : Nat) : Prop := t ≤ 7 ∧ u ≤ 7 ∧ ((t = 0 ∧ u = 0) ∨ (1 ≤ t ∧ t ≤ u))
/-- the plan that turns, on both sides -/
def PlR (g gp gc : Gs) (srt : Nat → Nat) (many bells cams : Nat) : Prop :=
  many ≤ 40 ∧ bells ≤ 12 ∧ gI g 60 = nI many ∧ gI gp 4 = nI many ∧ gI g 61 = nI bells ∧ gI gp 5 = nI bells ∧ gI g 77 = nI (many + bells) ∧
  (∀ k, k < many + bells → (∃ i, i < many ∧ gIA g 76 k = nI i ∧ gIA gp 11 k = nI i) ∨ (∃ b, b < bells ∧ gIA g 76 k = nI (100 + b) ∧ gIA gp 11 k = nI (40 + b))) ∧
  (∀ i, i < many → gIA g 67 i = nI (srt i) ∧ gIA gp 7 i = nI (srt i) ∧
    (∃ F j j' t, gIA gp 9 i = nI F ∧ gIA g 69 i = nI j ∧ gIA g 70 i = nI j' ∧ gIA g 72 i = nI t ∧ Fo g gc srt many cams F j j' t ∧ Co t (srt i)) ∧
    (∃ F j j' t, gIA gp 10 i = nI F ∧ (if gIA g 68 i = 0 then gIA g 69 i else gIA g 70 i) = nI j ∧ (if gIA g 68 i = 0 then gIA g 70 i else gIA g 71 i) = nI j' ∧ (if gIA g 68 i = 0 then gIA g 72 i else gIA g 73 i) = nI t ∧ Fo g gc srt many cams F j j' t ∧ Co t (srt i))) ∧
  (∀ b, b < bells → ∃ F j j', gIA gp 10 (40 + b) = nI F ∧ gIA g 74 b = nI j ∧ gIA g 75 b = nI j' ∧ Fo g gc srt many cams F j j' 0) ∧
  TeR g gp cams
/-- what turns, on both sides; S strikes, t ticks so far -/
def StR (g gs : Gs) (srt : Nat → Nat) (many bells S t : Nat) : Prop :=
  Dyn g gs srt many ∧ (∀ r, r < 52 → gIA g 83 r = gIA gs 6 r ∧ gIA g 84 r = gIA gs 7 r ∧ gIA g 85 r = gIA gs 8 r) ∧ (∀ b, b < bells → gIA g 86 b = gIA gs 9 b) ∧ (gI g 88 = nI S ∧ gI gs 12 = nI (min S 64) ∧ gI gs 13 = nI (S % 64)) ∧ (∀ k, k < 64 → gLA g 89 k = gLA gs 10 k ∧ gIA g 90 k = gIA gs 11 k) ∧ gL gs 14 = lN t ∧
  (∀ a, 1 ≤ a → a ≤ 32 → a ≤ t → ∀ i, i < many → VR (srt i) (gLA g 82 (32 * i + (t - a + 1) % 32)) (gLA gs 4 ((t - a) % 32 * 40 + i)) (gDA gs 5 ((t - a) % 32 * 40 + i)))
theorem StR.fr {g g' gs : Gs} {srt : Nat → Nat} {many bells S t : Nat} {A : List Nat} (h : StR g gs srt many bells S t) (hf : Fr A g g') (hA : ∀ k, k ∈ [80, 81, 82, 83, 84, 85, 86, 87, 88, 89, 90, 91] → k ∉ A) : StR g' gs srt many bells S t := by
  have i : ∀ k, k ∈ [80, 81, 82, 83, 84, 85, 86, 87, 88, 89, 90, 91] → gIA g' k = gIA g k := fun k hk => (hf k (hA k hk)).2.2.2.1
  have l : ∀ k, k ∈ [80, 81, 82, 83, 84, 85, 86, 87, 88, 89, 90, 91] → gLA g' k = gLA g k := fun k hk => (hf k (hA k hk)).2.2.2.2.1
  unfold StR Dyn at *
  rw [l 80 (by decide), l 81 (by decide), l 82 (by decide), i 83 (by decide), i 84 (by decide), i 85 (by decide), i 86 (by decide), (hf 87 (hA 87 (by decide))).2.1, (hf 88 (hA 88 (by decide))).1, l 89 (by decide), i 90 (by decide), (hf 91 (hA 91 (by decide))).2.1]
  exact h
/-- the code is left alone -/
theorem PlR.fr {g g' gp gc : Gs} {srt : Nat → Nat} {many bells cams : Nat} {A : List Nat} (h : PlR g gp gc srt many bells cams) (hf : Fr A g g') (hA : ∀ k, k ∈ [14, 15, 16, 17, 18, 60, 61, 67, 68, 69, 70, 71, 72, 73, 74, 75, 76, 77, 78, 79] → k ∉ A) : PlR g' gp gc srt many bells cams := by
  have i : ∀ k, k ∈ [14, 15, 16, 17, 18, 60, 61, 67, 68, 69, 70, 71, 72, 73, 74, 75, 76, 77, 78, 79] → gIA g' k = gIA g k := fun k hk => (hf k (hA k hk)).2.2.2.1
  have ex := fun m => Ex.congr (g := g) (g' := g') (gc := gc) (off := 0) (srt := srt) (many := many) (cams := cams) (i 14 (by decide)) (i 15 (by decide)) (i 16 (by decide)) (i 17 (by decide)) (hf 18 (hA 18 (by decide))).2.2.2.2.1 m
  unfold PlR Fo TeR at *
  rw [i 76 (by decide), i 67 (by decide), i 68 (by decide), i 69 (by decide), i 70 (by decide), i 71 (by decide), i 72 (by decide), i 73 (by decide), i 74 (by decide), i 75 (by decide), i 78 (by decide), (hf 79 (hA 79 (by decide))).2.2.2.2.1, (hf 60 (hA 60 (by decide))).1, (hf 61 (hA 61 (by decide))).1, (hf 77 (hA 77 (by decide))).1]
  simp only [ex]
  exact h
