/-! keeping on both sides -/
/-- what is kept, on both sides; kk the class's kept states, T a bound of the ticks -/
def KpR (g gs : Gs) (kk : Nat → Option Gs) (srt : Nat → Nat) (th be T : Nat) : Prop := ∀ p, p < 4 → (kk p = none ∧ gIA g 103 p = 0) ∨ ∃ gk q, kk p = some gk ∧ gIA g 103 p = nI (q + 1) ∧ gI gk 16 = nI q ∧ q < 2 ^ 30 ∧ (nI q = gI gs 16 → ∃ S t, StR (kq g p) gk srt th be S t ∧ S ≤ 52 * t ∧ t ≤ T)
theorem kq_ag {g g' : Gs} {p : Nat} {A : List Nat} (hf : Fr A g g') (hA : ∀ k, k ∈ [104, 105, 106, 107, 108, 109, 110, 111, 112, 113] → k ∉ A) : Ag (kq g p) (kq g' p) := by
  have i : ∀ k, k ∈ [104, 105, 106, 107, 108, 109, 110, 111, 112, 113] → gIA g' k = gIA g k := fun k hk => (hf k (hA k hk)).2.2.2.1
  have l : ∀ k, k ∈ [104, 105, 106, 107, 108, 109, 110, 111, 112, 113] → gLA g' k = gLA g k := fun k hk => (hf k (hA k hk)).2.2.2.2.1
  refine ⟨fun q _ => ⟨?_, ?_⟩, fun j _ => ?_, fun r _ => ⟨?_, ?_, ?_⟩, fun b _ => ?_, ?_, ?_, fun k _ => ⟨?_, ?_⟩, ?_⟩
  · show gLA g' 104 (40 * p + q) = gLA g 104 (40 * p + q); rw [l 104 (by decide)]
  · show gLA g' 105 (40 * p + q) = gLA g 105 (40 * p + q); rw [l 105 (by decide)]
  · show gLA g' 106 (1280 * p + j) = gLA g 106 (1280 * p + j); rw [l 106 (by decide)]
  · show gIA g' 107 (156 * p + 3 * r) = gIA g 107 (156 * p + 3 * r); rw [i 107 (by decide)]
  · show gIA g' 107 (156 * p + 3 * r + 1) = gIA g 107 (156 * p + 3 * r + 1); rw [i 107 (by decide)]
  · show gIA g' 107 (156 * p + 3 * r + 2) = gIA g 107 (156 * p + 3 * r + 2); rw [i 107 (by decide)]
  · show gIA g' 108 (12 * p + b) = gIA g 108 (12 * p + b); rw [i 108 (by decide)]
  · show gLA g' 109 p = gLA g 109 p; rw [l 109 (by decide)]
  · show gIA g' 110 p = gIA g 110 p; rw [i 110 (by decide)]
  · show gLA g' 111 (64 * p + k) = gLA g 111 (64 * p + k); rw [l 111 (by decide)]
  · show gIA g' 112 (64 * p + k) = gIA g 112 (64 * p + k); rw [i 112 (by decide)]
  · show gLA g' 113 p = gLA g 113 p; rw [l 113 (by decide)]
/-- calls that leave what is kept alone, and the plan's number -/
theorem KpR.fr {g g' gs gs' : Gs} {kk : Nat → Option Gs} {srt : Nat → Nat} {th be T T' : Nat} {A : List Nat} (h : KpR g gs kk srt th be T) (hf : Fr A g g') (hA : ∀ k, k ∈ [103, 104, 105, 106, 107, 108, 109, 110, 111, 112, 113] → k ∉ A) (h15 : gI gs' 16 = gI gs 16) (hT : T ≤ T') (hb : be ≤ 12) : KpR g' gs' kk srt th be T' := by
  intro p hp
  rw [h15, (hf 103 (hA 103 (by decide))).2.2.2.1]
  have ha : Ag (kq g p) (kq g' p) := kq_ag hf (fun k hk => hA k (by
    have : ∀ q ∈ [104, 105, 106, 107, 108, 109, 110, 111, 112, 113], q ∈ [103, 104, 105, 106, 107, 108, 109, 110, 111, 112, 113] := by decide
    exact this k hk))
  rcases h p hp with h | ⟨gk, q, x1, x2, x3, x4, x5⟩
  · exact .inl h
  · refine .inr ⟨gk, q, x1, x2, x3, x4, fun z => ?_⟩
    obtain ⟨S, t, y1, y2, y3⟩ := x5 z
    exact ⟨S, t, y1.ag ha hb, y2, by omega⟩
/-- a new plan: what was kept was kept for others -/
theorem KpR.newplan {g g' gs gs' : Gs} {kk : Nat → Option Gs} {srt srt' : Nat → Nat} {th be th' be' T T' P : Nat} {A : List Nat} (h : KpR g gs kk srt th be T) (hle : ∀ p, p < 4 → ∀ gk q, kk p = some gk → gI gk 16 = nI q → q < 2 ^ 30 → q ≤ P) (hf : Fr A g g') (h103 : 103 ∉ A) (h15 : gI gs' 16 = nI (P + 1)) (hP : P < 2 ^ 30) : KpR g' gs' kk srt' th' be' T' := by
  intro p hp
  rw [(hf 103 h103).2.2.2.1]
  rcases h p hp with h | ⟨gk, q, x1, x2, x3, x4, x5⟩
  · exact .inl h
  · refine .inr ⟨gk, q, x1, x2, x3, x4, fun z => ?_⟩
    rw [h15] at z
    have := (nI_eq (by omega) (by omega)).mp z
    have := hle p hp gk q x1 x3 x4
    omega
theorem keep_eq {n h9 P th be ca S t T : Nat} {g gT gs gK gk gp gq : Gs} {kk : Nat → Option Gs} {srt : Nat → Nat} (hn : 3000 ≤ n) (hst : StR g gs srt th be S t) (hS : S ≤ 52 * t) (ht : t ≤ T) (hb : be ≤ 12) (h64 : gI g 64 = nI P) (h15 : gI gs 16 = nI P) (hP : P < 2 ^ 30) (hk : KpR g gs kk srt th be T) {p : Nat} (hp : p < 4) (hR : gR gK p = some h9) : ∃ g' gk', f_X12_keep n g (nI p) = some (1, g') ∧ f_X11_keep h9 gT gs gK gk (nI p) = some (1, gk') ∧ b_X11_keep_37 h9 gT gs gK gk = some (1, gk') ∧ Fr keepA g g' ∧ gI gk' 16 = nI P ∧ KpR g' gs (fun q => if q = p then some gk' else kk q) srt th be T := by
  obtain ⟨g', a1, a2, a3, a4, a5⟩ := keep_ref (g := g) hn hp
  obtain ⟨gk', b1, b2⟩ := take_eq gk gs
  have e37 : b_X11_keep_37 h9 gT gs gK gk = some (1, gk') := by
    unfold b_X11_keep_37
    rw [bnd_s b1]
  have k15 : gI gk' 16 = nI P := b2.2.2.2.2.2.2.2.2.trans h15
  refine ⟨g', gk', a1, ?_, e37, a2, k15, fun q hq => ?_⟩
  · unfold f_X11_keep
    rw [if_neg (nI_pos (by omega)), if_pos (show nI p < (4 : Int32) from nI_lt (b := 4) hp (by omega)), grd_t (inB_nI hp (by decide)), nI_clamp (by omega), grd_t (show rEq (gR gK p) h9 = true from decide_eq_true hR), e37]
  · show ((if q = p then some gk' else kk q) = none ∧ _) ∨ ∃ gX q', (if q = p then some gk' else kk q) = some gX ∧ _
    by_cases c : q = p
    · rw [if_pos c, c]
      refine .inr ⟨gk', P, rfl, by rw [a5, h64, nI_1], k15, hP, fun _ => ⟨S, t, ?_, hS, ht⟩⟩
      exact (hst.ag a3 hb).agc b2 hb
    · rw [if_neg c]
      obtain ⟨c1, c2⟩ := a4 q hq c
      rw [c2]
      rcases hk q hq with h | ⟨gX, q', x1, x2, x3, x4, x5⟩
      · exact .inl h
      · refine .inr ⟨gX, q', x1, x2, x3, x4, fun z => ?_⟩
        obtain ⟨S', t', y1, y2, y3⟩ := x5 z
        exact ⟨S', t', y1.ag c1 hb, y2, y3⟩
theorem back_eq {n h9 P th be ca S t T : Nat} {g gT gs gK gk gp gq : Gs} {kk : Nat → Option Gs} {srt : Nat → Nat} (hn : 3000 ≤ n) (hst : StR g gs srt th be S t) (hS : S ≤ 52 * t) (ht : t ≤ T) (hb : be ≤ 12) (h64 : gI g 64 = nI P) (h15 : gI gs 16 = nI P) (hP : P < 2 ^ 30) (hk : KpR g gs kk srt th be T) {p : Nat} (hp : p < 4) : (kk p = none ∧ f_X12_back n g (nI p) = some (0, g)) ∨ ∃ gk, kk p = some gk ∧ (∀ h9 gK gT, gR gK p = some h9 → ∃ r g' gs' S' t', f_X12_back n g (nI p) = some (r, g') ∧ f_X11_back h9 gT gs gK gk (nI p) = some (r, gs') ∧ Fr [80, 81, 82, 83, 84, 85, 86, 87, 88, 89, 90, 91] g g' ∧ StR g' gs' srt th be S' t' ∧ S' ≤ 52 * t' ∧ t' ≤ T ∧ gI gs' 16 = nI P) := by
  have z0 : ¬ nI p < 0 := nI_pos (by omega)
  have z3 : ¬ (3 : Int32) < nI p := nI_nlt (a := 3) (by omega) (by omega)
  have z4 : nI p < (4 : Int32) := nI_lt (b := 4) hp (by omega)
  have cp : (nI p).toNatClampNeg = p := nI_clamp (by omega)
  have no : ¬ gIA g 103 p = gI g 64 + 1 → f_X12_back n g (nI p) = some (0, g) := fun z => by
    unfold f_X12_back
    rw [if_neg z0, if_neg z3, grd_t (inB_nI hp (by decide)), cp, if_neg z]
  rcases hk p hp with ⟨x1, x2⟩ | ⟨gk, q, x1, x2, x3, x4, x5⟩
  · refine .inl ⟨x1, no ?_⟩
    rw [x2, h64, nI_1]
    intro z
    have := (nI_eq (a := 0) (by omega) (by omega)).mp z
    omega
  · refine .inr ⟨gk, x1, fun h9 gK gT hR => ?_⟩
    have eb : f_X11_back h9 gT gs gK gk (nI p) = (if nI q = nI P then bnd (f_X9_takeOver gs gk) (fun q_3 => some ((1 : Int32), q_3)) else some ((0 : Int32), gs)) := by
      unfold f_X11_back
      rw [if_neg z0, if_pos z4, grd_t (inB_nI hp (by decide)), cp, grd_t (show rEq (gR gK p) h9 = true from decide_eq_true hR), x3, h15]
    by_cases hq : q = P
    · obtain ⟨g', a1, a2, a3⟩ := back_ref (g := g) hn hp (by rw [x2, h64, nI_1, hq])
      obtain ⟨gs', b1, b2⟩ := take_eq gs gk
      obtain ⟨S', t', y1, y2, y3⟩ := x5 (by rw [hq, h15])
      refine ⟨1, g', gs', S', t', a1, ?_, a2, (y1.ag a3 hb).agc b2 hb, y2, y3, ?_⟩
      · rw [eb, if_pos (by rw [hq]), bnd_s b1]
      · exact b2.2.2.2.2.2.2.2.2.trans (x3.trans (by rw [hq]))
    · refine ⟨0, g, gs, S, t, no ?_, ?_, Fr.refl _ _, hst, hS, ht, h15⟩
      · rw [x2, h64, nI_1]
        intro z
        have := (nI_eq (by omega) (by omega)).mp z
        omega
      · rw [eb, if_neg (fun z => hq ((nI_eq (by omega) (by omega)).mp z))]
