/-! settling: things and bells in the order of the text -/
/-- a thing's tables -/
def Tt (g gx : Gs) (i t : Nat) : Prop := Kn g gx i t ∧ gIA gx 67 i = gIA g 38 i ∧ gIA gx 68 i = vp_nar .boolean (gIA g 39 i) ∧ gIA gx 69 i = gIA g 40 i - 2000 ∧ gIA gx 70 i = gIA g 41 i - 2000 ∧ gIA gx 71 i = gIA g 42 i - 2000 ∧ gIA gx 72 i = gIA g 46 i ∧ gIA gx 73 i = gIA g 47 i
abbrev itX : List Nat := [65, 66, 67, 68, 69, 70, 71, 72, 73, 76, 77]
/-- one thing -/
theorem item_thing {n L T i t x K : Nat} {g2 g gx : Gs} {B : Nat → Nat} {rec : (Gs → Int32 → Int32 → Option (Gs)) × (Gs → Int32 → Int32 → Option (Gs)) × (Gs → Int32 → Option (Gs)) × (Gs → Int32 → Option (Gs)) × (Gs → Int32 → Option (Gs)) × (Gs → Int32 → Option (Gs)) × (Gs → Int32 → Int32 → Option (Gs)) × (Gs → Int32 → Int32 → Option (Gs))} {v2 : Int32} (hn : 20000 ≤ n) (hS : ScR n g2 L B g T) (hL : L ≤ 3000) (hb : ∀ p, p < L → byt (gIA g 5 p)) (hi : i < 40) (hx : x < 60) (h60 : gI gx 60 = nI x) (hne : i ≠ x) (h77 : gI gx 77 = nI K) (hK : K < 52) (ht : gIA g 37 i = nI t ∧ t < T ∧ tk g t = 2) (hf : Fr itX g gx) : ∃ g', b_X12_settle_276 n rec gx v2 (nI i) = rec.2.1 g' v2 (nI (i + 1)) ∧ Fr itX gx g' ∧ gI g' 77 = nI (K + 1) ∧ gIA g' 76 = upd (gIA gx 76) K (nI i) ∧ Tt g g' i t ∧ (∀ q, q ≠ i → gIA g' 66 q = gIA gx 66 q ∧ gIA g' 67 q = gIA gx 67 q ∧ gIA g' 68 q = gIA gx 68 q ∧ gIA g' 69 q = gIA gx 69 q ∧ gIA g' 70 q = gIA gx 70 q ∧ gIA g' 71 q = gIA gx 71 q ∧ gIA g' 72 q = gIA gx 72 q ∧ gIA g' 73 q = gIA gx 73 q) ∧ (∀ q, (q < 10 * i ∨ 10 * i + 10 ≤ q) → gIA g' 65 q = gIA gx 65 q) := by
  obtain ⟨t1, t2, t3⟩ := ht
  have hX : nTk itX := by decide
  have f1 : Fr itX g (sI (sIA gx 76 (upd (gIA gx 76) K (nI i))) 77 (nI (K + 1))) := (hf.trans (Fr.sIA (by decide) _ _)).trans (Fr.sI (by decide) _ _)
  obtain ⟨e1, e2, e3, e4, e5⟩ := tok_same f1 hX
  have x5 : gIA (sI (sIA gx 76 (upd (gIA gx 76) K (nI i))) 77 (nI (K + 1))) 5 = gIA g 5 := (f1 5 (by decide)).2.2.2.1
  obtain ⟨g', a1, a2, a3, a4, a5, a6⟩ := name_kept (r := i) hn (hS.base f1 hX) hL (by rw [x5]; exact hb) (by omega) t2 (by rw [e1]; exact t3)
  rw [e2, e3, x5] at a6
  rw [e2, e3] at a3
  have b4 : inB (nI i) 400 = true := inB_nI (by omega) (by decide)
  have b40 : inB (nI i) 40 = true := inB_nI (by omega) (by decide)
  have ci : (nI i).toNatClampNeg = i := nI_clamp (by omega)
  have s : ∀ q, q ∉ [65, 66, 67, 68, 69, 70, 71, 72, 73, 76, 77] → q ∉ [65, 66] → gIA g' q = gIA g q := fun q hq hq2 => (a2 q hq2).2.2.2.1.trans (f1 q hq).2.2.2.1
  have fx : Fr [76, 77] gx (sI (sIA gx 76 (upd (gIA gx 76) K (nI i))) 77 (nI (K + 1))) := (Fr.sIA (by decide) _ _).trans (Fr.sI (by decide) _ _)
  have sx : ∀ q, q ∉ [65, 66] → q ∉ [76, 77] → gIA g' q = gIA gx q := fun q hq hq2 => (a2 q hq).2.2.2.1.trans (fx q hq2).2.2.2.1
  have e : b_X12_settle_276 n rec gx v2 (nI i) = rec.2.1 (sIA (sIA (sIA (sIA (sIA (sIA (sIA g' 67 (upd (gIA gx 67) i (gIA g 38 i))) 68 (upd (gIA gx 68) i (vp_nar .boolean (gIA g 39 i)))) 69 (upd (gIA gx 69) i (gIA g 40 i - 2000))) 70 (upd (gIA gx 70) i (gIA g 41 i - 2000))) 71 (upd (gIA gx 71) i (gIA g 42 i - 2000))) 72 (upd (gIA gx 72) i (gIA g 46 i))) 73 (upd (gIA gx 73) i (gIA g 47 i))) v2 (nI (i + 1)) := by
    unfold b_X12_settle_276 b_X12_settle_414
    rw [h60, if_neg (fun z => hne ((nI_eq (by omega) (by omega)).mp z)), h77, grd_t (inB_nI hK (by decide)), grd_t b4, ci, nI_clamp (show K < 2 ^ 31 by omega), nI_1, (hf 37 (by decide)).2.2.2.1, t1, bnd_s a1]
    simp only [grd_t b4, grd_t b40, nI_1]
    rw [s 38 (by decide) (by decide), s 39 (by decide) (by decide), s 40 (by decide) (by decide), s 41 (by decide) (by decide), s 42 (by decide) (by decide), s 46 (by decide) (by decide), s 47 (by decide) (by decide), sx 67 (by decide) (by decide), sx 68 (by decide) (by decide), sx 69 (by decide) (by decide), sx 70 (by decide) (by decide), sx 71 (by decide) (by decide), sx 72 (by decide) (by decide), sx 73 (by decide) (by decide)]
  refine ⟨_, e, ((((((((fx.mono (by decide)).trans (a2.mono (by decide))).trans (Fr.sIA (by decide) _ _)).trans (Fr.sIA (by decide) _ _)).trans (Fr.sIA (by decide) _ _)).trans (Fr.sIA (by decide) _ _)).trans (Fr.sIA (by decide) _ _)).trans (Fr.sIA (by decide) _ _)).trans (Fr.sIA (by decide) _ _), ?_, ?_, ⟨⟨a3, a6⟩, ?_, ?_, ?_, ?_, ?_, ?_, ?_⟩, fun q hq => ⟨a4 q hq, ?_, ?_, ?_, ?_, ?_, ?_, ?_⟩, fun q hq => a5 q hq⟩
  · show gI g' 77 = _; rw [(a2 77 (by decide)).1]; rfl
  · show gIA g' 76 = _; rw [(a2 76 (by decide)).2.2.2.1]; rfl
  · show upd (gIA gx 67) i _ i = _; rw [pk_us]
  · show upd (gIA gx 68) i _ i = _; rw [pk_us]
  · show upd (gIA gx 69) i _ i = _; rw [pk_us]
  · show upd (gIA gx 70) i _ i = _; rw [pk_us]
  · show upd (gIA gx 71) i _ i = _; rw [pk_us]
  · show upd (gIA gx 72) i _ i = _; rw [pk_us]
  · show upd (gIA gx 73) i _ i = _; rw [pk_us]
  · show upd (gIA gx 67) i _ q = _; rw [pk_un hq]
  · show upd (gIA gx 68) i _ q = _; rw [pk_un hq]
  · show upd (gIA gx 69) i _ q = _; rw [pk_un hq]
  · show upd (gIA gx 70) i _ q = _; rw [pk_un hq]
  · show upd (gIA gx 71) i _ q = _; rw [pk_un hq]
  · show upd (gIA gx 72) i _ q = _; rw [pk_un hq]
  · show upd (gIA gx 73) i _ q = _; rw [pk_un hq]
