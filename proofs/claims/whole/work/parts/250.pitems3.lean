/-! settling: things and bells in the order of the text -/
/-- the order of things and bells -/
def Sn (gx : Gs) (tn : Nat → Nat) (q : Nat) : Prop := (tn (q + 1) = tn q + 1 → gIA gx 76 q = nI (tn q)) ∧ (tn (q + 1) = tn q → gIA gx 76 q = nI (100 + (q - tn q)))
theorem Sn.upd {gx gy : Gs} {tn : Nat → Nat} {q k : Nat} {v : Int32} (h : Sn gx tn q) (hq : q ≠ k) (hv : gIA gy 76 = upd (gIA gx 76) k v) : Sn gy tn q := by
  unfold Sn
  rw [hv, pk_un hq]
  exact h
theorem Tt.keep {g gx gy : Gs} {i t : Nat} (h : Tt g gx i t) (hl : te g t - ta g t ≤ 10) (hs : ∀ s, 66 ≤ s → s ≤ 73 → gIA gy s i = gIA gx s i) (h65 : ∀ q, q < 10 → gIA gy 65 (10 * i + q) = gIA gx 65 (10 * i + q)) : Tt g gy i t := by
  obtain ⟨a, b1, b2, b3, b4, b5, b6, b7⟩ := h
  exact ⟨a.keep hl (hs 66 (by decide) (by decide)) h65, (hs 67 (by decide) (by decide)).trans b1, (hs 68 (by decide) (by decide)).trans b2, (hs 69 (by decide) (by decide)).trans b3, (hs 70 (by decide) (by decide)).trans b4, (hs 71 (by decide) (by decide)).trans b5, (hs 72 (by decide) (by decide)).trans b6, (hs 73 (by decide) (by decide)).trans b7⟩
theorem items_loop {n L T th be f M : Nat} {g2 g gp gc : Gs} {B : Nat → Nat} {FA tn fn rkk : Nat → Nat} (hn : 20000 ≤ n) (hS : ScR n g2 L B g T) (hL : L ≤ 3000) (hb : ∀ p, p < L → byt (gIA g 5 p)) (hth : th ≤ 40) (hbe : be ≤ 12) (hM : M ≤ 3000) (h34 : gI g 34 = nI be) (h60 : gI g 60 = nI th) (hR : Rn T g 37 th) (hI : PI g gp gc th be f FA M tn fn rkk) : ∀ (d k fr : Nat) (gx : Gs), k + d = th + be → 2 * d + 2 ≤ fr → Fr itX g gx → gI gx 77 = nI k → (∀ q, q < k → Sn gx tn q) → (∀ i, i < tn k → Tt g gx i (rtk g 37 i)) → ∃ g' fr', fr ≤ fr' + 2 * d + 2 ∧ (L_X12_settle n fr).2.2.2.2.2.2.2 gx (nI (k - tn k)) (nI (tn k)) = (L_X12_settle n fr').2.2.1 g' 0 ∧ Fr itX g g' ∧ gI g' 77 = nI (th + be) ∧ (∀ q, q < th + be → Sn g' tn q) ∧ (∀ i, i < th → Tt g g' i (rtk g 37 i)) := by
  intro d
  have hrk := hI.2.2.1
  have hinc := hI.2.2.2.1
  induction d with
  | zero =>
    intro k fr gx h1 h2 h3 h4 h5 h6
    obtain ⟨fr, rfl⟩ : ∃ x, fr = x + 2 := ⟨fr - 2, by omega⟩
    have ek : k = th + be := by omega
    obtain ⟨_, i2, _, _⟩ := hI.1
    rw [ek] at h4 h5 h6
    rw [i2] at h6
    refine ⟨gx, fr, by omega, ?_, h3, h4, h5, h6⟩
    rw [ek, i2, show th + be - th = be by omega]
    exact items_end (by rw [(h3 60 (by decide)).1]; exact h60) (by rw [(h3 34 (by decide)).1]; exact h34) hth hbe
  | succ d ih =>
    intro k fr gx h1 h2 h3 h4 h5 h6
    obtain ⟨fr, rfl⟩ : ∃ x, fr = x + 2 := ⟨fr - 2, by omega⟩
    have t0 := hI.2.1 k (by omega)
    have t1 := hI.2.1 (k + 1) (by omega)
    have x34 : gI gx 34 = nI be := by rw [(h3 34 (by decide)).1]; exact h34
    have x60 : gI gx 60 = nI th := by rw [(h3 60 (by decide)).1]; exact h60
    have x45 : gIA gx 45 = gIA g 45 := (h3 45 (by decide)).2.2.2.1
    have x52 : gIA gx 52 = gIA g 52 := (h3 52 (by decide)).2.2.2.1
    have ct : (nI (tn k)).toNatClampNeg = tn k := nI_clamp (by omega)
    have cb : (nI (k - tn k)).toNatClampNeg = k - tn k := nI_clamp (by omega)
    have en : (L_X12_settle n (fr + 2)).2.2.2.2.2.2.2 gx (nI (k - tn k)) (nI (tn k)) = h_X12_settle_216 n (L_X12_settle n (fr + 1)) gx (nI (k - tn k)) (nI (tn k)) := rfl
    rcases hI.2.2.2.2 k (by omega) with ⟨s1, s2⟩ | ⟨s1, s2⟩
    · -- a thing
      have hlt : tn k < th := by omega
      obtain ⟨s, p, y1, y2, y3, y4, y5, y6, y7, y8, y9, y10, y11, y12, y13, y14, y15, y16, y17⟩ := id s2
      have e276 : h_X12_settle_216 n (L_X12_settle n (fr + 1)) gx (nI (k - tn k)) (nI (tn k)) = b_X12_settle_276 n (L_X12_settle n (fr + 1)) gx (nI (k - tn k)) (nI (tn k)) := by
        unfold h_X12_settle_216
        rw [x34]
        by_cases hb : k - tn k = be
        · rw [if_pos (nI_le (by omega) (by omega))]
        · have hb' : k - tn k < be := by omega
          rw [if_neg (nI_ge hb' (by omega)), x60, if_neg (fun z => by have := (nI_eq (by omega) (by omega)).mp z; omega), grd_t (inB_nI (by omega) (by decide)), grd_t (inB_nI (by omega) (by decide)), ct, cb, x45, x52]
          obtain ⟨k', q1, q2, q3, q4⟩ := hI.bell hb' (d + 1) k h1 (Nat.le_refl _)
          have hne : k ≠ k' := fun z => by rw [← z] at q4; omega
          have hr := hinc k k' (by omega) q2
          have e52 : gIA g 52 (k - tn k) = nI (rkk k') := by
            rcases hI.2.2.2.2 k' q2 with ⟨z, _⟩ | ⟨_, z1, z2, z3, z4, z5, z6, z7⟩
            · omega
            · rw [q3] at z6; exact z6
          have := hrk k' q2
          rw [e52, y14, if_pos (nI_le (by omega) (by omega))]
      obtain ⟨g', a1, a2, a3, a4, a5, a6, a7⟩ := item_thing (rec := L_X12_settle n (fr + 1)) (v2 := nI (k - tn k)) hn hS hL hb (show tn k < 40 by omega) (show th < 60 by omega) x60 (show tn k ≠ th by omega) h4 (show k < 52 by omega) (hR (tn k) hlt) h3
      have e208 : (L_X12_settle n (fr + 1)).2.1 g' (nI (k - tn k)) (nI (tn k + 1)) = (L_X12_settle n fr).2.2.2.2.2.2.2 g' (nI (k + 1 - tn (k + 1))) (nI (tn (k + 1))) := by
        show h_X12_settle_208 n (L_X12_settle n fr) g' (nI (k - tn k)) (nI (tn k + 1)) = _
        unfold h_X12_settle_208
        rw [(a2 60 (by decide)).1, x60, if_neg (nI_nlt (by omega) (by omega)), s1, show k + 1 - (tn k + 1) = k - tn k by omega]
      rw [en, e276, a1, e208]
      obtain ⟨g'', fr', b1, b2, b3⟩ := ih (k + 1) fr g' (by omega) (by omega) (h3.trans a2) a3 (fun q hq => by
        by_cases c : q = k
        · rw [c]
          refine ⟨fun _ => by rw [a4, pk_us], fun z => by omega⟩
        · exact (h5 q (by omega)).upd c a4) (fun i hi => by
        rw [s1] at hi
        by_cases c : i = tn k
        · rw [c]; exact a5
        · obtain ⟨r1, r2, r3⟩ := hR i (by omega)
          obtain ⟨z1, z2, z3, z4, z5, z6, z7, z8⟩ := a6 i c
          refine (h6 i (by omega)).keep (len10 hS r2 r3).1 (fun s q1 q2 => ?_) (fun q hq => a7 _ (by omega))
          have : s = 66 ∨ s = 67 ∨ s = 68 ∨ s = 69 ∨ s = 70 ∨ s = 71 ∨ s = 72 ∨ s = 73 := by omega
          rcases this with rfl | rfl | rfl | rfl | rfl | rfl | rfl | rfl <;> assumption)
      exact ⟨g'', fr', by omega, b2, b3⟩
    · -- a bell
      obtain ⟨y1, y2, y3, y4, y5, y6, y7, y8⟩ := id s2
      have hbl : k - tn k < be := by omega
      have e247 : h_X12_settle_216 n (L_X12_settle n (fr + 1)) gx (nI (k - tn k)) (nI (tn k)) = b_X12_settle_247 n (L_X12_settle n (fr + 1)) gx (nI (k - tn k)) (nI (tn k)) := by
        unfold h_X12_settle_216
        rw [x34, if_neg (nI_ge hbl (by omega)), x60]
        by_cases ht : tn k < th
        · rw [if_neg (fun z => by have := (nI_eq (by omega) (by omega)).mp z; omega), grd_t (inB_nI (by omega) (by decide)), grd_t (inB_nI (by omega) (by decide)), ct, cb, x45, x52]
          obtain ⟨k', q1, q2, q3, q4⟩ := hI.thing ht (d + 1) k h1 (Nat.le_refl _)
          have hne : k ≠ k' := fun z => by rw [← z] at q4; omega
          have hr := hinc k k' (by omega) q2
          have e45 : gIA g 45 (tn k) = nI (rkk k') := by
            rcases hI.2.2.2.2 k' q2 with ⟨_, _, _, _, _, _, _, _, _, _, _, _, _, _, _, _, z, _⟩ | ⟨z, _⟩
            · rw [q3] at z; exact z
            · omega
          have := hrk k' q2
          rw [e45, y6, if_neg (nI_ge hr (by omega))]
        · rw [if_pos (by rw [show tn k = th by omega])]
      have e := item_bell (n := n) (rec := L_X12_settle n (fr + 1)) (v3 := nI (tn k)) (show k - tn k < 12 by omega) h4 (show k < 52 by omega)
      rw [en, e247, e, show nI (k - tn k + 1) = nI (k + 1 - tn (k + 1)) by rw [s1]; congr 1; omega, show nI (tn k) = nI (tn (k + 1)) by rw [s1]]
      have f1 : Fr itX gx (sI (sIA gx 76 (upd (gIA gx 76) k (nI (100 + (k - tn k))))) 77 (nI (k + 1))) := (Fr.sIA (by decide) _ _).trans (Fr.sI (by decide) _ _)
      obtain ⟨g'', fr', b1, b2, b3⟩ := ih (k + 1) (fr + 1) _ (by omega) (by omega) (h3.trans f1) rfl (fun q hq => by
        by_cases c : q = k
        · rw [c]
          refine ⟨fun z => by omega, fun _ => ?_⟩
          show upd (gIA gx 76) k _ k = _
          rw [pk_us]
        · exact (h5 q (by omega)).upd c rfl) (fun i hi => by
        rw [s1] at hi
        exact h6 i hi)
      exact ⟨g'', fr', by omega, b2, b3⟩
