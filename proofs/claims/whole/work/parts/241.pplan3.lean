/-! a whole plan's text: read, names, sorts; up to the settling -/
theorem Fr.sR {A : List Nat} {k : Nat} (h : k ∈ A) (g : Gs) (v : Option Nat) : Fr A g (sR g k v) := fun j hj => ⟨rfl, rfl, rfl, rfl, rfl, rfl, va_up_ne _ _ (fun z => hj (z ▸ h))⟩
/-- both begin -/
theorem plan_first {n hQ hP L : Nat} {g2 gt g gr gs gp gc : Gs} {B : Nat → Nat} (hn : 20000 ≤ n) (hTb : Tb g2) (hL : L ≤ 3000) (h4 : gI g 4 = nI L) (hb : ∀ p, p < L → byt (gIA g 3 p)) (hB : ∀ p, p < L → B p < 256 ∧ gIA g 3 p &&& 255 = nI (B p)) (h7 : ∀ k, k < 26 → gLA g 7 k = lN (Wl.getD k 0)) (hE : ∀ p, p < L → gIA g 3 p = gIA gt 0 p) :
    ∃ T g1 gp1 gc1 gr1 gs1, f_X12_begins n g = some g1 ∧ f_X4_clear gp gc = some (gp1, gc1) ∧ f_X5_begin hQ hP gr gp1 gc1 = some gr1 ∧ f_X7_begin n gs gt g2 (nI L) = some gs1 ∧ T ≤ L + 1 ∧ (∀ p, p < L → gIA g1 5 p = gIA gt 0 p) ∧ Fr [0, 1, 2, 4, 5, 6, 8, 9, 10, 11, 12, 13, 19, 20, 21, 23, 24, 25, 27] g g1 ∧ gI g1 4 = 0 ∧ Fr [4, 5, 6] gp gp1 ∧ Fr [8, 9, 10, 18] gc gc1 ∧ Fr [14, 15, 16, 17] gr gr1 ∧ Fr [2, 3, 4, 5, 6, 7, 8, 9, 10, 11] gs gs1 ∧
      MP n hQ hP L T g2 gt B (sI (sI (sI (sI g1 33 0) 34 0) 35 0) 36 0) gr1 gs1 gp1 gc1 0 0 0 0 := by
  obtain ⟨gS, T, a1, a2, a3, a4, a5, a6, a7⟩ := scan_ok hn hTb hL h4 hb hB h7
  have hcl : ClsT (sI (sI gs 2 (nI L)) 3 0) gt L B := ⟨hL, rfl, fun p hp => ⟨(hB p hp).1, by rw [← hE p hp]; exact (hB p hp).2⟩⟩
  obtain ⟨gs1, b1, b2, b3⟩ := TokAt.first a2 hcl rfl
  have fX : Fr [19, 20, 21, 23, 24, 25, 27, 33, 34, 35, 36] gS (sI (sI (sI (sI (sI (sI (sI (sI (sI (sI (sI gS 20 0) 19 2000) 23 (-1)) 24 0) 25 0) 27 0) 21 0) 33 0) 34 0) 35 0) 36 0) := ((((((((((Fr.sI (by decide) _ _).trans (Fr.sI (by decide) _ _)).trans (Fr.sI (by decide) _ _)).trans (Fr.sI (by decide) _ _)).trans (Fr.sI (by decide) _ _)).trans (Fr.sI (by decide) _ _)).trans (Fr.sI (by decide) _ _)).trans (Fr.sI (by decide) _ _)).trans (Fr.sI (by decide) _ _)).trans (Fr.sI (by decide) _ _)).trans (Fr.sI (by decide) _ _)
  have f1 : Fr [19, 20, 21, 23, 24, 25, 27] gS (sI (sI (sI (sI (sI (sI (sI gS 20 0) 19 2000) 23 (-1)) 24 0) 25 0) 27 0) 21 0) := ((((((Fr.sI (by decide) _ _).trans (Fr.sI (by decide) _ _)).trans (Fr.sI (by decide) _ _)).trans (Fr.sI (by decide) _ _)).trans (Fr.sI (by decide) _ _)).trans (Fr.sI (by decide) _ _)).trans (Fr.sI (by decide) _ _)
  have eL : (if (3000 : Int32) < nI L then (3000 : Int32) else nI L) = nI L := if_neg (show ¬ (3000 : Int32) < nI L from nI_nlt (a := 3000) hL (by omega))
  have hT0 : 0 < T := a2.2.1
  have sX := a2.base fX (by decide)
  have tX := b2.base fX (by decide)
  refine ⟨T, sI (sI (sI (sI (sI (sI (sI gS 20 0) 19 2000) 23 (-1)) 24 0) 25 0) 27 0) 21 0, sI (sI (sI gp 4 0) 5 0) 6 0, sI (sI (sI (sI gc 8 0) 9 0) 18 0) 10 0, sI (sI (sR (sR gr 14 (some hQ)) 15 (some hP)) 16 (-1)) 17 (-1), gs1, ?_, rfl, rfl, ?_, a3, fun p hp => ?_, (a7.mono (by decide)).trans (f1.mono (by decide)), ?_, ((Fr.sI (by decide) _ _).trans (Fr.sI (by decide) _ _)).trans (Fr.sI (by decide) _ _), (((Fr.sI (by decide) _ _).trans (Fr.sI (by decide) _ _)).trans (Fr.sI (by decide) _ _)).trans (Fr.sI (by decide) _ _), ?_, ?_, 0, 0, 0, 0, 0, fun _ => (0, 0, 0), ⟨⟨sX, tX, hT0⟩, ⟨rfl, rfl, rfl, rfl, rfl⟩, fun i hi => by omega, ⟨rfl, rfl⟩, ⟨rfl, .inl rfl⟩, ⟨fun _ => rfl, fun _ => rfl⟩, ⟨rfl, rfl, by omega⟩, ⟨by omega, by omega, by omega⟩, fun _ => ⟨by omega, rfl, fun i hi => by omega⟩⟩, ⟨rfl, rfl, rfl, rfl⟩, ⟨rfl, rfl, rfl⟩, ⟨by omega, by omega, by omega, by omega⟩, fun _ => ⟨⟨by omega, by omega, by omega, by omega⟩, fun _ => 0, fun _ => 0, fun _ => 0, fun _ => 0, ?_, ?_, fun c hc => by omega⟩⟩
  · unfold f_X12_begins
    rw [bnd_s a1]
  · unfold f_X7_begin
    rw [eL, bnd_s b1]
  · show gIA gS 5 p = _
    rw [a5 p hp, hE p hp]
  · exact a6
  · exact (((Fr.sR (by decide) _ _).trans (Fr.sR (by decide) _ _)).trans (Fr.sI (by decide) _ _)).trans (Fr.sI (by decide) _ _)
  · exact ((Fr.sI (by decide) _ _).trans (Fr.sI (by decide) _ _)).trans (b3.mono (by decide))
  · exact ⟨⟨rfl, rfl, fun F hF => by omega⟩, ⟨fun i hi => by omega, fun i hi => by omega, fun i hi => by omega, fun i i' _ h => by omega, fun i i' _ h => by omega, fun i i' _ h => by omega⟩, fun m hm => by omega, fun m m' _ h => by omega, fun F a h => by omega, fun i hi => by omega, fun i hi => by omega, fun i hi => by omega⟩
  · exact ⟨⟨rfl, rfl, rfl, rfl⟩, fun k hk => ⟨Nat.zero_le _, Nat.zero_le _, hk, Nat.zero_le _⟩, fun k hk => by omega, fun k k' _ h => by omega, fun k hk => by omega⟩
