/-! parsing: && and || behind their first part -/
/-- && and || -/
theorem sign_skip {n hP L T : Nat} {g2 G gt : Gs} {B : Nat → Nat} {g gr gs gc gA : Gs} {j h d N A M jA ρ ρ' so : Nat} {E : Nat → Nat × Nat × Nat} (hS : ScR n g2 L B G T) (hn : 20000 ≤ n) (hp : Pd n hP L T g2 G gt B ρ' g gr gs gc j h d N A M E gA jA) (hr : rk (kc (tk G jA)) = ρ) (h0 : 0 < ρ) (hcl : ∀ o, o < 100 → PF ρ' o → clsd o ρ false) (hb : Bl gr h ρ) (hh : h + 1 ≤ 7 * d + ρ) (hso : (kc (tk G jA) = 61 ∧ so = 67) ∨ (kc (tk G jA) = 62 ∧ so = 68)) : ∃ g1 gr2 gs2 gc2 N1 A0 M1 mm E1, f_X12_node gA (nI jA) = some g1 ∧ gI g1 20 = nI jA ∧ f_X12_act (sI g1 20 (nI (jA + 1))) (nI (ro so)) 0 (nI (ta G jA)) = some (nI (2000 + A0), actG (sI g1 20 (nI (jA + 1))) A0 (nI (ro so)) 0 (nI (ta G jA))) ∧ Mid n hP L T g2 G gt B (kc (tk G jA)) jA g gr gs gc j h d N A M E (actG (sI g1 20 (nI (jA + 1))) A0 (nI (ro so)) 0 (nI (ta G jA))) gr2 gs2 gc2 N1 A0 (A0 + 1) M1 mm E1 ∧ E1 A0 = (so, jA, 9999) ∧ (gI gc2 10 = 0 → gIA gr2 6 h = nI A0) := by
  have so3 : so ≠ 3 := by omega
  have so66 : so ≠ 66 := by omega
  have so44 : so ≠ 44 := by omega
  have soN : ¬ opN so := by unfold opN; omega
  have soK : kc (tk G jA) = 61 ∨ kc (tk G jA) = 62 := by omega
  have hJ : opJ so := by unfold opJ; omega
  obtain ⟨c, m, N', A', M', mm, E', gr0, gs0, gc0, gr1, gc1, p1, p2, p3, p4, p5, p6, p7, p8, p9, ⟨p10, p11, p12, p13, p14⟩, p15, p16, p17⟩ := hp
  obtain ⟨m1, m2, m3, m4, m5, m6, m7, m8, m9, m10⟩ := id p8
  obtain ⟨k1, k2, k3, k4, k5⟩ := hS.tok m5
  have hK := kc_lt k3
  have hρ : ρ ≤ 6 := by rw [← hr]; exact rk_le _
  have hKr := rk_ge (o := kc (tk G jA)) (by omega)
  have hT := hS.2.2.1
  have hT1 := tok_more hS m5 (by omega)
  have hL : L ≤ 3000 := m4.1.1
  -- below
  have below : 0 < h → ∃ o, gIA gr1 4 (h - 1) = nI o ∧ o < 100 ∧ rk o < ρ ∧ ¬ isA o := by
    intro z
    obtain ⟨o, o1, o2, o3⟩ := hb z
    refine ⟨o, by rw [(p9.2.1 (h - 1) (by omega)).1]; exact o1, o2, ?_⟩
    rcases o3 with o3 | ⟨o3, o4⟩
    · omega
    · exact ⟨by omega, o4⟩
  have cl := pend_close (r := ρ') (ρ := ρ) (e := false) hn hρ p4 p5 p6 p7 hcl (fun z => by
    obtain ⟨o, o1, o2, o3, o4⟩ := below z
    exact ⟨o, o1, o2, not_clsd o3 o4⟩)
  -- counted
  obtain ⟨g1, gr1', gc1', x1, x2, x3, x4, x5, x6, x7, x8, x9⟩ := node_both hS m1 m2 m3 hL m5 (by omega)
  have h4s : gI gs0 4 = nI (kc (tk G jA)) := m4.2.1
  have h5s : gI gs0 5 = nI (ta G jA) := m4.2.2.1
  obtain ⟨v, gc2, w1, w2, w3, w4⟩ := add_both (K := so) (p := jA) (x := 9999) x4 (by omega) so3 so66 soN (fun _ => rfl) so44
  have jo := join_skip (gr := gr1) (gs := gs0) (gc := gc1) (gr2 := gr1') (gc2 := gc1') (hP := hP) (h := h) (k := kc (tk G jA)) (q := (v, gc2)) x4.2.2.1 soK (by rw [h5s]; exact x2) x4.1 (by omega) (by
    rw [h5s, show (if kc (tk G jA) = 61 then 67 else 68) = so by rcases hso with ⟨a, b⟩ | ⟨a, b⟩ <;> rw [a, b] <;> rfl]; exact w1)
  have jg := join_go (gr := gr1) (gs := gs0) (gc := gc1) (hP := hP) (h := h) (k := kc (tk G jA)) (r := ρ) m2.1 (by omega) hρ (fun z => by
    obtain ⟨o, o1, o2, o3, o4⟩ := below z
    exact ⟨o, o1, o2, by omega⟩)
  have rs : f_X5_readSign n hP (sI gr0 10 1) gs0 gc0 = some (2, pushG gr1' h (nI (kc (tk G jA))) (gI gs0 5) v 0, gc2) := by
    unfold f_X5_readSign
    rw [h4s, bnd_s (rank7 hK), hr, if_neg (nI_nle h0 (by omega)), bnd_s (show f_X5_closeParts n hP (sI gr0 10 1) gc0 (nI ρ) 0 = some (gr1, gc1) from cl), jg, bnd_s jo]
  obtain ⟨gs2, a1, a2, a3⟩ := m4.next hS hT1
  have f10 : gI gr1' 10 = 1 := by
    rw [(x7 10 (by decide)).1]
    have sh := (clo_shape (h := h) (s := (sI gr0 10 1, gc0)) p5 p4).2
    rw [(sh 10 (by decide)).1]; rfl
  have st : stp n hP gt g2 (gr0, gs0, gc0, 3) = some (pushG gr1' h (nI (kc (tk G jA))) (gI gs0 5) v 0, gs2, gc2, 2) := stp_take (by rw [if_pos rfl]; exact rs) f10 (by decide) a1
  have xB : RfS G (sI g1 20 (nI (jA + 1))) (jA + 1) d (N' + 1) A' M' E' := x3.fr (X := [20]) (Fr.sI (by decide) _ _) (by decide) (by decide) rfl x3.2.2.1 x3.2.2.2.1
  obtain ⟨e14, e15, e17⟩ := actG_at (sI g1 20 (nI (jA + 1))) A' (nI (ro so)) 0 (nI (ta G jA))
  obtain ⟨b1, b2⟩ := xB.act (o := nI (ro so)) (a := 0) (p := nI (ta G jA)) (q := (so, jA, 9999)) (by omega) (re_J hJ e14 e17 (fun z => absurd rfl z))
  have nk : Nk gA (actG (sI g1 20 (nI (jA + 1))) A' (nI (ro so)) 0 (nI (ta G jA))) 0 M' := Nk.fr 0 M' (X := [14, 15, 16, 17, 19, 20, 23, 24]) (((x6.mono (by decide)).trans (Fr.sI (by decide) _ _)).trans ((actG_fr _ _ _ _ _).mono (by decide))) (by decide)
  refine ⟨g1, _, gs2, gc2, N' + 1, A', M', mm, upE E' A' (so, jA, 9999), x1, x3.2.1, b1, ⟨p3, ⟨c + 1, Gos.add (Gos.one (show ¬ (3 : Int32) ≤ 1 by decide) st) p1, by omega⟩, ⟨b2, w3.rd rfl w3.2.1 rfl rfl, x5, a2, hT1, m6, by omega, by omega, by omega, by omega⟩, ?_, ⟨pushG_rows.2.1, by rw [pushG_rows.2.2.1, h5s]⟩, ⟨by omega, by omega, by omega, by omega, by omega⟩, fun i hi => by rw [upE_n (by omega)]; exact p15 i hi, (p16.wide (Nat.le_refl _) (by omega)).keep (K := 0) (K' := M') nk (by omega) (by omega) (fun a _ a2 _ => upE_n (by omega)), p17.ext (fun i _ i2 => upE_n (by omega))⟩, upE_s _ _ _, fun z => ?_⟩
  · refine p9.trans (h' := h) (M' := M') ⟨(x7.mono (by decide)).trans ((pushG_fr _ _ _ _ _ _).mono (by decide)), fun i hi => ?_, a3, FC.trans ⟨x8.mono (by decide), x9⟩ (FC.of w4 (by decide) (by decide)), nk⟩ (by omega) (by omega)
    obtain ⟨y1, y2, y3, y4⟩ := pushG_rows.1 i hi
    obtain ⟨z1, z2, z3, z4⟩ := x7.rows (by decide) i
    exact ⟨y1.trans z1, y2.trans z2, y3.trans z3, y4.trans z4⟩
  · rw [pushG_rows.2.2.2.1]
    exact w2 (by rw [← (w4 10 (by decide)).1]; exact z)
