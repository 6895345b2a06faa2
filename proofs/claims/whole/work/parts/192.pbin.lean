/-! parsing: a sign of two parts, behind its first part -/
def Mid (n hP L T : Nat) (g2 G gt : Gs) (B : Nat → Nat) (K jA : Nat) (g gr gs gc : Gs) (j h d N A M : Nat) (E : Nat → Nat × Nat × Nat) (gB gr2 gs2 gc2 : Gs) (N1 A0 A1 M1 mm : Nat) (E1 : Nat → Nat × Nat × Nat) : Prop := j < jA ∧ (∃ c, Gos n hP gt g2 c (gr, gs, gc, 2) (gr2, gs2, gc2, 2) ∧ c ≤ 2 * (jA + 1 - j)) ∧ MS n hP L T g2 G gt B gB gr2 gs2 gc2 (jA + 1) (h + 1) d N1 A1 M1 E1 ∧ Kp gr gs gc g gr2 gs2 gc2 gB h M ∧ (gIA gr2 4 h = nI K ∧ gIA gr2 5 h = nI (ta G jA)) ∧ (3 * A0 + 5 * N + 7 ≤ 5 * N1 + 3 * A ∧ N1 + j ≤ N + jA + 1 ∧ M1 + j ≤ M + jA + 1 ∧ A ≤ A0 ∧ M ≤ M1) ∧ (∀ i, i < A → E1 i = E i) ∧ Nm G gB E1 A A0 M M1 j (jA + 1) ∧ Eg E1 mm A A0
theorem pushG_rows {gr : Gs} {h : Nat} {o p m x : Int32} : (∀ i, i < h → gIA (pushG gr h o p m x) 4 i = gIA gr 4 i ∧ gIA (pushG gr h o p m x) 5 i = gIA gr 5 i ∧ gIA (pushG gr h o p m x) 6 i = gIA gr 6 i ∧ gIA (pushG gr h o p m x) 7 i = gIA gr 7 i) ∧ gIA (pushG gr h o p m x) 4 h = o ∧ gIA (pushG gr h o p m x) 5 h = p ∧ gIA (pushG gr h o p m x) 6 h = m ∧ gIA (pushG gr h o p m x) 7 h = x := by
  refine ⟨fun i hi => ⟨?_, ?_, ?_, ?_⟩, ?_, ?_, ?_, ?_⟩
  · show upd (gIA gr 4) h o i = _; rw [pk_un (by omega)]
  · show upd (gIA gr 5) h p i = _; rw [pk_un (by omega)]
  · show upd (gIA gr 6) h m i = _; rw [pk_un (by omega)]
  · show upd (gIA gr 7) h x i = _; rw [pk_un (by omega)]
  · show upd (gIA gr 4) h o h = _; rw [pk_us]
  · show upd (gIA gr 5) h p h = _; rw [pk_us]
  · show upd (gIA gr 6) h m h = _; rw [pk_us]
  · show upd (gIA gr 7) h x h = _; rw [pk_us]
theorem Fr.rows {gr gr' : Gs} {X : List Nat} (h : Fr X gr gr') (hX : 4 ∉ X ∧ 5 ∉ X ∧ 6 ∉ X ∧ 7 ∉ X) (i : Nat) : gIA gr' 4 i = gIA gr 4 i ∧ gIA gr' 5 i = gIA gr 5 i ∧ gIA gr' 6 i = gIA gr 6 i ∧ gIA gr' 7 i = gIA gr 7 i := ⟨by rw [(h 4 hX.1).2.2.2.1], by rw [(h 5 hX.2.1).2.2.2.1], by rw [(h 6 hX.2.2.1).2.2.2.1], by rw [(h 7 hX.2.2.2).2.2.2.1]⟩
theorem not_clsd {o ρ : Nat} (h : rk o < ρ) (hA : ¬ isA o) : ¬ clsd o ρ false := by
  rintro (z | z | z | z)
  · exact hA z
  · exact absurd z.2 (by decide)
  · omega
  · omega
theorem sign_plain {n hP L T : Nat} {g2 G gt : Gs} {B : Nat → Nat} {g gr gs gc gA : Gs} {j h d N A M jA ρ ρ' : Nat} {E : Nat → Nat × Nat × Nat} (hS : ScR n g2 L B G T) (hn : 20000 ≤ n) (hp : Pd n hP L T g2 G gt B ρ' g gr gs gc j h d N A M E gA jA) (hr : rk (kc (tk G jA)) = ρ) (h0 : 0 < ρ) (hcl : ∀ o, o < 100 → PF ρ' o → clsd o ρ false) (hb : Bl gr h ρ) (hh : h + 1 ≤ 7 * d + ρ) (n1 : ρ ≠ 1) (n2 : ρ ≠ 2) : ∃ g1 gr2 gs2 gc2 N1 A1 M1 mm E1, f_X12_node gA (nI jA) = some g1 ∧ gI g1 20 = nI jA ∧ Mid n hP L T g2 G gt B (kc (tk G jA)) jA g gr gs gc j h d N A M E (sI g1 20 (nI (jA + 1))) gr2 gs2 gc2 N1 A1 A1 M1 mm E1 := by
  obtain ⟨c, m, N', A', M', mm, E', gr0, gs0, gc0, gr1, gc1, p1, p2, p3, p4, p5, p6, p7, p8, p9, ⟨p10, p11, p12, p13, p14⟩, p15, p16, p17⟩ := hp
  obtain ⟨m1, m2, m3, m4, m5, m6, m7, m8, m9, m10⟩ := id p8
  obtain ⟨k1, k2, k3, k4, k5⟩ := hS.tok m5
  have hK := kc_lt k3
  have hρ : ρ ≤ 6 := by rw [← hr]; exact rk_le _
  have hKr := rk_ge (o := kc (tk G jA)) (by omega)
  have hn61 : kc (tk G jA) ≠ 61 := by intro z; rw [z] at hr; exact n2 (hr.symm.trans rfl)
  have hn62 : kc (tk G jA) ≠ 62 := by intro z; rw [z] at hr; exact n1 (hr.symm.trans rfl)
  have hT := hS.2.2.1
  have hT1 := tok_more hS m5 (by omega)
  have hL : L ≤ 3000 := m4.1.1
  -- below
  have below : 0 < h → ∃ o, gIA gr1 4 (h - 1) = nI o ∧ o < 100 ∧ rk o < ρ ∧ ¬ isA o := by
    intro z
    obtain ⟨o, o1, o2, o3⟩ := hb z
    refine ⟨o, by rw [(p9.2.1 (h - 1) (by omega)).1]; exact o1, o2, ?_⟩
    rcases o3 with o3 | ⟨o3, o4⟩
    · omega
    · exact ⟨by omega, o4⟩
  have cl := pend_close (r := ρ') (ρ := ρ) (e := false) hn hρ p4 p5 p6 p7 hcl (fun z => by
    obtain ⟨o, o1, o2, o3, o4⟩ := below z
    exact ⟨o, o1, o2, not_clsd o3 o4⟩)
  -- counted
  obtain ⟨g1, gr1', gc1', x1, x2, x3, x4, x5, x6, x7, x8, x9⟩ := node_both hS m1 m2 m3 hL m5 (by omega)
  have h4s : gI gs0 4 = nI (kc (tk G jA)) := m4.2.1
  have h5s : gI gs0 5 = nI (ta G jA) := m4.2.2.1
  have jo := join_open (gr := gr1) (gs := gs0) (gc := gc1) (gr2 := gr1') (gc2 := gc1') (hP := hP) (h := h) (k := kc (tk G jA)) (N := 0) x4.2.2.1 hK (by rw [h5s]; exact x2) x4.1 (by omega) hn61 hn62
  have jg := join_go (gr := gr1) (gs := gs0) (gc := gc1) (hP := hP) (h := h) (k := kc (tk G jA)) (r := ρ) m2.1 (by omega) hρ (fun z => by
    obtain ⟨o, o1, o2, o3, o4⟩ := below z
    exact ⟨o, o1, o2, by omega⟩)
  have rs : f_X5_readSign n hP (sI gr0 10 1) gs0 gc0 = some (2, pushG gr1' h (nI (kc (tk G jA))) (gI gs0 5) (-1) 0, gc1') := by
    unfold f_X5_readSign
    rw [h4s, bnd_s (rank7 hK), hr, if_neg (nI_nle h0 (by omega)), bnd_s (show f_X5_closeParts n hP (sI gr0 10 1) gc0 (nI ρ) 0 = some (gr1, gc1) from cl), jg, bnd_s jo]
  obtain ⟨gs2, a1, a2, a3⟩ := m4.next hS hT1
  have f10 : gI gr1' 10 = 1 := by
    rw [(x7 10 (by decide)).1]
    have sh := (clo_shape (h := h) (s := (sI gr0 10 1, gc0)) p5 p4).2
    rw [(sh 10 (by decide)).1]; rfl
  have st : stp n hP gt g2 (gr0, gs0, gc0, 3) = some (pushG gr1' h (nI (kc (tk G jA))) (gI gs0 5) (-1) 0, gs2, gc1', 2) := stp_take (by rw [if_pos rfl]; exact rs) f10 (by decide) a1
  refine ⟨g1, _, gs2, gc1', N' + 1, A', M', mm, E', x1, x3.2.1, p3, ⟨c + 1, Gos.add (Gos.one (show ¬ (3 : Int32) ≤ 1 by decide) st) p1, by omega⟩, ⟨?_, ?_, x5, a2, hT1, m6, by omega, by omega, by omega, by omega⟩, ?_, ⟨pushG_rows.2.1, by rw [pushG_rows.2.2.1, h5s]⟩, ⟨by omega, by omega, by omega, by omega, by omega⟩, p15, (p16.wide (Nat.le_refl _) (by omega)).keep (K := 0) (K' := M') (Nk.fr 0 M' (X := [20, 23, 24]) ((x6.mono (by decide)).trans (Fr.sI (by decide) _ _)) (by decide)) (by omega) (by omega) (fun _ _ _ _ => rfl), p17⟩
  · exact x3.fr (X := [20]) (Fr.sI (by decide) _ _) (by decide) (by decide) rfl x3.2.2.1 x3.2.2.2.1
  · exact x4.rd rfl x4.2.1 rfl rfl
  · refine p9.trans (h' := h) (M' := M') ⟨(x7.mono (by decide)).trans ((pushG_fr _ _ _ _ _ _).mono (by decide)), fun i hi => ?_, a3, ⟨x8.mono (by decide), x9⟩, Nk.fr 0 M' (X := [20, 23, 24]) ((x6.mono (by decide)).trans (Fr.sI (by decide) _ _)) (by decide)⟩ (by omega) (by omega)
    obtain ⟨y1, y2, y3, y4⟩ := pushG_rows.1 i hi
    obtain ⟨z1, z2, z3, z4⟩ := x7.rows (by decide) i
    exact ⟨y1.trans z1, y2.trans z2, y3.trans z3, y4.trans z4⟩
