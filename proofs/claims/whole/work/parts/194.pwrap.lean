/-! parsing: a sign of two parts, behind its second part -/
theorem PF_up {ρ o : Nat} (h : PF (ρ + 1) o) : PF ρ o := by
  rcases h with h | h | h
  · exact .inl h
  · exact .inr (.inl (by omega))
  · omega
theorem MS.bd {n hP L T : Nat} {g2 G gt : Gs} {B : Nat → Nat} {g gr gs gc : Gs} {j h d N A M : Nat} {E : Nat → Nat × Nat × Nat} (h : MS n hP L T g2 G gt B g gr gs gc j h d N A M E) : 3 * A ≤ 5 * N ∧ N ≤ j ∧ M ≤ j ∧ j < T ∧ d ≤ 40 := ⟨h.2.2.2.2.2.2.2.2.1, h.2.2.2.2.2.2.2.1, h.2.2.2.2.2.2.2.2.2, h.2.2.2.2.1, h.2.2.2.2.2.1⟩
theorem wrap_plain {n hP L T : Nat} {g2 G gt : Gs} {B : Nat → Nat} {K jA : Nat} {g gr gs gc gB gr2 gs2 gc2 gC : Gs} {j h d N A M N1 A1 M1 mm ρ j3 : Nat} {E E1 : Nat → Nat × Nat × Nat} (hT : T ≤ 3001) (hb0 : 3 * A ≤ 5 * N) (hM : Mid n hP L T g2 G gt B K jA g gr gs gc j h d N A M E gB gr2 gs2 gc2 N1 A1 A1 M1 mm E1) (hp : Pd n hP L T g2 G gt B (ρ + 1) gB gr2 gs2 gc2 (jA + 1) (h + 1) d N1 A1 M1 E1 gC j3) (hK : opT K) (hK2 : ¬ K ≤ 22) (hk : kc (tk G jA) = K) (hks : tk G jA ∈ KS) (hr : rk K = ρ) (h0 : 0 < ρ) : ∃ v g3, f_X12_act gC 12 (nI (tk G jA)) (nI (ta G jA)) = some (v, g3) ∧ jA < j3 ∧ Fr parA G gC ∧ Pd n hP L T g2 G gt B ρ g gr gs gc j h d N A M E g3 j3 := by
  obtain ⟨q1, ⟨cq, q2, q3⟩, q4, q5, ⟨q6, q7⟩, ⟨q8, q9, q10, q11, q12⟩, q13, q14, q15⟩ := hM
  obtain ⟨c, m, N', A', M', mm', E', gr0, gs0, gc0, gr1, gc1, p1, p2, p3, p4, p5, p6, p7, p8, p9, ⟨p10, p11, p12, p13, p14⟩, p15, p16, p17⟩ := hp
  obtain ⟨m1, m2, m3, m4, m5, m6, m7, m8, m9, m10⟩ := id p8
  have bd := q4.bd
  have hK100 : K < 100 ∧ dl K = 0 ∧ ro K = 12 := by
    have k49 := rk_ge (o := K) (by omega)
    have : K < 100 := by omega
    refine ⟨this, ?_, ?_⟩
    · unfold dl; rw [if_neg (by unfold opT at hK; omega)]
    · unfold opT at hK; unfold ro
      rw [if_neg (by omega), if_neg (by omega), if_neg (by omega), if_neg (by omega), if_neg (by omega), if_neg (by omega), if_neg (by omega), if_neg (by omega), if_neg (by omega), if_neg (by omega), if_neg (by omega), if_neg (by omega), if_neg (by omega), if_neg (by omega), if_neg (by omega), if_neg (by omega), if_neg (by omega), if_neg (by omega)]
  obtain ⟨k1, k2, k3⟩ := hK100
  have sh := (clo_shape (h := h + 1) (s := (sI gr0 10 1, gc0)) p5 p4).2
  have e4 : gIA gr0 4 = gIA gr1 4 := ((sh 4 (by decide)).2.2.2.1).symm
  obtain ⟨y1, y2, y3, y4⟩ := p9.2.1 h (by omega)
  obtain ⟨gr', gc', z1, z2, z3, z4⟩ := pop_plain (x := 0) m2 m9 (by omega) (by omega) (.inl hK) (y1.trans q6) (y2.trans q7)
  obtain ⟨e14, e15, e17⟩ := actG_at gC A' 12 (nI (tk G jA)) (nI (ta G jA))
  obtain ⟨b1, b2⟩ := m1.act (o := 12) (a := nI (tk G jA)) (p := nI (ta G jA)) (q := (K, jA, 0)) (by omega) (re_T hK hk hks (by rw [e14, k3]; rfl) e15 e17)
  have nk : ∀ X, Nk gC (actG gC A' 12 (nI (tk G jA)) (nI (ta G jA))) 0 X := fun X => Nk.fr 0 X (actG_fr _ _ _ _ _) (by decide)
  rw [show d - dl K = d by omega] at z2
  refine ⟨_, _, b1, by omega, m1.1, cq + c, m + 1, N', A' + 1, M', max mm mm' + 1, upE E' A' (K, jA, 0), gr0, gs0, gc0, gr', gc', Gos.add p1 q2, by omega, by omega, clo_add (clo_one z1) p4, by rw [p5, show h + 1 + m = h + (m + 1) by omega], by omega, fun i i1 i2 => ?_, ⟨b2, z2, ⟨m3.1.trans ((z3 16 (by decide)).1).symm, m3.2⟩, m4, m5, m6, by omega, m8, by omega, m10⟩, q5.trans (p9.trans (h' := h + 1) (M' := M1) ⟨z3.mono (by decide), fun i _ => z3.rows (by decide) i, Fr.refl _ _, FC.of z4 (by decide) (by decide), nk _⟩ (by omega) (by omega)) (by omega) (by omega), ⟨by omega, by omega, by omega, by omega, by omega⟩, fun i hi => by rw [upE_n (by omega), p15 i (by omega)]; exact q13 i hi, ?_, .inr (.inr (.inl ⟨A1, A', rfl, ?_, ?_, ?_⟩))⟩
  · by_cases hi : i = h
    · exact ⟨K, by rw [hi, e4]; exact y1.trans q6, k1, .inr (.inl (by omega))⟩
    · obtain ⟨o, o1, o2, o3⟩ := p7 i (by omega) (by omega)
      exact ⟨o, o1, o2, PF_up o3⟩
  · have n1 : Nm G (actG gC A' 12 (nI (tk G jA)) (nI (ta G jA))) (upE E' A' (K, jA, 0)) A A1 M M1 j (jA + 1) := q14.keep (p9.2.2.2.2.trans (nk M1) (by omega) (by omega)) (by omega) (by omega) (fun a _ a2 _ => by rw [upE_n (by omega), p15 a (by omega)])
    have n2 : Nm G (actG gC A' 12 (nI (tk G jA)) (nI (ta G jA))) (upE E' A' (K, jA, 0)) A1 A' M1 M' (jA + 1) j3 := p16.keep (nk M') (by omega) (by omega) (fun a _ a2 _ => by rw [upE_n (by omega)])
    have n3 : Nm G (actG gC A' 12 (nI (tk G jA)) (nI (ta G jA))) (upE E' A' (K, jA, 0)) A' (A' + 1) M' M' j3 j3 := Nm.none (by rw [upE_s]; unfold opT at hK; show ¬ (K = 63 ∨ K = 16 ∨ K = 64); omega)
    exact (n1.join n2 (by omega) (by omega) (by omega) (by omega) (by omega) (by omega)).join n3 (by omega) (by omega) (by omega) (by omega) (by omega) (by omega)
  · exact (q15.ext (fun i _ i2 => by rw [upE_n (by omega), p15 i (by omega)])).mono (by omega)
  · exact (p17.ext (fun i _ i2 => by rw [upE_n (by omega)])).mono (by omega)
  · rw [upE_s]; exact ⟨hK, hK2⟩
theorem wrap_skip {n hP L T : Nat} {g2 G gt : Gs} {B : Nat → Nat} {K jA so : Nat} {g gr gs gc gB gr2 gs2 gc2 gC : Gs} {j h d N A M N1 A0 M1 mm ρ j3 : Nat} {E E1 : Nat → Nat × Nat × Nat} (hT : T ≤ 3001) (hb0 : 3 * A ≤ 5 * N) (hM : Mid n hP L T g2 G gt B K jA g gr gs gc j h d N A M E gB gr2 gs2 gc2 N1 A0 (A0 + 1) M1 mm E1) (hp : Pd n hP L T g2 G gt B (ρ + 1) gB gr2 gs2 gc2 (jA + 1) (h + 1) d N1 (A0 + 1) M1 E1 gC j3) (hso : (K = 61 ∧ so = 67) ∨ (K = 62 ∧ so = 68)) (hr : rk K = ρ) (h0 : 0 < ρ) (hE : E1 A0 = (so, jA, 9999)) (hmk : gI gc2 10 = 0 → gIA gr2 6 h = nI A0) : ∃ A2, A2 < 6000 ∧ f_X12_act gC (nI (ro K)) 0 (nI (ta G jA)) = some (nI (2000 + A2), actG gC A2 (nI (ro K)) 0 (nI (ta G jA))) ∧ jA < j3 ∧ Fr parA G gC ∧ A0 < 6000 ∧ Pd n hP L T g2 G gt B ρ g gr gs gc j h d N A M E (sIA (actG gC A2 (nI (ro K)) 0 (nI (ta G jA))) 15 (upd (gIA (actG gC A2 (nI (ro K)) 0 (nI (ta G jA))) 15) (2000 + A0) (nI (2000 + A2 + 1)))) j3 := by
  have k1 : K < 100 := by omega
  have k2 : opP K := by unfold opP; omega
  have k3 : K = 61 ∨ K = 62 := by omega
  have k4 : opJ so := by unfold opJ; omega
  have k5 : ¬ opN K := by unfold opN; omega
  have k6 : so ≠ 63 ∧ so ≠ 16 ∧ so ≠ 64 := by omega
  obtain ⟨q1, ⟨cq, q2, q3⟩, q4, q5, ⟨q6, q7⟩, ⟨q8, q9, q10, q11, q12⟩, q13, q14, q15⟩ := hM
  obtain ⟨c, m, N', A', M', mm', E', gr0, gs0, gc0, gr1, gc1, p1, p2, p3, p4, p5, p6, p7, p8, p9, ⟨p10, p11, p12, p13, p14⟩, p15, p16, p17⟩ := hp
  obtain ⟨m1, m2, m3, m4, m5, m6, m7, m8, m9, m10⟩ := id p8
  have bd := q4.bd
  have sh := (clo_shape (h := h + 1) (s := (sI gr0 10 1, gc0)) p5 p4).2
  have e4 : gIA gr0 4 = gIA gr1 4 := ((sh 4 (by decide)).2.2.2.1).symm
  obtain ⟨y1, y2, y3, y4⟩ := p9.2.1 h (by omega)
  have hE' : E' A0 = (so, jA, 9999) := by rw [p15 A0 (by omega)]; exact hE
  obtain ⟨gr', gc', z1, z2, z3, z4⟩ := pop_join (K := K) (p := jA) (m := A0) (so := so) (p' := jA) m2 m9 (by omega) k3 (y1.trans q6) (y2.trans q7) (fun z => y3.trans (hmk (p9.2.2.2.1.2 z))) (by omega) hE' k4
  obtain ⟨e14, e15, e17⟩ := actG_at gC A' (nI (ro K)) 0 (nI (ta G jA))
  obtain ⟨b1, b2⟩ := m1.act (o := nI (ro K)) (a := 0) (p := nI (ta G jA)) (q := (K, jA, 0)) (by omega) (re_P k2 e14 e17)
  have b3 := b2.patch (m := A0) (x := A') (by omega) (by rw [upE_n (by omega)]; exact hE') k4
  have nk : ∀ X, Nk gC (sIA (actG gC A' (nI (ro K)) 0 (nI (ta G jA))) 15 (upd (gIA (actG gC A' (nI (ro K)) 0 (nI (ta G jA))) 15) (2000 + A0) (nI (2000 + A' + 1)))) 0 X := fun X => Nk.fr 0 X (X := [14, 15, 16, 17, 19]) ((actG_fr _ _ _ _ _).trans (Fr.sIA (by decide) _ _)) (by decide)
  refine ⟨A', by omega, b1, by omega, m1.1, by omega, cq + c, m + 1, N', A' + 1, M', max mm mm' + 1, upE (upE E' A' (K, jA, 0)) A0 (so, jA, A'), gr0, gs0, gc0, gr', gc', Gos.add p1 q2, by omega, by omega, clo_add (clo_one z1) p4, by rw [p5, show h + 1 + m = h + (m + 1) by omega], by omega, fun i i1 i2 => ?_, ⟨b3, z2, ⟨m3.1.trans ((z3 16 (by decide)).1).symm, m3.2⟩, m4, m5, m6, by omega, m8, by omega, m10⟩, q5.trans (p9.trans (h' := h + 1) (M' := M1) ⟨z3.mono (by decide), fun i _ => z3.rows (by decide) i, Fr.refl _ _, FC.of z4 (by decide) (by decide), nk _⟩ (by omega) (by omega)) (by omega) (by omega), ⟨by omega, by omega, by omega, by omega, by omega⟩, fun i hi => by rw [upE_n (by omega), upE_n (by omega), p15 i (by omega)]; exact q13 i hi, ?_, .inr (.inr (.inr (.inl ⟨decide (K = 62), A0, A', rfl, ?_, ?_, ?_, ?_, ?_⟩)))⟩
  · by_cases hi : i = h
    · exact ⟨K, by rw [hi, e4]; exact y1.trans q6, k1, .inr (.inl (by omega))⟩
    · obtain ⟨o, o1, o2, o3⟩ := p7 i (by omega) (by omega)
      exact ⟨o, o1, o2, PF_up o3⟩
  · have n1 := q14.keep (g' := sIA (actG gC A' (nI (ro K)) 0 (nI (ta G jA))) 15 (upd (gIA (actG gC A' (nI (ro K)) 0 (nI (ta G jA))) 15) (2000 + A0) (nI (2000 + A' + 1)))) (E' := upE (upE E' A' (K, jA, 0)) A0 (so, jA, A')) (p9.2.2.2.2.trans (nk M1) (by omega) (by omega)) (by omega) (by omega) (fun a _ a2 _ => by rw [upE_n (by omega), upE_n (by omega), p15 a (by omega)])
    have n0 : Nm G (sIA (actG gC A' (nI (ro K)) 0 (nI (ta G jA))) 15 (upd (gIA (actG gC A' (nI (ro K)) 0 (nI (ta G jA))) 15) (2000 + A0) (nI (2000 + A' + 1)))) (upE (upE E' A' (K, jA, 0)) A0 (so, jA, A')) A0 (A0 + 1) M1 M1 (jA + 1) (jA + 1) := Nm.none (by rw [upE_s]; show ¬ (so = 63 ∨ so = 16 ∨ so = 64); omega)
    have n2 := p16.keep (g' := sIA (actG gC A' (nI (ro K)) 0 (nI (ta G jA))) 15 (upd (gIA (actG gC A' (nI (ro K)) 0 (nI (ta G jA))) 15) (2000 + A0) (nI (2000 + A' + 1)))) (E' := upE (upE E' A' (K, jA, 0)) A0 (so, jA, A')) (nk M') (by omega) (by omega) (fun a a1 a2 _ => by rw [upE_n (by omega), upE_n (by omega)])
    have n3 : Nm G (sIA (actG gC A' (nI (ro K)) 0 (nI (ta G jA))) 15 (upd (gIA (actG gC A' (nI (ro K)) 0 (nI (ta G jA))) 15) (2000 + A0) (nI (2000 + A' + 1)))) (upE (upE E' A' (K, jA, 0)) A0 (so, jA, A')) A' (A' + 1) M' M' j3 j3 := Nm.none (by rw [upE_n (by omega), upE_s]; exact k5)
    exact ((n1.join n0 (by omega) (by omega) (by omega) (by omega) (by omega) (by omega)).join n2 (by omega) (by omega) (by omega) (by omega) (by omega) (by omega)).join n3 (by omega) (by omega) (by omega) (by omega) (by omega) (by omega)
  · exact (q15.ext (fun i _ i2 => by rw [upE_n (by omega), upE_n (by omega), p15 i (by omega)])).mono (by omega)
  · rw [upE_s]
    rcases hso with ⟨a, b⟩ | ⟨a, b⟩
    · rw [a, b]; rfl
    · rw [a, b]; rfl
  · rw [upE_s]
  · exact (p17.ext (fun i i1 i2 => by rw [upE_n (by omega), upE_n (by omega)])).mono (by omega)
  · rw [upE_n (by omega), upE_s]
    rcases hso with ⟨a, b⟩ | ⟨a, b⟩
    · rw [a]; rfl
    · rw [a]; rfl
