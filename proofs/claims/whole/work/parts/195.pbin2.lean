/-! parsing: a sign of two parts with its second part -/
theorem Mid.bl {n hP L T : Nat} {g2 G gt : Gs} {B : Nat → Nat} {K jA : Nat} {g gr gs gc gB gr2 gs2 gc2 : Gs} {j h d N A M N1 A0 A1 M1 mm ρ : Nat} {E E1 : Nat → Nat × Nat × Nat} (hM : Mid n hP L T g2 G gt B K jA g gr gs gc j h d N A M E gB gr2 gs2 gc2 N1 A0 A1 M1 mm E1) (hr : rk K = ρ) (h0 : 0 < ρ) : Bl gr2 (h + 1) (ρ + 1) := by
  intro _
  have := rk_ge (o := K) (by omega)
  exact ⟨K, hM.2.2.2.2.1.1, by omega, .inr ⟨by omega, by unfold isA; omega⟩⟩
/-- a second sign of the rank of == or of < -/
theorem doom_here {n hP L T : Nat} {g2 G gt : Gs} {B : Nat → Nat} {K jA : Nat} {g gr gs gc gB gr2 gs2 gc2 gC : Gs} {j h d N A M N1 A0 A1 M1 mm ρ j3 : Nat} {E E1 : Nat → Nat × Nat × Nat} (hS : ScR n g2 L B G T) (hn : 20000 ≤ n) (hM : Mid n hP L T g2 G gt B K jA g gr gs gc j h d N A M E gB gr2 gs2 gc2 N1 A0 A1 M1 mm E1) (hp : Pd n hP L T g2 G gt B (ρ + 1) gB gr2 gs2 gc2 (jA + 1) (h + 1) d N1 A1 M1 E1 gC j3) (hr : rk K = ρ) (hρ : ρ = 3 ∨ ρ = 4) (hk : rk (kc (tk G j3)) = ρ) : Rfd n hP L T g2 G gt B gr gs gc j j3 := by
  have hK := rk_ge (o := K) (by omega)
  obtain ⟨q1, ⟨cq, q2, q3⟩, q4, q5, ⟨q6, q7⟩, ⟨q8, q9, q10, q11, q12⟩, q13, q14, q15⟩ := hM
  obtain ⟨c, m, N', A', M', mm', E', gr0, gs0, gc0, gr1, gc1, p1, p2, p3, p4, p5, p6, p7, p8, p9, _, p15, p16, p17⟩ := hp
  obtain ⟨m1, m2, m3, m4, m5, m6, m7, m8, m9, m10⟩ := id p8
  obtain ⟨k1, k2, k3, k4, k5⟩ := hS.tok m5
  have hK3 := kc_lt k3
  have t4 : gIA gr1 4 h = nI K := (p9.2.1 h (by omega)).1.trans q6
  have cl := pend_close (r := ρ + 1) (ρ := ρ) (e := false) hn (by omega) p4 p5 p6 p7 (fun o _ ho => by
    rcases ho with z | z | z
    · exact .inl z
    · exact .inr (.inr (.inl (by omega)))
    · omega) (fun _ => ⟨K, t4, by omega, by
      rintro (z | z | z | z)
      · unfold isA at z; omega
      · exact absurd z.2 (by decide)
      · omega
      · omega⟩)
  have jd := join_doomed (gr := gr1) (gs := gs0) (gc := gc1) (hP := hP) (h := h) (o := K) (k := kc (tk G j3)) m2.1 (by omega) t4 (by omega)
  rw [hr] at jd
  have rs : f_X5_readSign n hP (sI gr0 10 1) gs0 gc0 = some (0, gr1, gc1) := by
    unfold f_X5_readSign
    rw [m4.2.1, bnd_s (rank7 hK3), hk, if_neg (nI_nle (by omega) (by omega)), bnd_s (show f_X5_closeParts n hP (sI gr0 10 1) gc0 (nI ρ) 0 = some (gr1, gc1) from cl), bnd_s jd]
  have st : stp n hP gt g2 (gr0, gs0, gc0, 3) = some (gr1, gs0, gc1, 0) := stp_leave (by rw [if_pos rfl]; exact rs) (.inr (by decide))
  exact ⟨by omega, m5, _, gr1, gs0, gc1, Gos.add (Gos.add (Gos.one (show ¬ (3 : Int32) ≤ 1 by decide) st) p1) q2, by omega, m4, q5.1.trans p9.1, q5.2.2.1.trans p9.2.2.1, q5.2.2.2.1.1.trans p9.2.2.2.1.1⟩
theorem Doom.bd {n hP L T : Nat} {g2 G gt : Gs} {B : Nat → Nat} {r : Nat} {gr gs gc g' : Gs} {j N A : Nat} (h : Doom n hP L T g2 G gt B r gr gs gc j N A g') (hb : 3 * A ≤ 5 * N) (hN : N ≤ j) (hT : T ≤ 3001) : ∃ j' A', gI g' 20 = nI j' ∧ gI g' 19 = nI (2000 + A') ∧ A' < 5900 ∧ j' < T ∧ Fr parA G g' ∧ (rk (kc (tk G j')) = 4 ∨ (r ≤ 3 ∧ rk (kc (tk G j')) = 3)) := by
  obtain ⟨j', N', A', a1, a2, a3, a4, a5, a6⟩ := h
  exact ⟨j', A', a1, a2, by have := a6.2.1; omega, a6.2.1, a3, a5⟩
theorem bin_plain {n hP L T : Nat} {g2 G gt : Gs} {B : Nat → Nat} {g gr gs gc gA : Gs} {j h d N A M jA ρ ρ' c D : Nat} {E : Nat → Nat × Nat × Nat} {F : Gs → Option (Int32 × Gs)} (hS : ScR n g2 L B G T) (hn : 20000 ≤ n) (hb0 : 3 * A ≤ 5 * N) (hp : Pd n hP L T g2 G gt B ρ' g gr gs gc j h d N A M E gA jA) (hr : rk (kc (tk G jA)) = ρ) (hcl : ∀ o, o < 100 → PF ρ' o → clsd o ρ false) (hb : Bl gr h ρ) (hh : h + 1 ≤ 7 * d + ρ) (h3 : 3 ≤ ρ) (hF : LV n hP L T g2 G gt B (ρ + 1) c D F) (hD : 10 * (40 - d) + c ≤ D) : ∃ g1, f_X12_node gA (nI jA) = some g1 ∧ gI g1 20 = nI jA ∧ ∃ b gC, F (sI g1 20 (nI (jA + 1))) = some (b, gC) ∧ ((b = 1 ∧ Fr parA G gC ∧ ∃ v g3, f_X12_act gC 12 (nI (tk G jA)) (nI (ta G jA)) = some (v, g3) ∧ ((∃ j3, jA < j3 ∧ Pd n hP L T g2 G gt B ρ g gr gs gc j h d N A M E g3 j3 ∧ TC (ρ + 1) (kc (tk G j3)) ∧ (ρ = 3 ∨ ρ = 4 → rk (kc (tk G j3)) = ρ → Rfd n hP L T g2 G gt B gr gs gc j j3)) ∨ (ρ ≤ 3 ∧ Doom n hP L T g2 G gt B ρ gr gs gc j N A g3))) ∨ (b = 0 ∧ Rf n hP L T g2 G gt B gr gs gc j gC)) := by
  have hT := hS.2.2.1
  obtain ⟨g1, gr2, gs2, gc2, N1, A1, M1, mm, E1, x1, x2, hM⟩ := sign_plain hS hn hp hr (by omega) hcl hb hh (by omega) (by omega)
  obtain ⟨b, gC, f1, f2⟩ := hF _ gr2 gs2 gc2 (jA + 1) (h + 1) d N1 A1 M1 E1 hM.2.2.1 (hM.bl hr (by omega)) (by omega) hD
  have ⟨_, ⟨cq, q2, q3⟩, q4, q5, _, ⟨q8, q9, q10, q11, q12⟩, _⟩ := hM
  have bd := q4.bd
  have hK := rk_ge (o := kc (tk G jA)) (by omega)
  have hKT : opT (kc (tk G jA)) := by
    unfold opT
    have : kc (tk G jA) ≠ 61 := by intro z; rw [z] at hr; have : rk 61 = 2 := rfl; omega
    have : kc (tk G jA) ≠ 62 := by intro z; rw [z] at hr; have : rk 62 = 1 := rfl; omega
    omega
  refine ⟨g1, x1, x2, b, gC, f1, ?_⟩
  rcases f2 with ⟨rfl, j3, o1, o2⟩ | ⟨rfl, o1, o2⟩ | ⟨rfl, j', o1, o2, o3, o4⟩
  · obtain ⟨v, g3, w1, w2, w3, w4⟩ := wrap_plain hT hb0 hM o1 hKT (by omega) rfl (hS.tok (show jA < T by omega)).2.2.1 hr (by omega)
    exact .inl ⟨rfl, w3, v, g3, w1, .inl ⟨j3, w2, w4, o2, fun z1 z2 => doom_here hS hn hM o1 hr z1 z2⟩⟩
  · obtain ⟨j', N', A', a1, a2, a3, a4, a5, a6⟩ := o2
    have lt := a6.2.1
    refine .inl ⟨rfl, a3, _, _, act12 a2 (by omega), .inr ⟨by omega, j', N', A' + 1, a1, rfl, a3.trans ((actG_fr _ _ _ _ _).mono (by decide)), ⟨by omega, by omega, by omega⟩, ?_, a6.after q2 (by omega) (by omega) q5⟩⟩
    rcases a5 with z | z
    · exact .inl z
    · exact .inr ⟨by omega, z.2⟩
  · exact .inr ⟨rfl, j', o1, o2, o3, o4.after q2 (by omega) (by omega) q5⟩
theorem bin_skip {n hP L T : Nat} {g2 G gt : Gs} {B : Nat → Nat} {g gr gs gc gA : Gs} {j h d N A M jA ρ so c D : Nat} {E : Nat → Nat × Nat × Nat} {F : Gs → Option (Int32 × Gs)} (hS : ScR n g2 L B G T) (hn : 20000 ≤ n) (hb0 : 3 * A ≤ 5 * N) (hp : Pd n hP L T g2 G gt B ρ g gr gs gc j h d N A M E gA jA) (hr : rk (kc (tk G jA)) = ρ) (h0 : 0 < ρ) (hcl : ∀ o, o < 100 → PF ρ o → clsd o ρ false) (hb : Bl gr h ρ) (hh : h + 1 ≤ 7 * d + ρ) (hso : (kc (tk G jA) = 61 ∧ so = 67) ∨ (kc (tk G jA) = 62 ∧ so = 68)) (hF : LV n hP L T g2 G gt B (ρ + 1) c D F) (hD : 10 * (40 - d) + c ≤ D) : ∃ g1 A0 gB, f_X12_node gA (nI jA) = some g1 ∧ gI g1 20 = nI jA ∧ A0 < 6000 ∧ f_X12_act (sI g1 20 (nI (jA + 1))) (nI (ro so)) 0 (nI (ta G jA)) = some (nI (2000 + A0), gB) ∧ Fr parA G (sI g1 20 (nI (jA + 1))) ∧ ∃ b gC, F gB = some (b, gC) ∧ ((b = 1 ∧ Fr parA G gC ∧ ∃ A2 g3, f_X12_act gC (nI (ro (kc (tk G jA)))) 0 (nI (ta G jA)) = some (nI (2000 + A2), g3) ∧ gI g3 19 = nI (2000 + A2 + 1) ∧ ((∃ j3, jA < j3 ∧ Pd n hP L T g2 G gt B ρ g gr gs gc j h d N A M E (sIA g3 15 (upd (gIA g3 15) (2000 + A0) (nI (2000 + A2 + 1)))) j3 ∧ TC (ρ + 1) (kc (tk G j3))) ∨ Doom n hP L T g2 G gt B ρ gr gs gc j N A (sIA g3 15 (upd (gIA g3 15) (2000 + A0) (nI (2000 + A2 + 1)))))) ∨ (b = 0 ∧ Rf n hP L T g2 G gt B gr gs gc j gC)) := by
  have hT := hS.2.2.1
  have hρ2 : ρ ≤ 2 := by rcases hso with ⟨z, _⟩ | ⟨z, _⟩ <;> rw [z] at hr <;> have r61 : rk 61 = 2 := rfl <;> have r62 : rk 62 = 1 := rfl <;> omega
  obtain ⟨g1, gr2, gs2, gc2, N1, A0, M1, mm, E1, x1, x2, x3, hM, hE, hmk⟩ := sign_skip hS hn hp hr h0 hcl hb hh hso
  obtain ⟨b, gC, f1, f2⟩ := hF _ gr2 gs2 gc2 (jA + 1) (h + 1) d N1 (A0 + 1) M1 E1 hM.2.2.1 (hM.bl hr (by omega)) (by omega) hD
  have ⟨_, ⟨cq, q2, q3⟩, q4, q5, _, ⟨q8, q9, q10, q11, q12⟩, _⟩ := hM
  have bd := q4.bd
  have frB : Fr parA G (sI g1 20 (nI (jA + 1))) := by
    obtain ⟨_, _, _, _, _, _, _, _, _, _, _, _, _, _, _, _, _, _, _, p8, _⟩ := hp
    have fA := p8.1.1
    obtain ⟨_, _, p8b, _⟩ := id p8
    have e1 := node12 hS fA p8.bd.2.2.2.1 p8.1.2.2.2.1 (by have := p8.bd; omega)
    rw [e1] at x1
    injection x1 with x1
    rw [← x1]
    split
    · exact ((fA.trans (Fr.sI (by decide) _ _)).trans (Fr.sI (by decide) _ _)).trans (Fr.sI (by decide) _ _)
    · exact (fA.trans (Fr.sI (by decide) _ _)).trans (Fr.sI (by decide) _ _)
  refine ⟨g1, A0, _, x1, x2, by omega, x3, frB, b, gC, f1, ?_⟩
  rcases f2 with ⟨rfl, j3, o1, o2⟩ | ⟨rfl, o1, o2⟩ | ⟨rfl, j', o1, o2, o3, o4⟩
  · obtain ⟨A2, w0, w1, w2, w3, _, w4⟩ := wrap_skip hT hb0 hM o1 hso hr h0 hE hmk
    exact .inl ⟨rfl, w3, A2, _, w1, rfl, .inl ⟨j3, w2, w4, o2⟩⟩
  · obtain ⟨j', N', A', a1, a2, a3, a4, a5, a6⟩ := o2
    have lt := a6.2.1
    refine .inl ⟨rfl, a3, A', _, act12 a2 (by omega), rfl, .inr ⟨j', N', A' + 1, a1, rfl, (a3.trans ((actG_fr _ _ _ _ _).mono (by decide))).trans (Fr.sIA (by decide) _ _), ⟨by omega, by omega, by omega⟩, ?_, a6.after q2 (by omega) (by omega) q5⟩⟩
    rcases a5 with z | z
    · exact .inl z
    · exact .inr ⟨by omega, z.2⟩
  · exact .inr ⟨rfl, j', o1, o2, o3, o4.after q2 (by omega) (by omega) q5⟩
