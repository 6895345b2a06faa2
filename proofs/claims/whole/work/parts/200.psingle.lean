/-! parsing: - ! and casts -/
/-- a sign is open, what it is around begins at token jB -/
def Op (n hP L T : Nat) (g2 G gt : Gs) (B : Nat → Nat) (o jB p : Nat) (x6 x7 : Int32) (g gr gs gc : Gs) (j h d N A M : Nat) (E : Nat → Nat × Nat × Nat) (gB gr2 gs2 gc2 : Gs) (N1 A1 M1 : Nat) (E1 : Nat → Nat × Nat × Nat) : Prop := j < jB ∧ (∃ c, Gos n hP gt g2 c (gr, gs, gc, 2) (gr2, gs2, gc2, 2) ∧ c ≤ 2 * (jB - j)) ∧ MS n hP L T g2 G gt B gB gr2 gs2 gc2 jB (h + 1) (d + 1) N1 A1 M1 E1 ∧ Kp gr gs gc g gr2 gs2 gc2 gB h M ∧ (gIA gr2 4 h = nI o ∧ gIA gr2 5 h = nI (ta G p) ∧ gIA gr2 6 h = x6 ∧ gIA gr2 7 h = x7)
theorem one_of {b : Int32} (h : b = 0 ∨ b = 1) : zB b = true := decide_eq_true h
theorem OutL.b {n hP L T : Nat} {g2 G gt : Gs} {B : Nat → Nat} {r : Nat} {g gr gs gc : Gs} {j h d N A M : Nat} {E : Nat → Nat × Nat × Nat} {b : Int32} {g' : Gs} (h : OutL n hP L T g2 G gt B r g gr gs gc j h d N A M E b g') : b = 0 ∨ b = 1 := by
  rcases h with h | h | h
  · exact .inr h.1
  · exact .inr h.1
  · exact .inl h.1
/-- closing what stands ahead of a part -/
theorem wrap_pre {n hP L T : Nat} {g2 G gt : Gs} {B : Nat → Nat} {o x jB : Nat} {x6 x7 a : Int32} {g gr gs gc gB gr2 gs2 gc2 gC : Gs} {j h d N A M j3 : Nat} {E : Nat → Nat × Nat × Nat} (hT : T ≤ 3001) (hO : Op n hP L T g2 G gt B o jB j x6 x7 g gr gs gc j h d N A M E gB gr2 gs2 gc2 (N + 1) A M E) (hp : Pd n hP L T g2 G gt B 7 gB gr2 gs2 gc2 jB (h + 1) (d + 1) (N + 1) A M E gC j3) (ho : isA o) (hpop : ∀ {gr gc : Gs} {N A : Nat} {E : Nat → Nat × Nat × Nat}, CS G gr gc hP (h + 1) (d + 1) N A E → 3 * A ≤ 5 * N → gIA gr 4 h = nI o → gIA gr 5 h = nI (ta G j) → gIA gr 6 h = x6 → Pop G hP h (d + 1) N A E gr gc d (upE E A (o, j, x))) (hre : ∀ {g : Gs} {A : Nat}, gIA g 14 (2000 + A) = nI (ro o) → gIA g 15 (2000 + A) = a → gIA g 17 (2000 + A) = nI (ta G j) → RE G g A (o, j, x)) (hb0 : 3 * A ≤ 5 * N) : ∃ v g3, gI gC 25 = nI (d + 1) ∧ Fr parA G gC ∧ f_X12_act (sI gC 25 (nI d)) (nI (ro o)) a (nI (ta G j)) = some (v, g3) ∧ Pd n hP L T g2 G gt B 7 g gr gs gc j h d N A M E g3 j3 := by
  obtain ⟨q1, ⟨cq, q2, q3⟩, q4, q5, q6, q7, q8, q9⟩ := hO
  obtain ⟨c, m, N', A', M', mm', E', gr0, gs0, gc0, gr1, gc1, p1, p2, p3, p4, p5, p6, p7, p8, p9, ⟨p10, p11, p12, p13, p14⟩, p15, p16, p17⟩ := hp
  obtain ⟨m1, m2, m3, m4, m5, m6, m7, m8, m9, m10⟩ := id p8
  have sh := (clo_shape (h := h + 1) (s := (sI gr0 10 1, gc0)) p5 p4).2
  have e4 : gIA gr0 4 = gIA gr1 4 := ((sh 4 (by decide)).2.2.2.1).symm
  obtain ⟨y1, y2, y3, y4⟩ := p9.2.1 h (by omega)
  obtain ⟨gr', gc', z1, z2, z3, z4⟩ := hpop m2 m9 (y1.trans q6) (y2.trans q7) (y3.trans q8)
  have mB : RfS G (sI gC 25 (nI d)) j3 d N' A' M' E' := m1.fr (X := [25]) (Fr.sI (by decide) _ _) (by decide) (by decide) m1.2.1 rfl m1.2.2.2.1
  obtain ⟨e14, e15, e17⟩ := actG_at (sI gC 25 (nI d)) A' (nI (ro o)) a (nI (ta G j))
  obtain ⟨b1, b2⟩ := mB.act (o := nI (ro o)) (a := a) (p := nI (ta G j)) (q := (o, j, x)) (by omega) (hre e14 e15 e17)
  have nk : ∀ X, Nk gC (actG (sI gC 25 (nI d)) A' (nI (ro o)) a (nI (ta G j))) 0 X := fun X => Nk.fr 0 X (X := [14, 15, 16, 17, 19, 25]) ((Fr.sI (by decide) _ _).trans ((actG_fr _ _ _ _ _).mono (by decide))) (by decide)
  have ho1 : o < 100 ∧ ¬ opN o := by unfold isA at ho; unfold opN; omega
  refine ⟨_, _, m1.2.2.1, m1.1, b1, cq + c, m + 1, N', A' + 1, M', mm' + 1, upE E' A' (o, j, x), gr0, gs0, gc0, gr', gc', Gos.add p1 q2, by omega, by omega, clo_add (clo_one z1) p4, by rw [p5, show h + 1 + m = h + (m + 1) by omega], by omega, fun i i1 i2 => ?_, ⟨b2, z2, ⟨m3.1.trans ((z3 16 (by decide)).1).symm, m3.2⟩, m4, m5, by omega, by omega, m8, by omega, m10⟩, q5.trans (p9.trans (h' := h + 1) (M' := M) ⟨z3.mono (by decide), fun i _ => z3.rows (by decide) i, Fr.refl _ _, FC.of z4 (by decide) (by decide), nk _⟩ (by omega) (by omega)) (by omega) (by omega), ⟨by omega, by omega, by omega, by omega, by omega⟩, fun i hi => by rw [upE_n (by omega)]; exact p15 i hi, ?_, .inr (.inl ⟨A', rfl, p17.ext (fun i _ i2 => by rw [upE_n (by omega)]), ?_⟩)⟩
  · by_cases hi : i = h
    · exact ⟨o, by rw [hi, e4]; exact y1.trans q6, ho1.1, .inl ho⟩
    · obtain ⟨u, o1, o2, o3⟩ := p7 i (by omega) (by omega)
      exact ⟨u, o1, o2, o3⟩
  · have n2 := p16.keep (g' := actG (sI gC 25 (nI d)) A' (nI (ro o)) a (nI (ta G j))) (E' := upE E' A' (o, j, x)) (nk M') (by omega) (by omega) (fun a _ a2 _ => by rw [upE_n (by omega)])
    have n3 : Nm G (actG (sI gC 25 (nI d)) A' (nI (ro o)) a (nI (ta G j))) (upE E' A' (o, j, x)) A' (A' + 1) M' M' j3 j3 := Nm.none (by rw [upE_s]; exact ho1.2)
    exact (n2.wide (k := j) (by omega) (Nat.le_refl _)).join n3 (by omega) (by omega) (by omega) (by omega) (by omega) (by omega)
  · rw [upE_s]; unfold isA at ho; show o = 64 ∨ o = 65 ∨ o = 54 ∨ o = 66 ∨ (19 ≤ o ∧ o ≤ 22); omega
/-- - and ! -/
theorem pre_open {n hP L T : Nat} {g2 G gt : Gs} {B : Nat → Nat} {o : Nat} {g gr gs gc : Gs} {j h d N A M : Nat} {E : Nat → Nat × Nat × Nat} (hS : ScR n g2 L B G T) (hm : MS n hP L T g2 G gt B g gr gs gc j h d N A M E) (hh : h + 1 ≤ 7 * d + 7) (hK : (kc (tk G j) = 50 ∧ o = 65) ∨ (kc (tk G j) = 54 ∧ o = 54)) : (d = 40 → Rf n hP L T g2 G gt B gr gs gc j (sI (sI g 21 1) 22 (nI (ta G j)))) ∧ (d < 40 → ∃ g1 gr2 gs2 gc2, f_X12_node (sI g 25 (nI (d + 1))) (nI j) = some g1 ∧ gI g1 20 = nI j ∧ j + 1 < T ∧ Op n hP L T g2 G gt B o (j + 1) j (-1) 0 g gr gs gc j h d N A M E (sI g1 20 (nI (j + 1))) gr2 gs2 gc2 (N + 1) A M E) := by
  obtain ⟨m1, m2, m3, m4, m5, m6, m7, m8, m9, m10⟩ := id hm
  have hT := hS.2.2.1
  have hT1 := tok_more hS m5 (by omega)
  have hL : L ≤ 3000 := m4.1.1
  have h4s : gI gs 4 = nI (kc (tk G j)) := m4.2.1
  have h5s : gI gs 5 = nI (ta G j) := m4.2.2.1
  have m1' : RfS G (sI g 25 (nI (d + 1))) j (d + 1) N A M E := m1.fr (X := [25]) (Fr.sI (by decide) _ _) (by decide) (by decide) m1.2.1 rfl m1.2.2.2.1
  have c1 : CS G (hld (sI gr 10 1) gs) gc hP h d N A E := m2.rd m2.1 m2.2.1 rfl rfl
  obtain ⟨g1, gr1, gc1, x1, x2, x3, x4, x5, x6, x7, x8, x9⟩ := node_both hS m1' c1 m3 hL m5 (by omega)
  have e12 : gI gr1 12 = nI (ta G j) := by rw [(x7 12 (by decide)).1]; exact h5s
  have en := enter7 (gr := gr1) (o := nI o) (p := gI gr1 12) (m := -1) (x := 0) x4.1 (by omega) x4.2.1 m6
  have rp : f_X5_readPart hP (sI gr 10 1) gs gc = bnd (f_X5_enter gr1 (nI o) (gI gr1 12) (-1) 0) (fun q2 => some (q2.1, q2.2, gc1)) := by
    rcases hK with ⟨z, rfl⟩ | ⟨z, rfl⟩
    · rw [part_pre50 (by rw [h4s, z]; rfl), h5s, bnd_s x2]; rfl
    · rw [part_pre54 (by rw [h4s, z]; rfl), h5s, bnd_s x2]; rfl
  have fr1 : Fr rdA gr gr1 := ((Fr.sI (by decide) _ _).trans ((hld_fr _ _).mono (by decide))).trans (x7.mono (by decide))
  have rows1 : ∀ i, gIA gr1 4 i = gIA gr 4 i ∧ gIA gr1 5 i = gIA gr 5 i ∧ gIA gr1 6 i = gIA gr 6 i ∧ gIA gr1 7 i = gIA gr 7 i := fun i => x7.rows (by decide) i
  constructor
  · intro h40
    rw [if_pos h40] at en
    have st : stp n hP gt g2 (gr, gs, gc, 2) = some (gr1, gs, gc1, 0) := stp_leave (by rw [if_neg (by decide), if_pos rfl, rp, bnd_s en]) (.inr (by decide))
    exact Rf.mk' m1.1 (Nat.le_refl _) m5 (Gos.one (show ¬ (2 : Int32) ≤ 1 by decide) st) (by omega) m4 fr1 (Fr.refl _ _) (x8.mono (by decide))
  · intro h40
    rw [if_neg (by omega)] at en
    obtain ⟨gs2, a1, a2, a3⟩ := m4.next hS hT1
    have f10 : gI gr1 10 = 1 := (x7 10 (by decide)).1
    have st : stp n hP gt g2 (gr, gs, gc, 2) = some (pushG (sI gr1 9 (nI (d + 1))) h (nI o) (gI gr1 12) (-1) 0, gs2, gc1, 2) := stp_take (by rw [if_neg (by decide), if_pos rfl, rp, bnd_s en]) f10 (by decide) a1
    refine ⟨g1, _, gs2, gc1, x1, x3.2.1, hT1, by omega, ⟨1, Gos.one (show ¬ (2 : Int32) ≤ 1 by decide) st, by omega⟩, ⟨x3.fr (X := [20]) (Fr.sI (by decide) _ _) (by decide) (by decide) rfl x3.2.2.1 x3.2.2.2.1, x4.rd rfl rfl rfl rfl, x5, a2, hT1, by omega, by omega, by omega, by omega, by omega⟩, ⟨(fr1.trans (Fr.sI (by decide) _ _)).trans ((pushG_fr _ _ _ _ _ _).mono (by decide)), fun i hi => ?_, a3, ⟨x8.mono (by decide), x9⟩, Nk.fr 0 M (X := [20, 23, 24, 25]) (((Fr.sI (by decide) _ _).trans (x6.mono (by decide))).trans (Fr.sI (by decide) _ _)) (by decide)⟩, pushG_rows.2.1, by rw [pushG_rows.2.2.1, e12], pushG_rows.2.2.2.1, pushG_rows.2.2.2.2⟩
    obtain ⟨y1, y2, y3, y4⟩ := (pushG_rows (gr := sI gr1 9 (nI (d + 1))) (h := h) (o := nI o) (p := gI gr1 12) (m := -1) (x := 0)).1 i hi
    obtain ⟨z1, z2, z3, z4⟩ := rows1 i
    exact ⟨y1.trans z1, y2.trans z2, y3.trans z3, y4.trans z4⟩
