/-! parsing: functions -/
theorem Kp.low {gr gs gc g gr' gs' gc' g' : Gs} {h M h' M' : Nat} (a : Kp gr gs gc g gr' gs' gc' g' h M) (hh : h' ≤ h) (hM : M' ≤ M) : Kp gr gs gc g gr' gs' gc' g' h' M' := ⟨a.1, fun i hi => a.2.1 i (by omega), a.2.2.1, a.2.2.2.1, fun i i1 i2 => a.2.2.2.2 i i1 (by omega)⟩
theorem Fits.round {o K : Nat} {x : Int32} (h : Fits o x K) (ho : 19 ≤ o ∧ o ≤ 25) (hx : 23 ≤ o → ¬ x = 0) : K = 46 := by
  rcases h with z | z | z | z | z
  · omega
  · exact z.2.2
  · rcases z.2.2 with y | y
    · exact absurd y.1 (hx z.1)
    · exact y.2
  · omega
  · omega
theorem Fits.comma {o K : Nat} {x : Int32} (h : Fits o x K) (ho : 23 ≤ o ∧ o ≤ 25) (hx : x = 0) : K = 42 := by
  rcases h with z | z | z | z | z
  · omega
  · omega
  · rcases z.2.2 with y | y
    · exact y.2
    · exact absurd hx y.1
  · omega
  · omega
theorem ro_fun {o : Nat} (h1 : 19 ≤ o) (h2 : o ≤ 25) : ro o = if o ≤ 22 then 10 else 11 := by
  have : ∀ x : Fin 26, 19 ≤ x.val → ro x.val = if x.val ≤ 22 then 10 else 11 := by decide
  exact this ⟨o, by omega⟩ h1
theorem part_word {hP o : Nat} {gr gs gc : Gs} (h4 : gI gs 4 = nI o) (h1 : 19 ≤ o) (h2 : o ≤ 25) : f_X5_readPart hP gr gs gc = bnd (f_X5_countNode hP (hld gr gs) gc (gI gs 5)) (fun q => some (5, q.1, q.2)) := by
  have ho : o = 19 ∨ o = 20 ∨ o = 21 ∨ o = 22 ∨ o = 23 ∨ o = 24 ∨ o = 25 := by omega
  rcases ho with rfl | rfl | rfl | rfl | rfl | rfl | rfl
  · exact part_word19 h4
  · exact part_word20 h4
  · exact part_word21 h4
  · exact part_word22 h4
  · exact part_word23 h4
  · exact part_word24 h4
  · exact part_word25 h4
theorem fun_open {n hP L T : Nat} {g2 G gt : Gs} {B : Nat → Nat} {g gr gs gc : Gs} {j h d N A M : Nat} {E : Nat → Nat × Nat × Nat} (hS : ScR n g2 L B G T) (hm : MS n hP L T g2 G gt B g gr gs gc j h d N A M E) (hh : h + 1 ≤ 7 * d + 7) (hK : 209 ≤ tk G j ∧ tk G j ≤ 215) : ∃ g1, f_X12_node g (nI j) = some g1 ∧ gI g1 20 = nI j ∧ Fr parA G g1 ∧ gI g1 25 = nI d ∧ j + 1 < T ∧ ((tk G (j + 1) ≠ 40 ∨ d = 40) → Rf n hP L T g2 G gt B gr gs gc j (sI (sI (sI g1 20 (nI (j + 1))) 21 1) 22 (nI (ta G (j + 1))))) ∧ (tk G (j + 1) = 40 → d < 40 → ∃ gr2 gs2 gc2, Op n hP L T g2 G gt B (kc (tk G j)) (j + 2) j (-1) 0 g gr gs gc j h d N A M E (sI (sI (sI g1 20 (nI (j + 1))) 25 (nI (d + 1))) 20 (nI (j + 2))) gr2 gs2 gc2 (N + 1) A M E) := by
  obtain ⟨m1, m2, m3, m4, m5, m6, m7, m8, m9, m10⟩ := id hm
  have hT := hS.2.2.1
  have hL : L ≤ 3000 := m4.1.1
  have k3 := (hS.tok m5).2.2.1
  have ko := (kcw k3).2.1.mp hK
  have hT1 := tok_more hS m5 (by omega)
  obtain ⟨gs1, a1, a2, a3⟩ := m4.next hS hT1
  have h4s : gI gs 4 = nI (kc (tk G j)) := m4.2.1
  have h5s : gI gs 5 = nI (ta G j) := m4.2.2.1
  obtain ⟨g1, gr1, gc1, x1, x2, x3, x4, x5, x6, x7, x8, x9⟩ := node_both (p := j) (gr := hld (sI gr 10 1) gs) hS m1 (m2.rd m2.1 m2.2.1 rfl rfl) m3 hL m5 (by omega)
  have f10 : gI gr1 10 = 1 := (x7 10 (by decide)).1
  have fr1 : Fr [9, 10, 11, 12, 13, 16] gr gr1 := ((Fr.sI (by decide) _ _).trans ((hld_fr _ _).mono (by decide))).trans (x7.mono (by decide))
  have st1 : stp n hP gt g2 (gr, gs, gc, 2) = some (gr1, gs1, gc1, 5) := stp_take (by rw [if_neg (by decide), if_pos rfl, part_word h4s ko.1 ko.2, h5s, bnd_s x2]) f10 (by decide) a1
  have G1 := Gos.one (show ¬ (2 : Int32) ≤ 1 by decide) st1
  have k31 := (hS.tok hT1).2.2.1
  have e11 : gI gr1 11 = nI (kc (tk G j)) := by rw [(x7 11 (by decide)).1]; exact h4s
  have e12 : gI gr1 12 = nI (ta G j) := by rw [(x7 12 (by decide)).1]; exact h5s
  have e45 : gI gs1 4 = 45 ↔ tk G (j + 1) = 40 := by
    rw [a2.2.1, ← (kcs k31).1]
    exact nIx (a := kc (tk G (j + 1))) (b := 45) (by have := kc_lt k31; omega) (by decide)
  refine ⟨g1, x1, x3.2.1, x3.1, x3.2.2.1, hT1, fun hx => ?_, fun h40 hd => ?_⟩
  · have rb : f_X5_readBehind hP (sI gr1 10 1) gs1 gc1 5 = some (0, sI gr1 10 1, gc1) := by
      by_cases h40 : tk G (j + 1) = 40
      · rw [behind_word (gr := sI gr1 10 1) (h := h) (e45.mpr h40) x4.1 (by omega) x4.2.1 m6, if_pos (by omega)]
      · exact behind_word_no (fun z => h40 (e45.mp z))
    have st2 : stp n hP gt g2 (gr1, gs1, gc1, 5) = some (sI gr1 10 1, gs1, gc1, 0) := stp_leave (by rw [if_neg (by decide), if_neg (by decide)]; exact rb) (.inr (by decide))
    exact Rf.mk' (x3.1.trans (Fr.sI (by decide) _ _)) (by omega) hT1 (Gos.add (Gos.one (show ¬ (5 : Int32) ≤ 1 by decide) st2) G1) (by omega) a2 ((fr1.mono (by decide)).trans (Fr.sI (by decide) _ _)) a3 (x8.mono (by decide))
  · have hT2 := tok_more hS hT1 (by rw [(kcs k31).1.mpr h40]; decide)
    obtain ⟨gs2, b1, b2, b3⟩ := a2.next hS hT2
    have rb := behind_word (hP := hP) (gr := sI gr1 10 1) (gc := gc1) (h := h) (e45.mpr h40) x4.1 (by omega) x4.2.1 m6
    have e11' : gI (sI gr1 10 1) 11 = nI (kc (tk G j)) := e11
    have e12' : gI (sI gr1 10 1) 12 = nI (ta G j) := e12
    rw [if_neg (by omega), e11', e12'] at rb
    have st2 : stp n hP gt g2 (gr1, gs1, gc1, 5) = some (pushG (sI (sI gr1 10 1) 9 (nI (d + 1))) h (nI (kc (tk G j))) (nI (ta G j)) (-1) 0, gs2, gc1, 2) := stp_take (by rw [if_neg (by decide), if_neg (by decide)]; exact rb) rfl (by decide) b1
    have fr2 : Fr [9, 10, 11, 12, 13, 16] gr (sI (sI gr1 10 1) 9 (nI (d + 1))) := (fr1.trans (Fr.sI (by decide) _ _)).trans (Fr.sI (by decide) _ _)
    refine ⟨_, gs2, gc1, by omega, ⟨2, Gos.add (Gos.one (show ¬ (5 : Int32) ≤ 1 by decide) st2) G1, by omega⟩, ⟨x3.fr (X := [20, 25]) (((Fr.sI (by decide) _ _).trans (Fr.sI (by decide) _ _)).trans (Fr.sI (by decide) _ _)) (by decide) (by decide) rfl rfl x3.2.2.2.1, x4.rd rfl rfl rfl rfl, x5, b2, hT2, by omega, by omega, by omega, by omega, by omega⟩, ⟨(fr2.mono (by decide)).trans ((pushG_fr _ _ _ _ _ _).mono (by decide)), fun i hi => ?_, a3.trans b3, ⟨x8.mono (by decide), x9⟩, Nk.fr 0 M (X := [20, 23, 24, 25]) (((x6.mono (by decide)).trans ((Fr.sI (by decide) _ _).trans (Fr.sI (by decide) _ _))).trans (Fr.sI (by decide) _ _)) (by decide)⟩, pushG_rows.2.1, pushG_rows.2.2.1, pushG_rows.2.2.2.1, pushG_rows.2.2.2.2⟩
    obtain ⟨y1, y2, y3, y4⟩ := (pushG_rows (gr := sI (sI gr1 10 1) 9 (nI (d + 1))) (h := h) (o := nI (kc (tk G j))) (p := nI (ta G j)) (m := -1) (x := 0)).1 i hi
    obtain ⟨z1, z2, z3, z4⟩ := fr2.rows (by decide) i
    exact ⟨y1.trans z1, y2.trans z2, y3.trans z3, y4.trans z4⟩
/-- the end of a function -/
theorem fun_489 {n L T : Nat} {g2 G : Gs} {B : Nat → Nat} {rc : RCT} {gC : Gs} {j jj A2 : Nat} (hS : ScR n g2 L B G T) (hj : j < T) (hK : 209 ≤ tk G j ∧ tk G j ≤ 215) (hf : Fr parA G gC) (h20 : gI gC 20 = nI jj) (hjj : jj < T) (h19 : gI gC 19 = nI (2000 + A2)) (hA : A2 < 6000) : b_X12_primary_489 n rc gC (nI j) (nI (tk G j)) = if tk G jj = 41 then some (1, sI (actG (sI gC 25 (gI gC 25 - 1)) A2 (nI (ro (kc (tk G j)))) (nI (tk G j)) (nI (ta G j))) 20 (nI (jj + 1))) else some (0, sI (sI (actG (sI gC 25 (gI gC 25 - 1)) A2 (nI (ro (kc (tk G j)))) (nI (tk G j)) (nI (ta G j))) 21 1) 22 (nI (ta G jj))) := by
  have hT := hS.2.2.1
  have k3 := (hS.tok hj).2.2.1
  have ko := (kcw k3).2.1.mp hK
  have ke := (kcw k3).2.2 (by omega) (by omega)
  have e489 : b_X12_primary_489 n rc gC (nI j) (nI (tk G j)) = b_X12_primary_514 n rc (sI gC 25 (gI gC 25 - 1)) (nI j) (nI (tk G j)) (nI (ro (kc (tk G j)))) := by
    unfold b_X12_primary_489
    rw [ro_fun ko.1 ko.2]
    by_cases z : kc (tk G j) ≤ 22
    · rw [if_pos (show nI (tk G j) < (213 : Int32) from nI_lt (b := 213) (by omega) (by decide)), if_pos z]; rfl
    · rw [if_neg (show ¬ nI (tk G j) < (213 : Int32) from nI_nlt (b := 213) (by omega) (by omega)), if_neg z]; rfl
  obtain ⟨y1, y2⟩ := go_act hS hj (hf.trans (Fr.sI (k := 25) (by decide) gC (gI gC 25 - 1)))
  have nd := need12 (g := actG (sI gC 25 (gI gC 25 - 1)) A2 (nI (ro (kc (tk G j)))) (nI (tk G j)) (nI (ta G j))) (K := 41) hS ((hf.trans (Fr.sI (by decide) _ _)).trans ((actG_fr _ _ _ _ _).mono (by decide))) (show _ = nI jj from h20) hjj (by decide)
  rw [e489]
  unfold b_X12_primary_514
  rw [grd_t (inB_nI (by omega) (by decide)), nI_clamp (by omega), y2, bnd_s (act12 (A := A2) (show gI (sI gC 25 (gI gC 25 - 1)) 19 = nI (2000 + A2) from h19) hA)]
  show bnd (f_X12_need _ (nI 41)) _ = _
  rw [nd]
  by_cases z : tk G jj = 41
  · rw [if_pos z]; rfl
  · rw [if_neg z]; rfl
theorem fun_end {n hP L T : Nat} {g2 G gt : Gs} {B : Nat → Nat} {rc : RCT} {o jB : Nat} {x6 x7 : Int32} {g gr gs gc gB gr2 gs2 gc2 gC : Gs} {j h d N A M N1 A1 M1 : Nat} {E E1 : Nat → Nat × Nat × Nat} {b : Int32} (hS : ScR n g2 L B G T) (hn : 20000 ≤ n) (hO : Op n hP L T g2 G gt B o jB j x6 x7 g gr gs gc j h d N A M E gB gr2 gs2 gc2 N1 A1 M1 E1) (hI : Inn n hP L T g2 G gt B o jB x7 gr gs gc j h d gB gr2 gs2 gc2 N1 A1 M1 E1 b gC) (hb1 : b = 1) (hj : j < T) (hK : 209 ≤ tk G j ∧ tk G j ≤ 215) (hko : kc (tk G j) = o) (hx : 23 ≤ o → ¬ x7 = 0) (hh : h + 1 ≤ 7 * d + 7) (hd : d < 40) (hb0 : 3 * A ≤ 5 * N) (hb : 3 * A1 + 5 * N + 5 ≤ 5 * N1 + 3 * A ∧ N1 + j ≤ N + jB ∧ M1 + j ≤ M + jB ∧ A ≤ A1 ∧ M ≤ M1) (hE1 : ∀ i, i < A → E1 i = E i) (hN1 : Nm G gB E1 A A1 M M1 j jB) (hEg : (A1 = A ∧ o ≤ 22) ∨ (23 ≤ o ∧ ∃ m1, Eg E1 m1 A A1)) : ∃ b' g', b_X12_primary_489 n rc gC (nI j) (nI (tk G j)) = some (b', g') ∧ OutL n hP L T g2 G gt B 7 g gr gs gc j h d N A M E b' g' := by
  have hT := hS.2.2.1
  have k3 := (hS.tok hj).2.2.1
  have ko := (kcw k3).2.1.mp hK
  have ho : o = 45 ∨ (19 ≤ o ∧ o ≤ 25) ∨ o = 64 ∨ o = 44 := by omega
  obtain ⟨mx, hmx⟩ : ∃ m1, (A1 = A ∧ o ≤ 22) ∨ (23 ≤ o ∧ Eg E1 m1 A A1) := by
    rcases hEg with z | ⟨z, m1, z1⟩
    · exact ⟨0, .inl z⟩
    · exact ⟨m1, .inr ⟨z, z1⟩⟩
  rcases hI with ⟨_, j3, o1, o2, o3⟩ | ⟨_, j', A', a1, a2, a3, a4, a5, a6, a7⟩ | ⟨z, _⟩
  · obtain ⟨q1, ⟨cq, q2, q3⟩, q4, q5, q6, q7, q8, q9⟩ := hO
    obtain ⟨c, N', A', M', mm, E', gr0, gs0, gc0, gr1, gc1, p1, p2, p3, p8, p9, p10, p15, p16, p17, ⟨t4, t5, t6, t7⟩, f10, s1, s2, s3, s4⟩ := pd_close hS hn o1 o2 q6 ho
    obtain ⟨r1, r2, r3, r4, r5, r6, r7, r8, r9, r10⟩ := id p8
    have e := fun_489 (rc := rc) hS hj hK r1.1 r1.2.1 r5 r1.2.2.2.2.1 (by omega)
    rw [r1.2.2.1, nI_pred d] at e
    rw [e, hko]
    by_cases h41 : tk G j3 = 41
    · rw [if_pos h41]
      have k46 := (kcs (hS.tok r5).2.2.1).2.1.mpr h41
      have hT3 := tok_more hS r5 (by omega)
      obtain ⟨gs3, b1, b2, b3⟩ := r4.next hS hT3
      have oT : opT o := by unfold opT; omega
      have o1' : o < 100 ∧ o ≠ 3 ∧ o ≠ 66 ∧ ¬ opN o ∧ ¬ opJ o ∧ o ≠ 44 := by unfold opN opJ; omega
      obtain ⟨v, gc', w1, w2, w3, w4⟩ := add_both (K := o) (p := j) (x := 0) r2 r9 o1'.2.1 o1'.2.2.1 o1'.2.2.2.1 (fun z => absurd z o1'.2.2.2.2.1) o1'.2.2.2.2.2
      have rf := round_fun (gr := gr1) (gc := gc1) (hP := hP) (h := h) (d := d) (o := o) r2.2.2.1 r2.1 (by omega) r2.2.1 (by omega) (by omega) (fun z => by rw [t7, q9]; exact hx z) (by rw [t5, q7]; exact w1)
      have st : stp n hP gt g2 (gr0, gs0, gc0, 3) = some (sI (sI gr1 8 (nI h)) 9 (nI d), gs3, gc', 3) := stp_take (by rw [if_pos rfl, s3 k46, bnd_s rf]) f10 (by decide) b1
      have mB : RfS G (sI gC 25 (nI d)) j3 d N' A' M' E' := r1.fr (X := [25]) (Fr.sI (by decide) _ _) (by decide) (by decide) r1.2.1 rfl r1.2.2.2.1
      obtain ⟨e14, e15, e17⟩ := actG_at (sI gC 25 (nI d)) A' (nI (ro o)) (nI (tk G j)) (nI (ta G j))
      obtain ⟨d1, d2⟩ := mB.act (o := nI (ro o)) (a := nI (tk G j)) (p := nI (ta G j)) (q := (o, j, 0)) (by omega) (re_T oT hko k3 e14 e15 e17)
      have nk : ∀ X, Nk gC (sI (actG (sI gC 25 (nI d)) A' (nI (ro o)) (nI (tk G j)) (nI (ta G j))) 20 (nI (j3 + 1))) 0 X := fun X => Nk.fr 0 X (X := [14, 15, 16, 17, 19, 20, 25]) (((Fr.sI (by decide) _ _).trans ((actG_fr _ _ _ _ _).mono (by decide))).trans (Fr.sI (by decide) _ _)) (by decide)
      refine ⟨1, _, rfl, .inl ⟨rfl, j3 + 1, ?_, TC7 _⟩⟩
      refine Pd.leaf (N' := N') (A' := A' + 1) (M' := M') (mm := mm + (mx) + 1) (E' := upE E' A' (o, j, 0)) (Gos.add (Gos.one (show ¬ (3 : Int32) ≤ 1 by decide) st) (Gos.add p1 q2)) (by omega) (by omega) ⟨d2.fr (X := [20]) (Fr.sI (by decide) _ _) (by decide) (by decide) rfl d2.2.2.1 d2.2.2.2.1, w3.rd rfl rfl rfl rfl, r3, b2, hT3, by omega, by omega, by omega, by omega, by omega⟩ ?_ ⟨by omega, by omega, by omega, by omega, by omega⟩ (fun i hi => by rw [upE_n (by omega), p15 i (by omega)]; exact hE1 i hi) ?_ ?_
      · exact q5.trans ((p9.low (h' := h) (M' := M) (by omega) (by omega)).trans (h' := h) (M' := M) ⟨(Fr.sI (by decide) _ _).trans (Fr.sI (by decide) _ _), fun i _ => ⟨rfl, rfl, rfl, rfl⟩, b3, FC.of w4 (by decide) (by decide), nk M⟩ (by omega) (by omega)) (by omega) (by omega)
      · have n1 := hN1.keep (g' := sI (actG (sI gC 25 (nI d)) A' (nI (ro o)) (nI (tk G j)) (nI (ta G j))) 20 (nI (j3 + 1))) (E' := upE E' A' (o, j, 0)) (p9.2.2.2.2.trans (nk M1) (by omega) (by omega)) (by omega) (by omega) (fun a _ a2 _ => by rw [upE_n (by omega), p15 a (by omega)])
        have n2 := p16.keep (g' := sI (actG (sI gC 25 (nI d)) A' (nI (ro o)) (nI (tk G j)) (nI (ta G j))) 20 (nI (j3 + 1))) (E' := upE E' A' (o, j, 0)) (nk M') (by omega) (by omega) (fun a _ a2 _ => by rw [upE_n (by omega)])
        have n3 : Nm G (sI (actG (sI gC 25 (nI d)) A' (nI (ro o)) (nI (tk G j)) (nI (ta G j))) 20 (nI (j3 + 1))) (upE E' A' (o, j, 0)) A' (A' + 1) M' M' j3 (j3 + 1) := (Nm.none (by rw [upE_s]; exact o1'.2.2.2.1)).wide (Nat.le_refl _) (by omega)
        exact (n1.join n2 (by omega) (by omega) (by omega) (by omega) (by omega) (by omega)).join n3 (by omega) (by omega) (by omega) (by omega) (by omega) (by omega)
      · have e1 : ∀ {m'}, mm ≤ m' → Eg (upE E' A' (o, j, 0)) m' A1 A' := fun hm => (p17.ext (fun i _ i2 => by rw [upE_n (by omega)])).mono hm
        rcases hmx with ⟨z1, z2⟩ | ⟨z1, z2⟩
        · refine .inr (.inl ⟨A', rfl, ?_, ?_⟩)
          · have := e1 (m' := mm + mx) (by omega); rwa [z1] at this
          · rw [upE_s]; show o = 64 ∨ o = 65 ∨ o = 54 ∨ o = 66 ∨ (19 ≤ o ∧ o ≤ 22); omega
        · refine .inr (.inr (.inl ⟨A1, A', rfl, ?_, e1 (by omega), ?_⟩))
          · exact (z2.ext (fun i _ i2 => by rw [upE_n (by omega), p15 i (by omega)])).mono (by omega)
          · rw [upE_s]; exact ⟨oT, by show ¬ o ≤ 22; omega⟩
    · rw [if_neg h41]
      refine ⟨0, _, rfl, .inr (.inr ⟨rfl, Rf.of ((r1.1.trans (Fr.sI (by decide) _ _)).trans ((actG_fr _ _ _ _ _).mono (by decide))) (o3 (fun z => h41 ?_))⟩)⟩
      exact (kcs (hS.tok r5).2.2.1).2.1.mp (z.round (by omega) hx)
  · have e := fun_489 (rc := rc) hS hj hK a5 a1 a4 a2 (by omega)
    rw [if_neg a6.1] at e
    exact ⟨0, _, e, .inr (.inr ⟨rfl, Rf.of ((a5.trans (Fr.sI (by decide) _ _)).trans ((actG_fr _ _ _ _ _).mono (by decide))) a7⟩)⟩
  · rw [hb1] at z; exact absurd z (by decide)
def funX (n : Nat) (rc : RCT) (F : Gs → Option (Int32 × Gs)) (gT : Gs) (v1 v2 : Int32) : Option (Int32 × Gs) := bnd (f_X12_node gT v1) (fun q_18 => grd (inB ((gI q_18 20) + (1 : Int32)) 3001) (if (gIA q_18 9 ((gI q_18 20) + (1 : Int32)).toNatClampNeg) = (40 : Int32) then (bnd (f_X12_deeper (sI q_18 20 ((gI q_18 20) + (1 : Int32)))) (fun q_21 => if q_21.1 = 0 then (some ((0 : Int32), q_21.2)) else (bnd (F (sI q_21.2 20 ((gI q_21.2 20) + (1 : Int32)))) (fun q_23 => if q_23.1 = 0 then (some ((0 : Int32), q_23.2)) else (if v2 < (213 : Int32) then (b_X12_primary_489 n rc q_23.2 v1 v2) else (bnd (f_X12_need q_23.2 (44 : Int32)) (fun q_31 => if q_31.1 = 0 then (some ((0 : Int32), q_31.2)) else (bnd (F q_31.2) (fun q_33 => if q_33.1 = 0 then (some ((0 : Int32), q_33.2)) else (b_X12_primary_489 n rc q_33.2 v1 v2)))))))))) else (bnd (f_X12_cannot (sI q_18 20 ((gI q_18 20) + (1 : Int32)))) (fun q_35 => grd (zB q_35.1) (some (q_35.1, q_35.2))))))
theorem Inn.b {n hP L T : Nat} {g2 G gt : Gs} {B : Nat → Nat} {o jB : Nat} {x7 : Int32} {gr gs gc gB gr2 gs2 gc2 gC : Gs} {j h d N1 A1 M1 : Nat} {E1 : Nat → Nat × Nat × Nat} {b : Int32} (h : Inn n hP L T g2 G gt B o jB x7 gr gs gc j h d gB gr2 gs2 gc2 N1 A1 M1 E1 b gC) : b = 1 ∨ (b = 0 ∧ Rf n hP L T g2 G gt B gr gs gc j gC) := by
  rcases h with h | h | h
  · exact .inl h.1
  · exact .inl h.1
  · exact .inr h
theorem lv_fun {n hP L T : Nat} {g2 G gt : Gs} {B : Nat → Nat} {D : Nat} {rc : RCT} {F : Gs → Option (Int32 × Gs)} {g gr gs gc : Gs} {j h d N A M : Nat} {E : Nat → Nat × Nat × Nat} (hS : ScR n g2 L B G T) (hn : 20000 ≤ n) (hF : LV n hP L T g2 G gt B 0 10 D F) (hm : MS n hP L T g2 G gt B g gr gs gc j h d N A M E) (hh : h + 1 ≤ 7 * d + 7) (hD : 10 * (40 - d) ≤ D) (hK : 209 ≤ tk G j ∧ tk G j ≤ 215) : ∃ b g', funX n rc F g (nI j) (nI (tk G j)) = some (b, g') ∧ OutL n hP L T g2 G gt B 7 g gr gs gc j h d N A M E b g' := by
  obtain ⟨m1, m2, m3, m4, m5, m6, m7, m8, m9, m10⟩ := id hm
  have hT := hS.2.2.1
  have k3 := (hS.tok m5).2.2.1
  have ko := (kcw k3).2.1.mp hK
  have ke := (kcw k3).2.2 (by omega) (by omega)
  obtain ⟨g1, x1, x2, x3, x4, hT1, y1, y2⟩ := fun_open hS hm hh hK
  have e9 : gIA g1 9 (j + 1) = nI (tk G (j + 1)) := by rw [(x3 9 (by decide)).2.2.2.1, (hS.tok hT1).1]
  have kl := (hS.tok hT1).2.2.2.1
  unfold funX
  rw [bnd_s x1, x2, nI_1, grd_t (inB_nI (by omega) (by decide)), nI_clamp (by omega), e9]
  by_cases h40 : tk G (j + 1) = 40
  · rw [ifP (c := 40) (b := 40) rfl h40]
    have dp := deeper12 (g := sI g1 20 (nI (j + 1))) (j := j + 1) (d := d) hS (x3.trans (Fr.sI (by decide) _ _)) rfl hT1 (show gI g1 25 = nI d from x4) m6
    by_cases hd : d = 40
    · rw [if_pos hd] at dp
      rw [bnd_s dp]
      exact ⟨0, _, rfl, .inr (.inr ⟨rfl, y1 (.inr hd)⟩)⟩
    · rw [if_neg hd] at dp
      obtain ⟨gr2, gs2, gc2, hO⟩ := y2 h40 (by omega)
      obtain ⟨b, gC, f1, f2⟩ := inner hS hn hO (.inr (.inl ko)) hF hh (by omega) hD
      rw [bnd_s dp]
      show ∃ b g', bnd (F (sI (sI (sI g1 20 (nI (j + 1))) 25 (nI (d + 1))) 20 (nI (j + 1) + 1))) _ = some (b, g') ∧ _
      rw [nI_1, bnd_s f1]
      rcases f2.b with hb1 | ⟨hb0, hr⟩
      · rw [if_neg (show ¬ b = 0 by rw [hb1]; decide)]
        by_cases h213 : tk G j < 213
        · rw [if_pos (show nI (tk G j) < (213 : Int32) from nI_lt (b := 213) h213 (by decide))]
          refine fun_end hS hn hO f2 hb1 m5 hK rfl (fun z => by omega) hh (by omega) m9 ⟨by omega, by omega, by omega, by omega, by omega⟩ (fun _ _ => rfl) ?_ (.inl ⟨rfl, by omega⟩)
          exact ⟨fun i i1 i2 => by omega, fun i i' i1 i2 i3 => by omega, fun a a1 a2 => by omega⟩
        · rw [if_neg (show ¬ nI (tk G j) < (213 : Int32) from nI_nlt (b := 213) (by omega) (by omega))]
          rcases f2 with ⟨_, j3, o1, o2, o3⟩ | ⟨_, j', A', a1, a2, a3, a4, a5, a6, a7⟩ | ⟨z, _⟩
          · obtain ⟨q1, ⟨cq, q2, q3⟩, q4, q5, q6, q7, q8, q9⟩ := hO
            obtain ⟨c, N', A', M', mm, E', gr0, gs0, gc0, gr1, gc1, p1, p2, p3, p8, p9, p10, p15, p16, p17, ⟨t4, t5, t6, t7⟩, f10, s1, s2, s3, s4⟩ := pd_close hS hn o1 o2 q6 (.inr (.inl ko))
            obtain ⟨r1, r2, r3, r4, r5, r6, r7, r8, r9, r10⟩ := id p8
            have nd := need12 (K := 44) hS r1.1 r1.2.1 r5 (by decide)
            by_cases h44 : tk G j3 = 44
            · rw [if_pos h44] at nd
              have k42 : kc (tk G j3) = 42 := (kcs (hS.tok r5).2.2.1).2.2.2.2.2.2.2.2.2.2.2.2.2.2.1.mpr h44
              have hT3 := tok_more hS r5 (by omega)
              obtain ⟨gs3, b1, b2, b3⟩ := r4.next hS hT3
              have cm := comma7 (gr := gr1) (h := h) (o := kc (tk G j)) r2.1 (by omega) (by omega)
              rw [if_pos ⟨by omega, by rw [t7, q9]⟩] at cm
              have st : stp n hP gt g2 (gr0, gs0, gc0, 3) = some (sIA gr1 7 (upd (gIA gr1 7) h 1), gs3, gc1, 2) := stp_take (by rw [if_pos rfl, s2 k42, bnd_s cm]) f10 (by decide) b1
              have hO2 : Op n hP L T g2 G gt B (kc (tk G j)) (j3 + 1) j (-1) 1 g gr gs gc j h d N A M E (sI gC 20 (nI (j3 + 1))) (sIA gr1 7 (upd (gIA gr1 7) h 1)) gs3 gc1 N' A' M' E' := by
                refine ⟨by omega, ⟨_, Gos.add (Gos.one (show ¬ (3 : Int32) ≤ 1 by decide) st) (Gos.add p1 q2), by omega⟩, ⟨r1.fr (X := [20]) (Fr.sI (by decide) _ _) (by decide) (by decide) rfl r1.2.2.1 r1.2.2.2.1, r2.rd r2.1 r2.2.1 rfl rfl, r3, b2, hT3, by omega, by omega, by omega, by omega, by omega⟩, q5.trans ((p9.low (h' := h) (M' := M) (by omega) (by omega)).trans (h' := h) (M' := M) ⟨Fr.sIA (by decide) _ _, fun i hi => ⟨rfl, rfl, rfl, ?_⟩, b3, ⟨Fr.refl _ _, id⟩, Nk.fr 0 M (X := [20]) (Fr.sI (by decide) _ _) (by decide)⟩ (by omega) (by omega)) (by omega) (by omega), t4, t5.trans q7, t6.trans q8, ?_⟩
                · show upd _ h _ i = _; rw [pk_un (by omega)]
                · show upd _ h _ h = _; rw [pk_us]
              obtain ⟨b', gD, f3, f4⟩ := inner hS hn hO2 (.inr (.inl ko)) hF hh (by omega) hD
              rw [bnd_s (show f_X12_need gC 44 = some (1, sI gC 20 (nI (j3 + 1))) from nd)]
              show ∃ b g', bnd (F (sI gC 20 (nI (j3 + 1)))) _ = some (b, g') ∧ _
              rw [bnd_s f3]
              rcases f4.b with hb2 | ⟨hb0, hr⟩
              · rw [if_neg (show ¬ b' = 0 by rw [hb2]; decide)]
                refine fun_end hS hn hO2 f4 hb2 m5 hK rfl (fun _ => by decide) hh (by omega) m9 ⟨by omega, by omega, by omega, by omega, by omega⟩ p15 ?_ (.inr ⟨by omega, mm, p17⟩)
                exact (p16.wide (k := j) (k' := j3 + 1) (by omega) (by omega)).keep (K := 0) (K' := M') (Nk.fr 0 M' (X := [20]) (Fr.sI (by decide) _ _) (by decide)) (by omega) (by omega) (fun _ _ _ _ => rfl)
              · rw [if_pos hb0]
                exact ⟨0, gD, rfl, .inr (.inr ⟨rfl, hr⟩)⟩
            · rw [if_neg h44] at nd
              refine ⟨0, sI (sI gC 21 1) 22 (nI (ta G j3)), ?_, .inr (.inr ⟨rfl, Rf.of r1.1 (o3 (fun z => h44 ?_))⟩)⟩
              · rw [bnd_s (show f_X12_need gC 44 = some (0, sI (sI gC 21 1) 22 (nI (ta G j3))) from nd)]; rfl
              · exact (kcs (hS.tok r5).2.2.1).2.2.2.2.2.2.2.2.2.2.2.2.2.2.1.mp (z.comma (by omega) rfl)
          · have nd := need12 (K := 44) hS a5 a1 a4 (by decide)
            rw [if_neg a6.2.2.1] at nd
            refine ⟨0, sI (sI gC 21 1) 22 (nI (ta G j')), ?_, .inr (.inr ⟨rfl, Rf.of a5 a7⟩)⟩
            rw [bnd_s (show f_X12_need gC 44 = some (0, sI (sI gC 21 1) 22 (nI (ta G j'))) from nd)]; rfl
          · rw [hb1] at z; exact absurd z (by decide)
      · rw [if_pos hb0]
        exact ⟨0, gC, rfl, .inr (.inr ⟨rfl, hr⟩)⟩
  · rw [ifN (c := 40) (b := 40) rfl kl (by decide) h40, bnd_s (cannot12 (g := sI g1 20 (nI (j + 1))) (j := j + 1) hS (x3.trans (Fr.sI (by decide) _ _)) rfl hT1)]
    exact ⟨0, _, rfl, .inr (.inr ⟨rfl, y1 (.inl h40)⟩)⟩
