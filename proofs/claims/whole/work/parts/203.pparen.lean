/-! parsing: what a bracket holds -/
theorem TC7 (k : Nat) : TC 7 k := by unfold TC; rw [if_neg (by decide)]; have := rk_le k; omega
def Inn (n hP L T : Nat) (g2 G gt : Gs) (B : Nat → Nat) (o jB : Nat) (x7 : Int32) (gr gs gc : Gs) (j h d : Nat) (gB gr2 gs2 gc2 : Gs) (N1 A1 M1 : Nat) (E1 : Nat → Nat × Nat × Nat) (b : Int32) (gC : Gs) : Prop := (b = 1 ∧ ∃ j3, Pd n hP L T g2 G gt B 0 gB gr2 gs2 gc2 jB (h + 1) (d + 1) N1 A1 M1 E1 gC j3 ∧ TC 0 (kc (tk G j3)) ∧ (¬ Fits o x7 (kc (tk G j3)) → Rfd n hP L T g2 G gt B gr gs gc j j3)) ∨ (b = 1 ∧ ∃ j' A', gI gC 20 = nI j' ∧ gI gC 19 = nI (2000 + A') ∧ A' < 5900 ∧ j' < T ∧ Fr parA G gC ∧ (tk G j' ≠ 41 ∧ tk G j' ≠ 93 ∧ tk G j' ≠ 44 ∧ tk G j' ≠ 58) ∧ Rfd n hP L T g2 G gt B gr gs gc j j') ∨ (b = 0 ∧ Rf n hP L T g2 G gt B gr gs gc j gC)
theorem inner {n hP L T : Nat} {g2 G gt : Gs} {B : Nat → Nat} {o jB p D : Nat} {x6 x7 : Int32} {F : Gs → Option (Int32 × Gs)} {g gr gs gc gB gr2 gs2 gc2 : Gs} {j h d N A M N1 A1 M1 : Nat} {E E1 : Nat → Nat × Nat × Nat} (hS : ScR n g2 L B G T) (hn : 20000 ≤ n) (hO : Op n hP L T g2 G gt B o jB p x6 x7 g gr gs gc j h d N A M E gB gr2 gs2 gc2 N1 A1 M1 E1) (ho : o = 45 ∨ (19 ≤ o ∧ o ≤ 25) ∨ o = 64 ∨ o = 44) (hF : LV n hP L T g2 G gt B 0 10 D F) (hh : h + 1 ≤ 7 * d + 7) (hd : d < 40) (hD : 10 * (40 - d) ≤ D) : ∃ b gC, F gB = some (b, gC) ∧ Inn n hP L T g2 G gt B o jB x7 gr gs gc j h d gB gr2 gs2 gc2 N1 A1 M1 E1 b gC := by
  have hT := hS.2.2.1
  obtain ⟨q1, ⟨cq, q2, q3⟩, q4, q5, q6, q7, q8, q9⟩ := hO
  obtain ⟨b1, b2, b3⟩ := br_open (e := true) ho
  have bl : Bl gr2 (h + 1) 0 := fun _ => ⟨o, q6, b2, .inr ⟨by omega, by unfold isA; omega⟩⟩
  have bd := q4.bd
  obtain ⟨b, gC, f1, f2⟩ := hF gB gr2 gs2 gc2 jB (h + 1) (d + 1) N1 A1 M1 E1 q4 bl (by omega) (by omega)
  refine ⟨b, gC, f1, ?_⟩
  rcases f2 with ⟨rfl, j3, o1, o2⟩ | ⟨rfl, o1, o2⟩ | ⟨rfl, j', o1, o2, o3, o4⟩
  · exact .inl ⟨rfl, j3, o1, o2, fun z => (end_refuse hS hn o1 o2 q6 ho (by rw [q9]; exact z)).after q2 (by omega) (by omega) q5⟩
  · obtain ⟨j', N', A', a1, a2, a3, a4, a5, a6⟩ := o2
    have lt := a6.2.1
    refine .inr (.inl ⟨rfl, j', A', a1, a2, by omega, lt, a3, ⟨?_, ?_, ?_, ?_⟩, a6.after q2 (by omega) (by omega) q5⟩)
    · intro z; rw [z] at a5; revert a5; decide
    · intro z; rw [z] at a5; revert a5; decide
    · intro z; rw [z] at a5; revert a5; decide
    · intro z; rw [z] at a5; revert a5; decide
  · exact .inr (.inr ⟨rfl, j', o1, o2, o3, o4.after q2 (by omega) (by omega) q5⟩)
theorem Fits.k {o K : Nat} {x : Int32} (h : Fits o x K) : K = 46 ∨ K = 42 ∨ K = 48 ∨ K = 40 := by
  unfold Fits at h; omega
/-- all that a bracket holds is written, the class looks at its end -/
theorem pd_close {n hP L T : Nat} {g2 G gt : Gs} {B : Nat → Nat} {gB gr2 gs2 gc2 gC : Gs} {jB h d N1 A1 M1 j3 o : Nat} {E1 : Nat → Nat × Nat × Nat} (hS : ScR n g2 L B G T) (hn : 20000 ≤ n) (hp : Pd n hP L T g2 G gt B 0 gB gr2 gs2 gc2 jB (h + 1) (d + 1) N1 A1 M1 E1 gC j3) (ht : TC 0 (kc (tk G j3))) (h4 : gIA gr2 4 h = nI o) (ho : o = 45 ∨ (19 ≤ o ∧ o ≤ 25) ∨ o = 64 ∨ o = 44) : ∃ c N' A' M' mm E' gr0 gs0 gc0 gr1 gc1, Gos n hP gt g2 c (gr2, gs2, gc2, 2) (gr0, gs0, gc0, 3) ∧ c ≤ 2 * (j3 - jB) ∧ jB < j3 ∧ MS n hP L T g2 G gt B gC gr1 gs0 gc1 j3 (h + 1) (d + 1) N' A' M' E' ∧ Kp gr2 gs2 gc2 gB gr1 gs0 gc1 gC (h + 1) M1 ∧ (3 * A' + 5 * N1 + 2 ≤ 5 * N' + 3 * A1 ∧ N' + jB ≤ N1 + j3 ∧ M' + jB ≤ M1 + j3 ∧ A1 ≤ A' ∧ M1 ≤ M') ∧ (∀ i, i < A1 → E' i = E1 i) ∧ Nm G gC E' A1 A' M1 M' jB j3 ∧ Eg E' mm A1 A' ∧ (gIA gr1 4 h = nI o ∧ gIA gr1 5 h = gIA gr2 5 h ∧ gIA gr1 6 h = gIA gr2 6 h ∧ gIA gr1 7 h = gIA gr2 7 h) ∧ gI gr1 10 = 1 ∧ (kc (tk G j3) = 40 → f_X5_readSign n hP (sI gr0 10 1) gs0 gc0 = if o = 44 then bnd (f_X5_readElse hP gr1 gc1) (fun q => some (q.1, q.2.1, q.2.2)) else some (0, gr1, gc1)) ∧ (kc (tk G j3) = 42 → f_X5_readSign n hP (sI gr0 10 1) gs0 gc0 = bnd (f_X5_readComma gr1 (nI o)) (fun q => some (q.1, q.2, gc1))) ∧ (kc (tk G j3) = 46 → f_X5_readSign n hP (sI gr0 10 1) gs0 gc0 = bnd (f_X5_closeRound hP gr1 gc1 (nI o)) (fun q => some (q.1, q.2.1, q.2.2))) ∧ (kc (tk G j3) = 48 → f_X5_readSign n hP (sI gr0 10 1) gs0 gc0 = bnd (f_X5_closeSquare hP gr1 gc1 (nI o)) (fun q => some (q.1, q.2.1, q.2.2))) := by
  obtain ⟨t1, t2⟩ := TC0 ht
  obtain ⟨b1, b2, b3⟩ := br_open (e := true) ho
  obtain ⟨c, m, N', A', M', mm', E', gr0, gs0, gc0, gr1, gc1, p1, p2, p3, p4, p5, p6, p7, p8, p9, p10, p15, p16, p17⟩ := hp
  obtain ⟨m1, m2, m3, m4, m5, m6, m7, m8, m9, m10⟩ := id p8
  have hK3 := kc_lt (hS.tok m5).2.2.1
  obtain ⟨r4, r5, r6, r7⟩ := p9.2.1 h (by omega)
  have t4 : gIA gr1 4 h = nI o := r4.trans h4
  have cl := pend_close (r := 0) (ρ := 0) (e := true) hn (by omega) p4 p5 p6 p7 (fun o _ => PF_cl0) (fun _ => ⟨o, t4, b2, b1⟩)
  obtain ⟨s1, s2, s3, s4, s5⟩ := sg_all cl m2.1 (by omega) t4 b2 m4.2.1 hK3 t1 t2
  have f10 : gI gr1 10 = 1 := by
    have sh := (clo_shape (h := h + 1) (s := (sI gr0 10 1, gc0)) p5 p4).2
    rw [(sh 10 (by decide)).1]; rfl
  exact ⟨c, N', A', M', mm', E', gr0, gs0, gc0, gr1, gc1, p1, p2, p3, p8, p9, p10, p15, p16, p17, ⟨t4, r5, r6, r7⟩, f10, s1, s2, s3, s4⟩
/-- ( E ) -/
theorem lv_paren {n hP L T : Nat} {g2 G gt : Gs} {B : Nat → Nat} {D : Nat} {F : Gs → Option (Int32 × Gs)} {g gr gs gc : Gs} {j h d N A M : Nat} {E : Nat → Nat × Nat × Nat} (hS : ScR n g2 L B G T) (hn : 20000 ≤ n) (hF : LV n hP L T g2 G gt B 0 10 D F) (hm : MS n hP L T g2 G gt B g gr gs gc j h d N A M E) (hh : h + 1 ≤ 7 * d + 7) (hD : 10 * (40 - d) ≤ D) (hp : nPre G j) (hK : tk G j = 40) : ∃ b g', bnd (f_X12_deeper g) (fun q_61 => if q_61.1 = 0 then (some ((0 : Int32), q_61.2)) else (bnd (F (sI q_61.2 20 ((gI q_61.2 20) + (1 : Int32)))) (fun q_63 => if q_63.1 = 0 then (some ((0 : Int32), q_63.2)) else (bnd (f_X12_need q_63.2 (41 : Int32)) (fun q_65 => if q_65.1 = 0 then (some ((0 : Int32), q_65.2)) else (some ((1 : Int32), (sI q_65.2 25 ((gI q_65.2 25) - (1 : Int32)))))))))) = some (b, g') ∧ OutL n hP L T g2 G gt B 7 g gr gs gc j h d N A M E b g' := by
  obtain ⟨m1, m2, m3, m4, m5, m6, m7, m8, m9, m10⟩ := id hm
  have hT := hS.2.2.1
  have dp := deeper12 hS m1.1 m1.2.1 m5 m1.2.2.1 m6
  obtain ⟨hT1, r1, hst⟩ := paren_one hS hm hK
  by_cases h40 : d = 40
  · rw [if_pos h40] at dp
    rw [bnd_s dp]
    exact ⟨0, _, rfl, .inr (.inr ⟨rfl, r1 h40⟩)⟩
  · rw [if_neg h40] at dp
    obtain ⟨gs1, st1, ta1, fs1⟩ := hst (by omega)
    have k3 := (hS.tok hT1).2.2.1
    have kw : ¬ (28 ≤ kc (tk G (j + 1)) ∧ kc (tk G (j + 1)) ≤ 35) := fun z => hp.2.2 ⟨hK, ((kcw k3).1.mpr z).1, ((kcw k3).1.mpr z).2⟩
    have kl := kc_lt k3
    have bo := behind_open (gr := sI (hld (sI gr 10 1) gs) 10 1) (gs := gs1) (gc := gc) (hP := hP) (h := h) (d := d) (K := kc (tk G (j + 1))) ta1.2.1 (by omega) (by omega) m2.1 (by omega) m2.2.1 (by omega)
    have e12 : gI (sI (hld (sI gr 10 1) gs) 10 1) 12 = nI (ta G j) := m4.2.2.1
    rw [e12] at bo
    have st2 : stp n hP gt g2 (hld (sI gr 10 1) gs, gs1, gc, 6) = some (pushG (sI (sI (sI (hld (sI gr 10 1) gs) 10 1) 10 0) 9 (nI (d + 1))) h 45 (nI (ta G j)) (-1) 0, gs1, gc, 2) := stp_leave (by rw [if_neg (by decide), if_neg (by decide)]; exact bo) (.inl rfl)
    have G2 := Gos.add (Gos.one (show ¬ (6 : Int32) ≤ 1 by decide) st2) (Gos.one (show ¬ (2 : Int32) ≤ 1 by decide) st1)
    have fr1 : Fr [8, 9, 10, 11, 12, 13] gr (sI (sI (sI (hld (sI gr 10 1) gs) 10 1) 10 0) 9 (nI (d + 1))) := ((((Fr.sI (by decide) _ _).trans ((hld_fr _ _).mono (by decide))).trans (Fr.sI (by decide) _ _)).trans (Fr.sI (by decide) _ _)).trans (Fr.sI (by decide) _ _)
    have hO : Op n hP L T g2 G gt B 45 (j + 1) j (-1) 0 g gr gs gc j h d N A M E (sI (sI g 25 (nI (d + 1))) 20 (nI (j + 1))) (pushG (sI (sI (sI (hld (sI gr 10 1) gs) 10 1) 10 0) 9 (nI (d + 1))) h 45 (nI (ta G j)) (-1) 0) gs1 gc N A M E := by
      refine ⟨by omega, ⟨2, G2, by omega⟩, ⟨m1.fr (X := [20, 25]) ((Fr.sI (by decide) _ _).trans (Fr.sI (by decide) _ _)) (by decide) (by decide) rfl rfl m1.2.2.2.1, m2.rd rfl rfl rfl rfl, m3, ta1, hT1, by omega, by omega, by omega, by omega, by omega⟩, ⟨(fr1.mono (by decide)).trans ((pushG_fr _ _ _ _ _ _).mono (by decide)), fun i hi => ?_, fs1, ⟨Fr.refl _ _, id⟩, Nk.fr 0 M (X := [20, 25]) ((Fr.sI (by decide) _ _).trans (Fr.sI (by decide) _ _)) (by decide)⟩, pushG_rows.2.1, pushG_rows.2.2.1, pushG_rows.2.2.2.1, pushG_rows.2.2.2.2⟩
      obtain ⟨y1, y2, y3, y4⟩ := (pushG_rows (gr := sI (sI (sI (hld (sI gr 10 1) gs) 10 1) 10 0) 9 (nI (d + 1))) (h := h) (o := 45) (p := nI (ta G j)) (m := -1) (x := 0)).1 i hi
      obtain ⟨z1, z2, z3, z4⟩ := fr1.rows (by decide) i
      exact ⟨y1.trans z1, y2.trans z2, y3.trans z3, y4.trans z4⟩
    obtain ⟨b, gC, f1, f2⟩ := inner hS hn hO (.inl rfl) hF hh (by omega) hD
    have e20 : gI (sI g 25 (nI (d + 1))) 20 + 1 = nI (j + 1) := by rw [show gI (sI g 25 (nI (d + 1))) 20 = nI j from m1.2.1, nI_1]
    rw [bnd_s dp]
    show ∃ b g', bnd (F (sI (sI g 25 (nI (d + 1))) 20 (gI (sI g 25 (nI (d + 1))) 20 + 1))) _ = some (b, g') ∧ _
    rw [e20, bnd_s f1]
    rcases f2 with ⟨rfl, j3, o1, o2, o3⟩ | ⟨rfl, j', A', a1, a2, a3, a4, a5, a6, a7⟩ | ⟨rfl, o1⟩
    · obtain ⟨q1, ⟨cq, q2, q3⟩, q4, q5, q6, q7, q8, q9⟩ := hO
      obtain ⟨c, N', A', M', mm, E', gr0, gs0, gc0, gr1, gc1, p1, p2, p3, p8, p9, p10, p15, p16, p17, ⟨t4, t5, t6, t7⟩, f10, s1, s2, s3, s4⟩ := pd_close hS hn o1 o2 q6 (.inl rfl)
      obtain ⟨M1, M2, M3, M4, M5, M6, M7, M8, M9, M10⟩ := id p8
      have nd := need12 (K := 41) hS M1.1 M1.2.1 M5 (by decide)
      by_cases h41 : tk G j3 = 41
      · rw [if_pos h41] at nd
        have k46 := (kcs (hS.tok M5).2.2.1).2.1.mpr h41
        have hT3 := tok_more hS M5 (by omega)
        obtain ⟨gs3, b1, b2, b3⟩ := M4.next hS hT3
        have st : stp n hP gt g2 (gr0, gs0, gc0, 3) = some (sI (sI gr1 8 (nI h)) 9 (nI d), gs3, gc1, 3) := stp_take (by rw [if_pos rfl, s3 k46, bnd_s (show f_X5_closeRound hP gr1 gc1 (nI 45) = _ from round_open (hP := hP) (gc := gc1) M2.1 M2.2.1)]) f10 (by decide) b1
        refine ⟨1, sI (sI gC 20 (nI (j3 + 1))) 25 (nI d), ?_, .inl ⟨rfl, j3 + 1, ?_, TC7 _⟩⟩
        · show bnd (f_X12_need gC 41) _ = _
          rw [bnd_s (show f_X12_need gC 41 = some (1, sI gC 20 (nI (j3 + 1))) from nd)]
          show some ((1 : Int32), sI (sI gC 20 (nI (j3 + 1))) 25 (gI gC 25 - 1)) = _
          rw [M1.2.2.1, nI_pred d]
        · refine Pd.leaf (N' := N') (A' := A') (M' := M') (mm := mm) (E' := E') (Gos.add (Gos.one (show ¬ (3 : Int32) ≤ 1 by decide) st) (Gos.add p1 q2)) (by omega) (by omega) ⟨M1.fr (X := [20, 25]) ((Fr.sI (by decide) _ _).trans (Fr.sI (by decide) _ _)) (by decide) (by decide) rfl rfl M1.2.2.2.1, M2.rd rfl rfl rfl rfl, M3, b2, hT3, by omega, by omega, by omega, by omega, by omega⟩ ?_ ⟨by omega, by omega, by omega, by omega, by omega⟩ p15 ?_ p17
          · exact q5.trans (p9.trans (h' := h + 1) (M' := M) ⟨(Fr.sI (by decide) _ _).trans (Fr.sI (by decide) _ _), fun i _ => ⟨rfl, rfl, rfl, rfl⟩, b3, ⟨Fr.refl _ _, id⟩, Nk.fr 0 M (X := [20, 25]) ((Fr.sI (by decide) _ _).trans (Fr.sI (by decide) _ _)) (by decide)⟩ (by omega) (by omega)) (by omega) (by omega)
          · exact (p16.wide (k := j) (k' := j3 + 1) (by omega) (by omega)).keep (K := 0) (K' := M') (Nk.fr 0 M' (X := [20, 25]) ((Fr.sI (by decide) _ _).trans (Fr.sI (by decide) _ _)) (by decide)) (by omega) (by omega) (fun _ _ _ _ => rfl)
      · rw [if_neg h41] at nd
        refine ⟨0, sI (sI gC 21 1) 22 (nI (ta G j3)), ?_, .inr (.inr ⟨rfl, Rf.of M1.1 (o3 (fun z => h41 ?_))⟩)⟩
        · show bnd (f_X12_need gC 41) _ = _
          rw [bnd_s (show f_X12_need gC 41 = some (0, sI (sI gC 21 1) 22 (nI (ta G j3))) from nd)]; rfl
        · exact (kcs (hS.tok M5).2.2.1).2.1.mp (by unfold Fits at z; omega)
    · have nd := need12 (K := 41) hS a5 a1 a4 (by decide)
      rw [if_neg a6.1] at nd
      refine ⟨0, sI (sI gC 21 1) 22 (nI (ta G j')), ?_, .inr (.inr ⟨rfl, Rf.of a5 a7⟩)⟩
      show bnd (f_X12_need gC 41) _ = _
      rw [bnd_s (show f_X12_need gC 41 = some (0, sI (sI gC 21 1) 22 (nI (ta G j'))) from nd)]; rfl
    · exact ⟨0, gC, rfl, .inr (.inr ⟨rfl, o1⟩)⟩
