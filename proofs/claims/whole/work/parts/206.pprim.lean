/-! parsing: old, and all beginnings of parts -/
def oldX (gT : Gs) : Option (Int32 × Gs) := bnd (f_X12_node gT (gI gT 20)) (fun q_38 => grd (inB ((gI q_38 20) + (1 : Int32)) 3001) (if (gIA q_38 9 ((gI q_38 20) + (1 : Int32)).toNatClampNeg) = (40 : Int32) then (bnd (f_X12_deeper (sI q_38 20 ((gI q_38 20) + (1 : Int32)))) (fun q_41 => if q_41.1 = 0 then (some ((0 : Int32), q_41.2)) else (grd (inB ((gI q_41.2 20) + (1 : Int32)) 3001) (if (gIA q_41.2 9 ((gI q_41.2 20) + (1 : Int32)).toNatClampNeg) = (2 : Int32) then (grd (inB ((gI q_41.2 20) + (1 : Int32)) 3001) (bnd (f_X12_act (sI q_41.2 20 ((gI q_41.2 20) + (1 : Int32))) (5 : Int32) (0 : Int32) (gIA q_41.2 10 ((gI q_41.2 20) + (1 : Int32)).toNatClampNeg)) (fun q_45 => bnd (f_X12_name q_45.2 (1 : Int32) ((gI q_41.2 20) + (1 : Int32)) q_45.1) (fun q_47 => bnd (f_X12_need (sI (sI q_47 20 ((gI q_47 20) + (1 : Int32))) 25 ((gI q_47 25) - (1 : Int32))) (41 : Int32)) (fun q_49 => grd (zB q_49.1) (some (q_49.1, q_49.2))))))) else (bnd (f_X12_cannot (sI q_41.2 20 ((gI q_41.2 20) + (1 : Int32)))) (fun q_52 => grd (zB q_52.1) (some (q_52.1, q_52.2)))))))) else (bnd (f_X12_cannot (sI q_38 20 ((gI q_38 20) + (1 : Int32)))) (fun q_55 => grd (zB q_55.1) (some (q_55.1, q_55.2))))))
theorem lv_old {n hP L T : Nat} {g2 G gt : Gs} {B : Nat → Nat} {g gr gs gc : Gs} {j h d N A M : Nat} {E : Nat → Nat × Nat × Nat} (hS : ScR n g2 L B G T) (hm : MS n hP L T g2 G gt B g gr gs gc j h d N A M E) (hh : h + 1 ≤ 7 * d + 7) (hK : tk G j = 206) : ∃ b g', oldX g = some (b, g') ∧ OutL n hP L T g2 G gt B 7 g gr gs gc j h d N A M E b g' := by
  obtain ⟨m1, m2, m3, m4, m5, m6, m7, m8, m9, m10⟩ := id hm
  have hT := hS.2.2.1
  have hL : L ≤ 3000 := m4.1.1
  have k3 := (hS.tok m5).2.2.1
  have ko := (kcs k3).2.2.2.2.2.2.2.2.2.2.1.mpr hK
  have hT1 := tok_more hS m5 (by omega)
  obtain ⟨gs1, a1, a2, a3⟩ := m4.next hS hT1
  have h4s : gI gs 4 = 16 := by rw [m4.2.1, ko]; rfl
  have h5s : gI gs 5 = nI (ta G j) := m4.2.2.1
  obtain ⟨g1, gr1, gc1, x1, x2, x3, x4, x5, x6, x7, x8, x9⟩ := node_both (p := j) (gr := hld (sI gr 10 1) gs) hS m1 (m2.rd m2.1 m2.2.1 rfl rfl) m3 hL m5 (by omega)
  have f10 : gI gr1 10 = 1 := (x7 10 (by decide)).1
  have fr1 : Fr [9, 10, 11, 12, 13, 16] gr gr1 := ((Fr.sI (by decide) _ _).trans ((hld_fr _ _).mono (by decide))).trans (x7.mono (by decide))
  have st1 : stp n hP gt g2 (gr, gs, gc, 2) = some (gr1, gs1, gc1, 8) := stp_take (by rw [if_neg (by decide), if_pos rfl, part_old h4s, h5s, bnd_s x2]) f10 (by decide) a1
  have G1 := Gos.one (show ¬ (2 : Int32) ≤ 1 by decide) st1
  obtain ⟨v1, v2, v3, v4, v5⟩ := hS.tok hT1
  have e9 : gIA g1 9 (j + 1) = nI (tk G (j + 1)) := by rw [(x3.1 9 (by decide)).2.2.2.1, v1]
  have e45 : gI gs1 4 = 45 ↔ tk G (j + 1) = 40 := by
    rw [a2.2.1, ← (kcs v3).1]
    exact nIx (a := kc (tk G (j + 1))) (b := 45) (by have := kc_lt v3; omega) (by decide)
  have fr1' : Fr rdA gr (sI gr1 10 1) := (fr1.mono (by decide)).trans (Fr.sI (by decide) _ _)
  unfold oldX
  rw [m1.2.1, bnd_s x1, x3.2.1, nI_1, grd_t (inB_nI (by omega) (by decide)), nI_clamp (by omega), e9]
  by_cases h40 : tk G (j + 1) = 40
  · rw [ifP (c := 40) (b := 40) rfl h40]
    have dp := deeper12 (g := sI g1 20 (nI (j + 1))) (j := j + 1) (d := d) hS (x3.1.trans (Fr.sI (by decide) _ _)) rfl hT1 (show gI g1 25 = nI d from x3.2.2.1) m6
    have rb := behind_old (gr := sI gr1 10 1) (gs := gs1) (gc := gc1) (hP := hP) (d := d) x4.2.1 m6 (e45.mpr h40)
    by_cases hd : d = 40
    · rw [if_pos hd] at dp rb
      rw [bnd_s dp]
      have st2 : stp n hP gt g2 (gr1, gs1, gc1, 8) = some (sI gr1 10 1, gs1, gc1, 0) := stp_leave (by rw [if_neg (by decide), if_neg (by decide)]; exact rb) (.inr (by decide))
      exact ⟨0, _, rfl, .inr (.inr ⟨rfl, Rf.mk' (x3.1.trans (Fr.sI (by decide) _ _)) (by omega) hT1 (Gos.add (Gos.one (show ¬ (8 : Int32) ≤ 1 by decide) st2) G1) (by omega) a2 fr1' a3 (x8.mono (by decide))⟩)⟩
    · rw [if_neg hd] at dp rb
      have hT2 : j + 2 < T := tok_more hS hT1 (by rw [(kcs v3).1.mpr h40]; decide)
      obtain ⟨gs2, b1, b2, b3⟩ := a2.next hS hT2
      have st2 : stp n hP gt g2 (gr1, gs1, gc1, 8) = some (sI gr1 10 1, gs2, gc1, 9) := stp_take (by rw [if_neg (by decide), if_neg (by decide)]; exact rb) rfl (by decide) b1
      have G2 := Gos.add (Gos.one (show ¬ (8 : Int32) ≤ 1 by decide) st2) G1
      obtain ⟨u1, u2, u3, u4, u5⟩ := hS.tok hT2
      have xA : Fr parA G (sI (sI g1 20 (nI (j + 1))) 25 (nI (d + 1))) := (x3.1.trans (Fr.sI (by decide) _ _)).trans (Fr.sI (by decide) _ _)
      have y9 : gIA (sI (sI g1 20 (nI (j + 1))) 25 (nI (d + 1))) 9 (j + 2) = nI (tk G (j + 2)) := by rw [(xA 9 (by decide)).2.2.2.1, u1]
      have y10 : gIA (sI (sI g1 20 (nI (j + 1))) 25 (nI (d + 1))) 10 (j + 2) = nI (ta G (j + 2)) := by rw [(xA 10 (by decide)).2.2.2.1, u2]
      have y20 : gI (sI (sI g1 20 (nI (j + 1))) 25 (nI (d + 1))) 20 + 1 = nI (j + 2) := by show nI (j + 1) + 1 = _; rw [nI_1]
      have bn := behind_nine (gr := sI (sI gr1 10 1) 10 1) (gs := gs2) (gc := gc1) (hP := hP)
      have e2 : gI gs2 4 = 2 ↔ tk G (j + 2) = 2 := by
        rw [b2.2.1, ← (kcs u3).2.2.2.2.1]
        exact nIx (a := kc (tk G (j + 2))) (b := 2) (by have := kc_lt u3; omega) (by decide)
      rw [bnd_s dp]
      show ∃ b g', grd (inB (gI (sI (sI g1 20 (nI (j + 1))) 25 (nI (d + 1))) 20 + 1) 3001) _ = some (b, g') ∧ _
      rw [y20, grd_t (inB_nI (by omega) (by decide)), nI_clamp (show j + 2 < 2 ^ 31 by omega), y9]
      by_cases h2 : tk G (j + 2) = 2
      · rw [ifP (c := 2) (b := 2) rfl h2, grd_t (inB_nI (by omega) (by decide)), y10]
        rw [if_pos (e2.mpr h2)] at bn
        have hT3 : j + 3 < T := tok_more hS hT2 (by rw [(kcs u3).2.2.2.2.1.mpr h2]; decide)
        obtain ⟨gs3, c1, c2, c3⟩ := b2.next hS hT3
        have st3 : stp n hP gt g2 (sI gr1 10 1, gs2, gc1, 9) = some (sI (sI (sI (sI gr1 10 1) 10 1) 12 (gI gs2 5)) 13 (gI gs2 6), gs3, gc1, 10) := stp_take (by rw [if_neg (by decide), if_neg (by decide)]; exact bn) rfl (by decide) c1
        have G3 := Gos.add (Gos.one (show ¬ (9 : Int32) ≤ 1 by decide) st3) G2
        obtain ⟨q1, q2, q3, q4, q5⟩ := hS.tok hT3
        have xB : RfS G (sI (sI (sI g1 20 (nI (j + 1))) 25 (nI (d + 1))) 20 (nI (j + 2))) (j + 2) (d + 1) (N + 1) A M E := x3.fr (X := [20, 25]) (((Fr.sI (by decide) _ _).trans (Fr.sI (by decide) _ _)).trans (Fr.sI (by decide) _ _)) (by decide) (by decide) rfl rfl x3.2.2.2.1
        obtain ⟨e14, e15, e17⟩ := actG_at (sI (sI (sI g1 20 (nI (j + 1))) 25 (nI (d + 1))) 20 (nI (j + 2))) A 5 0 (nI (ta G (j + 2)))
        obtain ⟨d1, d2⟩ := xB.act (o := 5) (a := 0) (p := nI (ta G (j + 2))) (q := (16, j + 2, j + 2)) (by omega) (re_P (by unfold opP; omega) e14 e17)
        have nb := name12 (s := 1) (t := nI (j + 2)) (a := nI (2000 + A)) d2.2.2.2.2.2.1 (by omega)
        obtain ⟨w28, w29, w30, w31, w32⟩ := nameG_at (actG (sI (sI (sI g1 20 (nI (j + 1))) 25 (nI (d + 1))) 20 (nI (j + 2))) A 5 0 (nI (ta G (j + 2)))) M 1 (nI (j + 2)) (nI (2000 + A))
        rw [(d2.1 26 (by decide)).1, (d2.1 33 (by decide)).1] at w30
        rw [(d2.1 26 (by decide)).1, (d2.1 35 (by decide)).1] at w31
        have yB := d2.name 1 (nI (j + 2)) (nI (2000 + A))
        have zB' : RfS G (sI (sI (nameG (actG (sI (sI (sI g1 20 (nI (j + 1))) 25 (nI (d + 1))) 20 (nI (j + 2))) A 5 0 (nI (ta G (j + 2)))) M 1 (nI (j + 2)) (nI (2000 + A))) 20 (nI (j + 3))) 25 (nI d)) (j + 3) d (N + 1) (A + 1) (M + 1) (upE E A (16, j + 2, j + 2)) := yB.fr (X := [20, 25]) ((Fr.sI (by decide) _ _).trans (Fr.sI (by decide) _ _)) (by decide) (by decide) rfl rfl yB.2.2.2.1
        have nd := need12 (K := 41) hS zB'.1 zB'.2.1 hT3 (by decide)
        rw [bnd_s d1, bnd_s nb]
        rw [show gI (nameG (actG (sI (sI (sI g1 20 (nI (j + 1))) 25 (nI (d + 1))) 20 (nI (j + 2))) A 5 0 (nI (ta G (j + 2)))) M 1 (nI (j + 2)) (nI (2000 + A))) 20 = nI (j + 2) from yB.2.1, show gI (nameG (actG (sI (sI (sI g1 20 (nI (j + 1))) 25 (nI (d + 1))) 20 (nI (j + 2))) A 5 0 (nI (ta G (j + 2)))) M 1 (nI (j + 2)) (nI (2000 + A))) 25 = nI (d + 1) from yB.2.2.1, nI_1, nI_pred d]
        replace nd := show f_X12_need _ 41 = _ from nd
        have e12 : gI (sI (sI (sI (sI (sI gr1 10 1) 10 1) 12 (gI gs2 5)) 13 (gI gs2 6)) 10 1) 12 = nI (ta G (j + 2)) := b2.2.2.1
        have e13 : gI (sI (sI (sI (sI (sI gr1 10 1) 10 1) 12 (gI gs2 5)) 13 (gI gs2 6)) 10 1) 13 = nI (te G (j + 2) - ta G (j + 2)) := b2.2.2.2.2.1 h2
        have fr4 : Fr [9, 10, 11, 12, 13, 16] gr (sI (sI (sI (sI (sI gr1 10 1) 10 1) 12 (gI gs2 5)) 13 (gI gs2 6)) 10 1) := ((((fr1.trans (Fr.sI (by decide) _ _)).trans (Fr.sI (by decide) _ _)).trans (Fr.sI (by decide) _ _)).trans (Fr.sI (by decide) _ _)).trans (Fr.sI (by decide) _ _)
        have e46 : gI gs3 4 = 46 ↔ tk G (j + 3) = 41 := by
          rw [c2.2.1, ← (kcs q3).2.1]
          exact nIx (a := kc (tk G (j + 3))) (b := 46) (by have := kc_lt q3; omega) (by decide)
        by_cases h41 : tk G (j + 3) = 41
        · rw [if_pos h41] at nd
          have hT4 : j + 4 < T := tok_more hS hT3 (by rw [(kcs q3).2.1.mpr h41]; decide)
          obtain ⟨gs4, i1, i2, i3⟩ := c2.next hS hT4
          obtain ⟨gc', z1, z3, z4⟩ := named_both (K := 16) (p := j + 2) (x := j + 2) (gr := sI (sI (sI (sI (sI gr1 10 1) 10 1) 12 (gI gs2 5)) 13 (gI gs2 6)) 10 1) (h := h) (d := d) (x4.rd x4.1 x4.2.1 rfl rfl) (by omega) (by unfold opN; omega) h2
          have bt := behind_ten (gr := sI (sI (sI (sI (sI gr1 10 1) 10 1) 12 (gI gs2 5)) 13 (gI gs2 6)) 10 1) (gs := gs3) (gc := gc1) (hP := hP) (gc2 := gc') (e46.mpr h41) (by rw [e12, e13]; exact z1)
          have st4 : stp n hP gt g2 (sI (sI (sI (sI gr1 10 1) 10 1) 12 (gI gs2 5)) 13 (gI gs2 6), gs3, gc1, 10) = some (sI (sI (sI (sI (sI gr1 10 1) 10 1) 12 (gI gs2 5)) 13 (gI gs2 6)) 10 1, gs4, gc', 3) := stp_take (by rw [if_neg (by decide), if_neg (by decide)]; exact bt) rfl (by decide) i1
          have G4 := Gos.add (Gos.one (show ¬ (10 : Int32) ≤ 1 by decide) st4) G3
          have fX : Fr [20, 25] (nameG (actG (sI (sI (sI g1 20 (nI (j + 1))) 25 (nI (d + 1))) 20 (nI (j + 2))) A 5 0 (nI (ta G (j + 2)))) M 1 (nI (j + 2)) (nI (2000 + A))) (sI (sI (sI (nameG (actG (sI (sI (sI g1 20 (nI (j + 1))) 25 (nI (d + 1))) 20 (nI (j + 2))) A 5 0 (nI (ta G (j + 2)))) M 1 (nI (j + 2)) (nI (2000 + A))) 20 (nI (j + 3))) 25 (nI d)) 20 (nI (j + 3 + 1))) := ((Fr.sI (by decide) _ _).trans (Fr.sI (by decide) _ _)).trans (Fr.sI (by decide) _ _)
          have nkF : Nk g (sI (sI (sI (nameG (actG (sI (sI (sI g1 20 (nI (j + 1))) 25 (nI (d + 1))) 20 (nI (j + 2))) A 5 0 (nI (ta G (j + 2)))) M 1 (nI (j + 2)) (nI (2000 + A))) 20 (nI (j + 3))) 25 (nI d)) 20 (nI (j + 3 + 1))) 0 M := ((Nk.fr 0 M (X := [14, 15, 16, 17, 19, 20, 23, 24, 25]) (((((x6.mono (by decide)).trans (Fr.sI (by decide) _ _)).trans (Fr.sI (by decide) _ _)).trans (Fr.sI (by decide) _ _)).trans ((actG_fr _ _ _ _ _).mono (by decide))) (by decide)).trans (nameG_nk _ _ _ _ _) (by omega) (by omega)).trans (Nk.fr 0 M fX (by decide)) (by omega) (by omega)
          rw [bnd_s nd]
          refine ⟨1, _, rfl, .inl ⟨rfl, j + 4, ?_, TC7 _⟩⟩
          refine Pd.leaf (N' := N + 1) (A' := A + 1) (M' := M + 1) (mm := 1) (E' := upE E A (16, j + 2, j + 2)) G4 (by omega) (by omega) ⟨zB'.fr (X := [20]) (Fr.sI (by decide) _ _) (by decide) (by decide) rfl zB'.2.2.1 zB'.2.2.2.1, z3, x5, i2, hT4, by omega, by omega, by omega, by omega, by omega⟩ ⟨fr4.mono (by decide), fun i _ => fr4.rows (by decide) i, ((a3.trans b3).trans c3).trans i3, FC.trans ⟨x8.mono (by decide), x9⟩ (FC.of z4 (by decide) (by decide)), nkF⟩ ⟨by omega, by omega, by omega, by omega, by omega⟩ (fun i hi => by rw [upE_n (by omega)]) ?_ (.inl ⟨rfl, by rw [upE_s]; exact .inr (.inr (.inr (.inr rfl)))⟩)
          exact Nm.one (t := j + 2) (by omega) w29 w30 w31 w32 (by rw [show gIA (sI (sI (sI (nameG (actG (sI (sI (sI g1 20 (nI (j + 1))) 25 (nI (d + 1))) 20 (nI (j + 2))) A 5 0 (nI (ta G (j + 2)))) M 1 (nI (j + 2)) (nI (2000 + A))) 20 (nI (j + 3))) 25 (nI d)) 20 (nI (j + 3 + 1))) 28 M = 1 from w28, upE_s]; rfl) (by rw [upE_s]; exact .inr (.inl rfl)) (by rw [upE_s]) (by omega) (by omega)
        · rw [if_neg h41] at nd
          have bt := behind_ten_no (gr := sI (sI (sI (sI (sI gr1 10 1) 10 1) 12 (gI gs2 5)) 13 (gI gs2 6)) 10 1) (gs := gs3) (gc := gc1) (hP := hP) (fun z => h41 (e46.mp z))
          have st4 : stp n hP gt g2 (sI (sI (sI (sI gr1 10 1) 10 1) 12 (gI gs2 5)) 13 (gI gs2 6), gs3, gc1, 10) = some (sI (sI (sI (sI (sI gr1 10 1) 10 1) 12 (gI gs2 5)) 13 (gI gs2 6)) 10 1, gs3, gc1, 0) := stp_leave (by rw [if_neg (by decide), if_neg (by decide)]; exact bt) (.inr (by decide))
          rw [bnd_s nd]
          exact ⟨0, _, rfl, .inr (.inr ⟨rfl, Rf.mk' zB'.1 (by omega) hT3 (Gos.add (Gos.one (show ¬ (10 : Int32) ≤ 1 by decide) st4) G3) (by omega) c2 (fr4.mono (by decide)) ((a3.trans b3).trans c3) (x8.mono (by decide))⟩)⟩
      · rw [ifN (c := 2) (b := 2) rfl u4 (by decide) h2]
        rw [if_neg (fun z => h2 (e2.mp z))] at bn
        have st3 : stp n hP gt g2 (sI gr1 10 1, gs2, gc1, 9) = some (sI (sI (sI (sI gr1 10 1) 10 1) 12 (gI gs2 5)) 13 (gI gs2 6), gs2, gc1, 0) := stp_leave (by rw [if_neg (by decide), if_neg (by decide)]; exact bn) (.inr (by decide))
        rw [bnd_s (cannot12 (g := sI (sI (sI g1 20 (nI (j + 1))) 25 (nI (d + 1))) 20 (nI (j + 2))) (j := j + 2) hS (xA.trans (Fr.sI (by decide) _ _)) rfl hT2)]
        exact ⟨0, _, rfl, .inr (.inr ⟨rfl, Rf.mk' (xA.trans (Fr.sI (by decide) _ _)) (by omega) hT2 (Gos.add (Gos.one (show ¬ (9 : Int32) ≤ 1 by decide) st3) G2) (by omega) b2 (((fr1'.trans (Fr.sI (by decide) _ _)).trans (Fr.sI (by decide) _ _)).trans (Fr.sI (by decide) _ _)) (a3.trans b3) (x8.mono (by decide))⟩)⟩
  · have rb := behind_old_no (gr := sI gr1 10 1) (gs := gs1) (gc := gc1) (hP := hP) (fun z => h40 (e45.mp z))
    have st2 : stp n hP gt g2 (gr1, gs1, gc1, 8) = some (sI gr1 10 1, gs1, gc1, 0) := stp_leave (by rw [if_neg (by decide), if_neg (by decide)]; exact rb) (.inr (by decide))
    rw [ifN (c := 40) (b := 40) rfl v4 (by decide) h40, bnd_s (cannot12 (g := sI g1 20 (nI (j + 1))) (j := j + 1) hS (x3.1.trans (Fr.sI (by decide) _ _)) rfl hT1)]
    exact ⟨0, _, rfl, .inr (.inr ⟨rfl, Rf.mk' (x3.1.trans (Fr.sI (by decide) _ _)) (by omega) hT1 (Gos.add (Gos.one (show ¬ (8 : Int32) ≤ 1 by decide) st2) G1) (by omega) a2 fr1' a3 (x8.mono (by decide))⟩)⟩
theorem kc_no {k : Nat} (h : k ∈ KS) : k ≠ 40 → k ≠ 3 → k ≠ 216 → k ≠ 217 → k ≠ 208 → k ≠ 207 → k ≠ 2 → k ≠ 206 → (k < 209 ∨ 215 < k) → k ≠ 45 → k ≠ 33 → (kc k ≠ 2 ∧ kc k ≠ 3 ∧ (kc k < 16 ∨ 27 < kc k) ∧ kc k ≠ 45 ∧ kc k ≠ 50 ∧ kc k ≠ 54) := by
  have : ∀ k ∈ KS, k ≠ 40 → k ≠ 3 → k ≠ 216 → k ≠ 217 → k ≠ 208 → k ≠ 207 → k ≠ 2 → k ≠ 206 → (k < 209 ∨ 215 < k) → k ≠ 45 → k ≠ 33 → (kc k ≠ 2 ∧ kc k ≠ 3 ∧ (kc k < 16 ∨ 27 < kc k) ∧ kc k ≠ 45 ∧ kc k ≠ 50 ∧ kc k ≠ 54) := by decide
  exact this k h
theorem lv_primary {n hP L T : Nat} {g2 G gt : Gs} {B : Nat → Nat} {D : Nat} {rc : RCT} (hS : ScR n g2 L B G T) (hn : 20000 ≤ n) (hN : LVq n hP L T g2 G gt B (fun j => tk G j = 2) 7 1 D rc.1) (hF : LV n hP L T g2 G gt B 0 10 D rc.2.2.2.2.2.2.2.2) : LVq n hP L T g2 G gt B (nPre G) 7 2 (D + 1) (f_X12_primary n rc) := by
  intro g gr gs gc j h d N A M E hm hp hb hh hD
  obtain ⟨m1, m2, m3, m4, m5, m6, m7, m8, m9, m10⟩ := id hm
  have hT := hS.2.2.1
  obtain ⟨t1, t2, t3, t4, t5, t6⟩ := tok9 hS m1.1 m1.2.1 m5
  have hno : ∀ (x : Prop), (kc (tk G j) ≠ 2 ∧ kc (tk G j) ≠ 3 ∧ (kc (tk G j) < 16 ∨ 27 < kc (tk G j)) ∧ kc (tk G j) ≠ 45 ∧ kc (tk G j) ≠ 50 ∧ kc (tk G j) ≠ 54) → ∃ b g', b_X12_primary_394 n rc g = some (b, g') ∧ OutL n hP L T g2 G gt B 7 g gr gs gc j h d N A M E b g' := by
    intro _ ⟨h2, h3, h16, h45, h50, h54⟩
    have st : stp n hP gt g2 (gr, gs, gc, 2) = some (hld (sI gr 10 1) gs, gs, gc, 0) := stp_leave (by rw [if_neg (by decide), if_pos rfl]; exact part_no m4.2.1 (by have := kc_lt t5; omega) h2 h3 h16 h45 h50 h54) (.inr (by decide))
    unfold b_X12_primary_394
    rw [bnd_s (cannot12 hS m1.1 m1.2.1 m5)]
    exact ⟨0, _, rfl, .inr (.inr ⟨rfl, Rf.mk' m1.1 (Nat.le_refl _) m5 (Gos.one (show ¬ (2 : Int32) ≤ 1 by decide) st) (by omega) m4 ((Fr.sI (by decide) _ _).trans ((hld_fr _ _).mono (by decide))) (Fr.refl _ _) (Fr.refl _ _)⟩)⟩
  unfold f_X12_primary
  rw [grd_t t1, t2, t3]
  by_cases k40 : tk G j = 40
  · rw [ifP (c := 40) (b := 40) rfl k40]
    exact lv_paren hS hn hF hm (by omega) (by omega) hp k40
  rw [ifN (c := 40) (b := 40) rfl t6 (by decide) k40]
  by_cases k3 : tk G j = 3
  · rw [ifP (c := 3) (b := 3) rfl k3]
    obtain ⟨g', e1, e2⟩ := lv_num (rc := rc) hS hm (.inl k3)
    exact ⟨1, g', e1, .inl ⟨rfl, j + 1, e2, TC7 _⟩⟩
  rw [ifN (c := 3) (b := 3) rfl t6 (by decide) k3]
  by_cases k216 : tk G j = 216
  · rw [ifP (c := 216) (b := 216) rfl k216]
    obtain ⟨g', e1, e2⟩ := lv_num (rc := rc) hS hm (.inr (.inl k216))
    exact ⟨1, g', e1, .inl ⟨rfl, j + 1, e2, TC7 _⟩⟩
  rw [ifN (c := 216) (b := 216) rfl t6 (by decide) k216]
  by_cases k217 : tk G j = 217
  · rw [ifP (c := 217) (b := 217) rfl k217]
    obtain ⟨g', e1, e2⟩ := lv_num (rc := rc) hS hm (.inr (.inr k217))
    exact ⟨1, g', e1, .inl ⟨rfl, j + 1, e2, TC7 _⟩⟩
  rw [ifN (c := 217) (b := 217) rfl t6 (by decide) k217]
  by_cases k208 : tk G j = 208
  · rw [ifP (c := 208) (b := 208) rfl k208]
    obtain ⟨g', e1, e2⟩ := lv_tick (rc := rc) hS hm (.inr k208)
    exact ⟨1, g', e1, .inl ⟨rfl, j + 1, e2, TC7 _⟩⟩
  rw [ifN (c := 208) (b := 208) rfl t6 (by decide) k208]
  by_cases k207 : tk G j = 207
  · rw [ifP (c := 207) (b := 207) rfl k207]
    obtain ⟨g', e1, e2⟩ := lv_tick (rc := rc) hS hm (.inl k207)
    exact ⟨1, g', e1, .inl ⟨rfl, j + 1, e2, TC7 _⟩⟩
  rw [ifN (c := 207) (b := 207) rfl t6 (by decide) k207]
  by_cases k2 : tk G j = 2
  · rw [ifP (c := 2) (b := 2) rfl k2]
    obtain ⟨b, g', e1, e2⟩ := hN g gr gs gc j h d N A M E hm k2 hb hh (by omega)
    refine ⟨b, g', ?_, e2⟩
    rw [bnd_s e1]
    show grd (zB b) (some (b, g')) = _
    rw [grd_t (one_of e2.b)]
  rw [ifN (c := 2) (b := 2) rfl t6 (by decide) k2]
  by_cases k206 : tk G j = 206
  · rw [ifP (c := 206) (b := 206) rfl k206]
    exact lv_old hS hm (by omega) k206
  rw [ifN (c := 206) (b := 206) rfl t6 (by decide) k206]
  by_cases k209 : tk G j < 209
  · rw [if_pos (show nI (tk G j) < (209 : Int32) from nI_lt (b := 209) k209 (by decide))]
    exact hno True (kc_no t5 k40 k3 k216 k217 k208 k207 k2 k206 (.inl k209) hp.1 hp.2.1)
  rw [if_neg (show ¬ nI (tk G j) < (209 : Int32) from nI_nlt (b := 209) (by omega) (by omega))]
  by_cases k215 : tk G j ≤ 215
  · rw [if_pos (show nI (tk G j) ≤ (215 : Int32) from nI_le (b := 215) k215 (by decide))]
    have e := lv_fun (rc := rc) hS hn hF hm (by omega) (by omega) ⟨by omega, k215⟩
    unfold funX at e
    rw [m1.2.1]
    exact e
  rw [if_neg (show ¬ nI (tk G j) ≤ (215 : Int32) from nI_ge (a := 215) (by omega) (by omega))]
  exact hno True (kc_no t5 k40 k3 k216 k217 k208 k207 k2 k206 (.inr (by omega)) hp.1 hp.2.1)
