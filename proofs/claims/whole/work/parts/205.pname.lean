/-! parsing: NAMEs, with an index or without, and old -/
theorem Nm.swap {G g : Gs} {E : Nat → Nat × Nat × Nat} {A A1 A2 M M1 M2 j j1 j2 : Nat} (h : Nm G g E A1 A2 M M1 j j1) (h' : Nm G g E A A1 M1 M2 j1 j2) (hA : A ≤ A1) (hA' : A1 ≤ A2) (hM : M ≤ M1) (hM' : M1 ≤ M2) (hj : j ≤ j1) (hj' : j1 ≤ j2) : Nm G g E A A2 M M2 j j2 := by
  obtain ⟨h1, h2, h3⟩ := h
  obtain ⟨g1, g2, g3⟩ := h'
  refine ⟨fun i i1 i2 => ?_, fun i i' i1 i2 i3 => ?_, fun a a1 a2 a3 => ?_⟩
  · by_cases c : i < M1
    · obtain ⟨x1, x2, x3, x4, x5, a, a1, a2, a3⟩ := h1 i i1 c
      exact ⟨x1, x2, by omega, x4, x5, a, by omega, a2, a3⟩
    · obtain ⟨x1, x2, x3, x4, x5, a, a1, a2, a3⟩ := g1 i (by omega) i2
      exact ⟨x1, by omega, x3, x4, x5, a, a1, by omega, a3⟩
  · by_cases c : i' < M1
    · exact h2 i i' i1 i2 c
    · by_cases c' : i < M1
      · have a := (h1 i i1 c').2.2.1
        have b := (g1 i' (by omega) i3).2.1
        omega
      · exact g2 i i' (by omega) i2 i3
  · by_cases c : a < A1
    · obtain ⟨i, i1, i2, i3⟩ := g3 a a1 c a3
      exact ⟨i, by omega, i2, i3⟩
    · obtain ⟨i, i1, i2, i3⟩ := h3 a (by omega) a2 a3
      exact ⟨i, i1, by omega, i3⟩
theorem nameG_at (g : Gs) (M : Nat) (s t a : Int32) : gIA (nameG g M s t a) 28 M = s ∧ gIA (nameG g M s t a) 29 M = t ∧ gIA (nameG g M s t a) 30 M = (if gI g 26 = 0 then 9999 else gI g 33 - 1) ∧ gIA (nameG g M s t a) 31 M = (if gI g 26 = 0 then 9999 else gI g 35) ∧ gIA (nameG g M s t a) 32 M = a := by
  refine ⟨?_, ?_, ?_, ?_, ?_⟩
  · show upd (gIA g 28) M s M = _; rw [pk_us]
  · show upd (gIA g 29) M t M = _; rw [pk_us]
  · show upd (gIA g 30) M _ M = _; rw [pk_us]
  · show upd (gIA g 31) M _ M = _; rw [pk_us]
  · show upd (gIA g 32) M a M = _; rw [pk_us]
theorem nameG_nk (g : Gs) (M : Nat) (s t a : Int32) : Nk g (nameG g M s t a) 0 M := by
  intro i i1 i2
  refine ⟨?_, ?_, ?_, ?_, ?_⟩
  · show upd (gIA g 28) M s i = _; rw [pk_un (by omega)]
  · show upd (gIA g 29) M t i = _; rw [pk_un (by omega)]
  · show upd (gIA g 30) M _ i = _; rw [pk_un (by omega)]
  · show upd (gIA g 31) M _ i = _; rw [pk_un (by omega)]
  · show upd (gIA g 32) M a i = _; rw [pk_un (by omega)]
theorem RfS.name {G g : Gs} {j d N A M : Nat} {E : Nat → Nat × Nat × Nat} (h : RfS G g j d N A M E) (s t a : Int32) : RfS G (nameG g M s t a) j d N A (M + 1) E := by
  obtain ⟨a1, a2, a3, a4, a5, a6, a7⟩ := h
  exact ⟨a1.trans ((nameG_fr _ _ _ _ _).mono (by decide)), a2, a3, a4, a5, rfl, fun i hi => (a7 i hi).fr (nameG_fr _ _ _ _ _) (by decide)⟩
/-- a NAME is counted, the class looks behind it -/
theorem name_start {n hP L T : Nat} {g2 G gt : Gs} {B : Nat → Nat} {g gr gs gc : Gs} {j h d N A M : Nat} {E : Nat → Nat × Nat × Nat} (hS : ScR n g2 L B G T) (hm : MS n hP L T g2 G gt B g gr gs gc j h d N A M E) (hK : tk G j = 2) : ∃ g1 gr1 gs1 gc1, f_X12_node g (nI j) = some g1 ∧ RfS G g1 j d (N + 1) A M E ∧ CS G gr1 gc1 hP h d (N + 1) A E ∧ Tm g1 gr1 ∧ Fr [23, 24] g g1 ∧ Fr [9, 10, 11, 12, 13, 16] gr gr1 ∧ Fr scA gs gs1 ∧ Fr [9, 10] gc gc1 ∧ (gI gc1 10 = 0 → gI gc 10 = 0) ∧ Gos n hP gt g2 1 (gr, gs, gc, 2) (gr1, gs1, gc1, 4) ∧ TokAt L B G gt (j + 1) gs1 ∧ j + 1 < T ∧ gI gr1 10 = 1 ∧ gI gr1 12 = nI (ta G j) ∧ gI gr1 13 = nI (te G j - ta G j) := by
  obtain ⟨m1, m2, m3, m4, m5, m6, m7, m8, m9, m10⟩ := id hm
  have hT := hS.2.2.1
  have hL : L ≤ 3000 := m4.1.1
  have k3 := (hS.tok m5).2.2.1
  have ko := (kcs k3).2.2.2.2.1.mpr hK
  have hT1 := tok_more hS m5 (by omega)
  obtain ⟨gs1, a1, a2, a3⟩ := m4.next hS hT1
  have h4s : gI gs 4 = 2 := by rw [m4.2.1, ko]; rfl
  have h5s : gI gs 5 = nI (ta G j) := m4.2.2.1
  obtain ⟨g1, gr1, gc1, x1, x2, x3, x4, x5, x6, x7, x8, x9⟩ := node_both (p := j) (gr := hld (sI gr 10 1) gs) hS m1 (m2.rd m2.1 m2.2.1 rfl rfl) m3 hL m5 (by omega)
  have f10 : gI gr1 10 = 1 := (x7 10 (by decide)).1
  have fr1 : Fr [9, 10, 11, 12, 13, 16] gr gr1 := ((Fr.sI (by decide) _ _).trans ((hld_fr _ _).mono (by decide))).trans (x7.mono (by decide))
  have st1 : stp n hP gt g2 (gr, gs, gc, 2) = some (gr1, gs1, gc1, 4) := stp_take (by rw [if_neg (by decide), if_pos rfl, part_name h4s, h5s, bnd_s x2]) f10 (by decide) a1
  exact ⟨g1, gr1, gs1, gc1, x1, x3, x4, x5, x6, fr1, a3, x8, x9, Gos.one (show ¬ (2 : Int32) ≤ 1 by decide) st1, a2, hT1, f10, by rw [(x7 12 (by decide)).1]; exact h5s, by rw [(x7 13 (by decide)).1]; exact m4.2.2.2.2.1 hK⟩
theorem lv_named {n hP L T : Nat} {g2 G gt : Gs} {B : Nat → Nat} {D : Nat} {rc : RCT} (hS : ScR n g2 L B G T) (hn : 20000 ≤ n) (hF : LV n hP L T g2 G gt B 0 10 D rc.2.2.2.2.2.2.2.2) : LVq n hP L T g2 G gt B (fun j => tk G j = 2) 7 1 (D + 1) (f_X12_named n rc) := by
  intro g gr gs gc j h d N A M E hm hK hb hh hD
  have hK : tk G j = 2 := hK
  obtain ⟨m1, m2, m3, m4, m5, m6, m7, m8, m9, m10⟩ := id hm
  have hT := hS.2.2.1
  obtain ⟨g1, gr1, gs1, gc1, x1, x3, x4, x5, x6, fr1, fs1, x8, x9, G1, ta1, hT1, f10, e12, e13⟩ := name_start hS hm hK
  obtain ⟨v1, v2, v3, v4, v5⟩ := hS.tok hT1
  have e9 : gIA g1 9 (j + 1) = nI (tk G (j + 1)) := by rw [(x3.1 9 (by decide)).2.2.2.1, v1]
  have e47 : gI gs1 4 = 47 ↔ tk G (j + 1) = 91 := by
    rw [ta1.2.1, ← (kcs v3).2.2.2.2.2.2.2.2.2.2.2.1]
    exact nIx (a := kc (tk G (j + 1))) (b := 47) (by have := kc_lt v3; omega) (by decide)
  have h26 : ∀ {gX : Gs}, Fr parA G gX → gI gX 26 = gI G 26 ∧ gI gX 33 = gI G 33 ∧ gI gX 35 = gI G 35 := fun hf => ⟨(hf 26 (by decide)).1, (hf 33 (by decide)).1, (hf 35 (by decide)).1⟩
  unfold f_X12_named
  rw [m1.2.1, bnd_s x1, x3.2.1, nI_1, grd_t (inB_nI (by omega) (by decide)), nI_clamp (by omega), e9]
  by_cases h91 : tk G (j + 1) = 91
  · rw [ifP (c := 91) (b := 91) rfl h91]
    have dp := deeper12 (g := sI g1 20 (nI (j + 1))) (j := j + 1) (d := d) hS (x3.1.trans (Fr.sI (by decide) _ _)) rfl hT1 (show gI g1 25 = nI d from x3.2.2.1) m6
    have rb := behind_square (gr := sI gr1 10 1) (gc := gc1) (hP := hP) (h := h) (d := d) (e47.mpr h91) x4.1 (by omega) x4.2.1 m6
    by_cases hd : d = 40
    · rw [if_pos hd] at dp rb
      rw [bnd_s dp]
      have st2 : stp n hP gt g2 (gr1, gs1, gc1, 4) = some (sI gr1 10 1, gs1, gc1, 0) := stp_leave (by rw [if_neg (by decide), if_neg (by decide)]; exact rb) (.inr (by decide))
      exact ⟨0, _, rfl, .inr (.inr ⟨rfl, Rf.mk' (x3.1.trans (Fr.sI (by decide) _ _)) (by omega) hT1 (Gos.add (Gos.one (show ¬ (4 : Int32) ≤ 1 by decide) st2) G1) (by omega) ta1 ((fr1.mono (by decide)).trans (Fr.sI (by decide) _ _)) fs1 (x8.mono (by decide))⟩)⟩
    · rw [if_neg hd] at dp rb
      have hT2 := tok_more hS hT1 (by rw [(kcs v3).2.2.2.2.2.2.2.2.2.2.2.1.mpr h91]; decide)
      obtain ⟨gs2, b1, b2, b3⟩ := ta1.next hS hT2
      have e12' : gI (sI gr1 10 1) 12 = nI (ta G j) := e12
      have e13' : gI (sI gr1 10 1) 13 = nI (te G j - ta G j) := e13
      rw [e12', e13', show gI gs1 5 = nI (ta G (j + 1)) from ta1.2.2.1] at rb
      have st2 : stp n hP gt g2 (gr1, gs1, gc1, 4) = some (pushG (sI (sI gr1 10 1) 9 (nI (d + 1))) h 64 (nI (ta G (j + 1))) (nI (ta G j)) (nI (te G j - ta G j)), gs2, gc1, 2) := stp_take (by rw [if_neg (by decide), if_neg (by decide)]; exact rb) rfl (by decide) b1
      have fr2 : Fr [9, 10, 11, 12, 13, 16] gr (sI (sI gr1 10 1) 9 (nI (d + 1))) := (fr1.trans (Fr.sI (by decide) _ _)).trans (Fr.sI (by decide) _ _)
      have xB : RfS G (sI (sI (sI g1 20 (nI (j + 1))) 25 (nI (d + 1))) 20 (nI (j + 2))) (j + 2) (d + 1) (N + 1) A M E := x3.fr (X := [20, 25]) (((Fr.sI (by decide) _ _).trans (Fr.sI (by decide) _ _)).trans (Fr.sI (by decide) _ _)) (by decide) (by decide) rfl rfl x3.2.2.2.1
      have nb := name12 (s := 2) (t := nI j) (a := -1) xB.2.2.2.2.2.1 (by omega)
      obtain ⟨w28, w29, w30, w31, w32⟩ := nameG_at (sI (sI (sI g1 20 (nI (j + 1))) 25 (nI (d + 1))) 20 (nI (j + 2))) M 2 (nI j) (-1)
      obtain ⟨u26, u33, u35⟩ := h26 xB.1
      rw [u26, u33] at w30
      rw [u26, u35] at w31
      have yB := xB.name 2 (nI j) (-1)
      have fB : Fr [20, 25] g1 (sI (sI (sI g1 20 (nI (j + 1))) 25 (nI (d + 1))) 20 (nI (j + 2))) := ((Fr.sI (by decide) _ _).trans (Fr.sI (by decide) _ _)).trans (Fr.sI (by decide) _ _)
      have hO : Op n hP L T g2 G gt B 64 (j + 2) (j + 1) (nI (ta G j)) (nI (te G j - ta G j)) g gr gs gc j h d N A M E (nameG (sI (sI (sI g1 20 (nI (j + 1))) 25 (nI (d + 1))) 20 (nI (j + 2))) M 2 (nI j) (-1)) (pushG (sI (sI gr1 10 1) 9 (nI (d + 1))) h 64 (nI (ta G (j + 1))) (nI (ta G j)) (nI (te G j - ta G j))) gs2 gc1 (N + 1) A (M + 1) E := by
        refine ⟨by omega, ⟨2, Gos.add (Gos.one (show ¬ (4 : Int32) ≤ 1 by decide) st2) G1, by omega⟩, ⟨yB, x4.rd rfl rfl rfl rfl, x5, b2, hT2, by omega, by omega, by omega, by omega, by omega⟩, ⟨(fr2.mono (by decide)).trans ((pushG_fr _ _ _ _ _ _).mono (by decide)), fun i hi => ?_, fs1.trans b3, ⟨x8.mono (by decide), x9⟩, (Nk.fr 0 M (X := [20, 23, 24, 25]) ((x6.mono (by decide)).trans (fB.mono (by decide))) (by decide)).trans (nameG_nk _ _ _ _ _) (by omega) (by omega)⟩, pushG_rows.2.1, pushG_rows.2.2.1, pushG_rows.2.2.2.1, pushG_rows.2.2.2.2⟩
        obtain ⟨y1, y2, y3, y4⟩ := (pushG_rows (gr := sI (sI gr1 10 1) 9 (nI (d + 1))) (h := h) (o := 64) (p := nI (ta G (j + 1))) (m := nI (ta G j)) (x := nI (te G j - ta G j))).1 i hi
        obtain ⟨z1, z2, z3, z4⟩ := fr2.rows (by decide) i
        exact ⟨y1.trans z1, y2.trans z2, y3.trans z3, y4.trans z4⟩
      obtain ⟨b, gC, f1, f2⟩ := inner hS hn hO (.inr (.inr (.inl rfl))) hF (by omega) (by omega) (by omega)
      rw [bnd_s dp]
      show ∃ b g', bnd (f_X12_name (sI (sI (sI g1 20 (nI (j + 1))) 25 (nI (d + 1))) 20 (nI (j + 1) + 1)) 2 (nI j) (-1)) _ = some (b, g') ∧ _
      rw [nI_1, bnd_s nb, bnd_s f1]
      have e27 : gI (sI (sI g1 20 (nI (j + 1))) 25 (nI (d + 1))) 27 = nI M := x3.2.2.2.2.2.1
      -- the end, in the reference
      have fE : ∀ {jj A2 : Nat}, Fr parA G gC → gI gC 20 = nI jj → jj < T → gI gC 19 = nI (2000 + A2) → A2 < 6000 → bnd (f_X12_act (sI gC 25 (gI gC 25 - 1)) 6 0 (gIA gC 10 (j + 1))) (fun q_11 => grd (inB (nI M) 3001) (bnd (f_X12_need (sIA q_11.2 32 (upd (gIA q_11.2 32) (nI M).toNatClampNeg q_11.1)) 93) (fun q_14 => grd (zB q_14.1) (some (q_14.1, q_14.2))))) = if tk G jj = 93 then some (1, sI (sIA (actG (sI gC 25 (gI gC 25 - 1)) A2 6 0 (nI (ta G (j + 1)))) 32 (upd (gIA gC 32) M (nI (2000 + A2)))) 20 (nI (jj + 1))) else some (0, sI (sI (sIA (actG (sI gC 25 (gI gC 25 - 1)) A2 6 0 (nI (ta G (j + 1)))) 32 (upd (gIA gC 32) M (nI (2000 + A2)))) 21 1) 22 (nI (ta G jj))) := by
        intro jj A2 hf h20 hjj h19 hA
        have y2 := (go_act hS hT1 hf).2
        have nd := need12 (g := sIA (actG (sI gC 25 (gI gC 25 - 1)) A2 6 0 (nI (ta G (j + 1)))) 32 (upd (gIA gC 32) M (nI (2000 + A2)))) (K := 93) hS (((hf.trans (Fr.sI (by decide) _ _)).trans ((actG_fr _ _ _ _ _).mono (by decide))).trans (Fr.sIA (by decide) _ _)) (show _ = nI jj from h20) hjj (by decide)
        rw [y2, bnd_s (act12 (A := A2) (show gI (sI gC 25 (gI gC 25 - 1)) 19 = nI (2000 + A2) from h19) hA), grd_t (inB_nI (by omega) (by decide)), nI_clamp (by omega)]
        show bnd (f_X12_need (sIA (actG (sI gC 25 (gI gC 25 - 1)) A2 6 0 (nI (ta G (j + 1)))) 32 (upd (gIA gC 32) M (nI (2000 + A2)))) (nI 93)) _ = _
        rw [nd]
        by_cases z : tk G jj = 93
        · rw [if_pos z]; rfl
        · rw [if_neg z]; rfl
      rcases f2 with ⟨rfl, j3, o1, o2, o3⟩ | ⟨rfl, j', A', a1, a2, a3, a4, a5, a6, a7⟩ | ⟨rfl, o1⟩
      · obtain ⟨q1, ⟨cq, q2, q3⟩, q4, q5, q6, q7, q8, q9⟩ := hO
        obtain ⟨c, N', A', M', mm, E', gr0, gs0, gc0, gr3, gc3, p1, p2, p3, p8, p9, p10, p15, p16, p17, ⟨t4, t5, t6, t7⟩, f103, s1, s2, s3, s4⟩ := pd_close hS hn o1 o2 q6 (.inr (.inr (.inl rfl)))
        obtain ⟨r1, r2, r3, r4, r5, r6, r7, r8, r9, r10⟩ := id p8
        have e := fE r1.1 r1.2.1 r5 r1.2.2.2.2.1 (by omega)
        rw [r1.2.2.1, nI_pred d] at e
        show ∃ b g', grd (inB (nI (j + 1)) 3001) (bnd (f_X12_act (sI gC 25 (gI gC 25 - 1)) 6 0 (gIA gC 10 (j + 1))) (fun q_11 => grd (inB (gI (sI (sI g1 20 (nI (j + 1))) 25 (nI (d + 1))) 27) 3001) (bnd (f_X12_need (sIA q_11.2 32 (upd (gIA q_11.2 32) (gI (sI (sI g1 20 (nI (j + 1))) 25 (nI (d + 1))) 27).toNatClampNeg q_11.1)) 93) (fun q_14 => grd (zB q_14.1) (some (q_14.1, q_14.2)))))) = some (b, g') ∧ _
        rw [grd_t (inB_nI (by omega) (by decide)), e27, r1.2.2.1, nI_pred d, e]
        by_cases h93 : tk G j3 = 93
        · rw [if_pos h93]
          have k48 := (kcs (hS.tok r5).2.2.1).2.2.2.2.2.2.2.2.2.2.2.2.1.mpr h93
          have hT3 := tok_more hS r5 (by omega)
          obtain ⟨gs3, c1, c2, c3⟩ := r4.next hS hT3
          obtain ⟨gc', w1, w3, w4⟩ := named_both (K := 64) (p := j + 1) (x := j) (gr := sI (sI gr3 8 (nI h)) 9 (nI d)) (h := h) (d := d) (r2.rd rfl rfl rfl rfl) r9 (by unfold opN; omega) hK
          have sq : f_X5_closeSquare hP gr3 gc3 64 = some (3, sI (sI gr3 8 (nI h)) 9 (nI d), gc') := by
            unfold f_X5_closeSquare
            rw [if_pos rfl, r2.1, r2.2.1, nI_pred h, nI_pred d]
            simp only [grd_t (inB_nI (show h < 320 by omega) (by decide)), nI_clamp (show h < 2 ^ 31 by omega)]
            rw [t5, q7, t6, q8, t7, q9, bnd_s (show f_X5_addNamed hP (sI (sI gr3 8 (nI h)) 9 (nI d)) gc3 64 (nI (ta G (j + 1))) (nI (ta G j)) (nI (te G j - ta G j)) = some gc' from w1)]
          have st : stp n hP gt g2 (gr0, gs0, gc0, 3) = some (sI (sI gr3 8 (nI h)) 9 (nI d), gs3, gc', 3) := stp_take (by rw [if_pos rfl, s4 k48, bnd_s (show f_X5_closeSquare hP gr3 gc3 (nI 64) = _ from sq)]) f103 (by decide) c1
          have mB : RfS G (sI gC 25 (nI d)) j3 d N' A' M' E' := r1.fr (X := [25]) (Fr.sI (by decide) _ _) (by decide) (by decide) r1.2.1 rfl r1.2.2.2.1
          obtain ⟨e14, e15, e17⟩ := actG_at (sI gC 25 (nI d)) A' 6 0 (nI (ta G (j + 1)))
          obtain ⟨d1, d2⟩ := mB.act (o := 6) (a := 0) (p := nI (ta G (j + 1))) (q := (64, j + 1, j)) (by omega) (re_P (by unfold opP; omega) e14 e17)
          have fF : Fr [14, 15, 16, 17, 19, 20, 25, 32] gC (sI (sIA (actG (sI gC 25 (nI d)) A' 6 0 (nI (ta G (j + 1)))) 32 (upd (gIA gC 32) M (nI (2000 + A')))) 20 (nI (j3 + 1))) := (((Fr.sI (by decide) _ _).trans ((actG_fr _ _ _ _ _).mono (by decide))).trans (Fr.sIA (by decide) _ _)).trans (Fr.sI (by decide) _ _)
          have row : ∀ i, i ≠ M → gIA (sI (sIA (actG (sI gC 25 (nI d)) A' 6 0 (nI (ta G (j + 1)))) 32 (upd (gIA gC 32) M (nI (2000 + A')))) 20 (nI (j3 + 1))) 32 i = gIA gC 32 i := fun i hi => by show upd _ M _ i = _; rw [pk_un (by omega)]
          have nkF : ∀ {K K'}, M + 1 ≤ K ∨ K' ≤ M → Nk gC (sI (sIA (actG (sI gC 25 (nI d)) A' 6 0 (nI (ta G (j + 1)))) 32 (upd (gIA gC 32) M (nI (2000 + A')))) 20 (nI (j3 + 1))) K K' := fun hk i i1 i2 => ⟨by rw [(fF 28 (by decide)).2.2.2.1], by rw [(fF 29 (by decide)).2.2.2.1], by rw [(fF 30 (by decide)).2.2.2.1], by rw [(fF 31 (by decide)).2.2.2.1], row i (by omega)⟩
          refine ⟨1, _, rfl, .inl ⟨rfl, j3 + 1, ?_, TC7 _⟩⟩
          refine Pd.leaf (N' := N') (A' := A' + 1) (M' := M') (mm := mm + 1) (E' := upE E' A' (64, j + 1, j)) (Gos.add (Gos.one (show ¬ (3 : Int32) ≤ 1 by decide) st) (Gos.add p1 q2)) (by omega) (by omega) ⟨d2.fr (X := [20, 32]) ((Fr.sIA (by decide) _ _).trans (Fr.sI (by decide) _ _)) (by decide) (by decide) rfl d2.2.2.1 d2.2.2.2.1, w3, r3, c2, hT3, by omega, by omega, by omega, by omega, by omega⟩ ?_ ⟨by omega, by omega, by omega, by omega, by omega⟩ (fun i hi => by rw [upE_n (by omega)]; exact p15 i hi) ?_ (.inr (.inl ⟨A', rfl, p17.ext (fun i _ i2 => by rw [upE_n (by omega)]), .inl (by rw [upE_s])⟩))
          · exact q5.trans ((p9.low (h' := h) (M' := M) (by omega) (by omega)).trans (h' := h) (M' := M) ⟨(Fr.sI (by decide) _ _).trans (Fr.sI (by decide) _ _), fun i _ => ⟨rfl, rfl, rfl, rfl⟩, c3, FC.of w4 (by decide) (by decide), nkF (.inr (Nat.le_refl _))⟩ (by omega) (by omega)) (by omega) (by omega)
          · have kM := p9.2.2.2.2 M (by omega) (by omega)
            have n2 := p16.keep (E' := upE E' A' (64, j + 1, j)) (nkF (K := M + 1) (K' := M') (.inl (Nat.le_refl _))) (by omega) (by omega) (fun a _ a2 _ => by rw [upE_n (by omega)])
            have n1 : Nm G (sI (sIA (actG (sI gC 25 (nI d)) A' 6 0 (nI (ta G (j + 1)))) 32 (upd (gIA gC 32) M (nI (2000 + A')))) 20 (nI (j3 + 1))) (upE E' A' (64, j + 1, j)) A' (A' + 1) M (M + 1) j (j + 2) := by
              refine Nm.one (t := j) (by omega) ?_ ?_ ?_ ?_ ?_ (by rw [upE_s]; exact .inr (.inr rfl)) (by rw [upE_s]) (Nat.le_refl _) (by omega)
              · rw [(fF 29 (by decide)).2.2.2.1, kM.2.1, w29]
              · rw [(fF 30 (by decide)).2.2.2.1, kM.2.2.1, w30]
              · rw [(fF 31 (by decide)).2.2.2.1, kM.2.2.2.1, w31]
              · show upd _ M _ M = _; rw [pk_us]
              · rw [(fF 28 (by decide)).2.2.2.1, kM.1, w28, upE_s]; rfl
            exact Nm.swap n1 (n2.wide (Nat.le_refl _) (by omega)) (by omega) (by omega) (by omega) (by omega) (by omega) (by omega)
        · rw [if_neg h93]
          refine ⟨0, _, rfl, .inr (.inr ⟨rfl, Rf.of (((r1.1.trans (Fr.sI (by decide) _ _)).trans ((actG_fr _ _ _ _ _).mono (by decide))).trans (Fr.sIA (by decide) _ _)) (o3 (fun z => h93 ?_))⟩)⟩
          exact (kcs (hS.tok r5).2.2.1).2.2.2.2.2.2.2.2.2.2.2.2.1.mp (by unfold Fits at z; omega)
      · have e := fE a5 a1 a4 a2 (by omega)
        rw [if_neg a6.2.1] at e
        show ∃ b g', grd (inB (nI (j + 1)) 3001) (bnd (f_X12_act (sI gC 25 (gI gC 25 - 1)) 6 0 (gIA gC 10 (j + 1))) (fun q_11 => grd (inB (gI (sI (sI g1 20 (nI (j + 1))) 25 (nI (d + 1))) 27) 3001) (bnd (f_X12_need (sIA q_11.2 32 (upd (gIA q_11.2 32) (gI (sI (sI g1 20 (nI (j + 1))) 25 (nI (d + 1))) 27).toNatClampNeg q_11.1)) 93) (fun q_14 => grd (zB q_14.1) (some (q_14.1, q_14.2)))))) = some (b, g') ∧ _
        rw [grd_t (inB_nI (by omega) (by decide)), e27, e]
        exact ⟨0, _, rfl, .inr (.inr ⟨rfl, Rf.of (((a5.trans (Fr.sI (by decide) _ _)).trans ((actG_fr _ _ _ _ _).mono (by decide))).trans (Fr.sIA (by decide) _ _)) a7⟩)⟩
      · exact ⟨0, gC, rfl, .inr (.inr ⟨rfl, o1⟩)⟩
  · rw [ifN (c := 91) (b := 91) rfl v4 (by decide) h91, grd_t (inB_nI (by omega) (by decide)), nI_clamp (by omega), (go_act hS m5 x3.1).2]
    have xB : RfS G (sI g1 20 (nI (j + 1))) (j + 1) d (N + 1) A M E := x3.fr (X := [20]) (Fr.sI (by decide) _ _) (by decide) (by decide) rfl x3.2.2.1 x3.2.2.2.1
    obtain ⟨e14, e15, e17⟩ := actG_at (sI g1 20 (nI (j + 1))) A 4 0 (nI (ta G j))
    obtain ⟨d1, d2⟩ := xB.act (o := 4) (a := 0) (p := nI (ta G j)) (q := (63, j, j)) (by omega) (re_P (by unfold opP; omega) e14 e17)
    have nb := name12 (s := 1) (t := nI j) (a := nI (2000 + A)) d2.2.2.2.2.2.1 (by omega)
    obtain ⟨w28, w29, w30, w31, w32⟩ := nameG_at (actG (sI g1 20 (nI (j + 1))) A 4 0 (nI (ta G j))) M 1 (nI j) (nI (2000 + A))
    obtain ⟨u26, u33, u35⟩ := h26 d2.1
    rw [u26, u33] at w30
    rw [u26, u35] at w31
    have yB := d2.name 1 (nI j) (nI (2000 + A))
    rw [bnd_s d1, bnd_s nb]
    obtain ⟨gc', z1, z3, z4⟩ := named_both (K := 63) (p := j) (x := j) (gr := sI (sI gr1 10 1) 10 0) (h := h) (d := d) (x4.rd x4.1 x4.2.1 rfl rfl) (by omega) (by unfold opN; omega) hK
    have e12' : gI (sI gr1 10 1) 12 = nI (ta G j) := e12
    have e13' : gI (sI gr1 10 1) 13 = nI (te G j - ta G j) := e13
    have rb := behind_name (gr := sI gr1 10 1) (gs := gs1) (gc := gc1) (hP := hP) (gc2 := gc') (fun z => h91 (e47.mp z)) (by rw [e12', e13']; exact z1)
    have st2 : stp n hP gt g2 (gr1, gs1, gc1, 4) = some (sI (sI gr1 10 1) 10 0, gs1, gc', 3) := stp_leave (by rw [if_neg (by decide), if_neg (by decide)]; exact rb) (.inl rfl)
    have nkF : Nk g (nameG (actG (sI g1 20 (nI (j + 1))) A 4 0 (nI (ta G j))) M 1 (nI j) (nI (2000 + A))) 0 M := (Nk.fr 0 M (X := [14, 15, 16, 17, 19, 20, 23, 24]) (((x6.mono (by decide)).trans (Fr.sI (by decide) _ _)).trans ((actG_fr _ _ _ _ _).mono (by decide))) (by decide)).trans (nameG_nk _ _ _ _ _) (by omega) (by omega)
    refine ⟨1, _, rfl, .inl ⟨rfl, j + 1, ?_, TC7 _⟩⟩
    refine Pd.leaf (N' := N + 1) (A' := A + 1) (M' := M + 1) (mm := 1) (E' := upE E A (63, j, j)) (Gos.add (Gos.one (show ¬ (4 : Int32) ≤ 1 by decide) st2) G1) (by omega) (by omega) ⟨yB, z3, x5, ta1, hT1, by omega, by omega, by omega, by omega, by omega⟩ ⟨((fr1.mono (by decide)).trans (Fr.sI (by decide) _ _)).trans (Fr.sI (by decide) _ _), fun i _ => fr1.rows (by decide) i, fs1, FC.trans ⟨x8.mono (by decide), x9⟩ (FC.of z4 (by decide) (by decide)), nkF⟩ ⟨by omega, by omega, by omega, by omega, by omega⟩ (fun i hi => by rw [upE_n (by omega)]) ?_ (.inl ⟨rfl, by rw [upE_s]; exact .inr (.inr (.inr (.inl rfl)))⟩)
    exact Nm.one (t := j) (by omega) w29 w30 w31 w32 (by rw [w28, upE_s]; rfl) (by rw [upE_s]; exact .inl rfl) (by rw [upE_s]) (Nat.le_refl _) (by omega)
