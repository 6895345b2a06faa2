/-! parsing: ? and : -/
theorem PF_cl1 {o : Nat} (h : PF 1 o) : clsd o 0 false := by
  rcases h with z | z | z
  · exact .inl z
  · exact .inr (.inr (.inl (by omega)))
  · omega
theorem ask_sign {n hP L T : Nat} {g2 G gt : Gs} {B : Nat → Nat} {g gr gs gc gA : Gs} {j h d N A M jA : Nat} {E : Nat → Nat × Nat × Nat} (hS : ScR n g2 L B G T) (hn : 20000 ≤ n) (hp : Pd n hP L T g2 G gt B 1 g gr gs gc j h d N A M E gA jA) (hK : tk G jA = 63) (hb : Bl gr h 0) (hh : h + 1 ≤ 7 * d + 1) : gI gA 25 = nI d ∧ (d = 40 → Rfd n hP L T g2 G gt B gr gs gc j jA) ∧ (d < 40 → ∃ g1 v gr2 gs2 gc2 N1 A0 M1 mm E1, f_X12_node (sI gA 25 (nI (d + 1))) (nI jA) = some g1 ∧ gI g1 20 = nI jA ∧ Fr parA G g1 ∧ A0 < 6000 ∧ f_X12_act (sI g1 20 (nI (jA + 1))) 17 0 (nI (ta G jA)) = some (nI (2000 + A0), actG (sI g1 20 (nI (jA + 1))) A0 17 0 (nI (ta G jA))) ∧ Op n hP L T g2 G gt B 44 (jA + 1) jA v 0 g gr gs gc j h d N A M E (actG (sI g1 20 (nI (jA + 1))) A0 17 0 (nI (ta G jA))) gr2 gs2 gc2 N1 (A0 + 1) M1 E1 ∧ (3 * A0 + 5 * N + 7 ≤ 5 * N1 + 3 * A ∧ N1 + j ≤ N + jA + 1 ∧ M1 + j ≤ M + jA + 1 ∧ A ≤ A0 ∧ M ≤ M1) ∧ (∀ i, i < A → E1 i = E i) ∧ Nm G (actG (sI g1 20 (nI (jA + 1))) A0 17 0 (nI (ta G jA))) E1 A A0 M M1 j (jA + 1) ∧ Eg E1 mm A A0 ∧ E1 A0 = (69, jA, 9999) ∧ (gI gc2 10 = 0 → v = nI A0)) := by
  obtain ⟨c, m, N', A', M', mm, E', gr0, gs0, gc0, gr1, gc1, p1, p2, p3, p4, p5, p6, p7, p8, p9, ⟨p10, p11, p12, p13, p14⟩, p15, p16, p17⟩ := hp
  obtain ⟨m1, m2, m3, m4, m5, m6, m7, m8, m9, m10⟩ := id p8
  have hT := hS.2.2.1
  have hL : L ≤ 3000 := m4.1.1
  have k3 := (hS.tok m5).2.2.1
  have kk : kc (tk G jA) = 44 := (kcs k3).2.2.2.2.2.2.2.2.2.2.2.2.2.2.2.mpr hK
  have hT1 := tok_more hS m5 (by omega)
  have h4s : gI gs0 4 = 44 := by rw [m4.2.1, kk]; rfl
  have h5s : gI gs0 5 = nI (ta G jA) := m4.2.2.1
  have cl := pend_close (r := 1) (ρ := 0) (e := false) hn (by omega) p4 p5 p6 p7 (fun o _ => PF_cl1) (fun z => by
    obtain ⟨o, o1, o2, o3⟩ := hb z
    refine ⟨o, by rw [(p9.2.1 (h - 1) (by omega)).1]; exact o1, o2, ?_⟩
    rcases o3 with o3 | ⟨o3, o4⟩
    · omega
    · rintro (y | y | y | y)
      · exact o4 y
      · exact absurd y.2 (by decide)
      · omega
      · omega)
  have f10 : gI gr1 10 = 1 := by
    have sh := (clo_shape (h := h) (s := (sI gr0 10 1, gc0)) p5 p4).2
    rw [(sh 10 (by decide)).1]; rfl
  have rs : f_X5_readSign n hP (sI gr0 10 1) gs0 gc0 = bnd (f_X5_readQuestion hP gr1 gs0 gc1) (fun q => some (q.1, q.2.1, q.2.2)) := by
    unfold f_X5_readSign b_X5_readSign_43
    rw [h4s, bnd_s (show f_X5_rankOf 44 = some 0 from rank7 (o := 44) (by decide)), if_pos (show (0 : Int32) ≤ 0 by decide), if_pos rfl, bnd_s (show f_X5_closeParts n hP (sI gr0 10 1) gc0 0 0 = some (gr1, gc1) from cl), if_pos rfl]
  refine ⟨m1.2.2.1, fun hd => ?_, fun hd => ?_⟩
  · have aq := ask_no (gr := gr1) (gs := gs0) (gc := gc1) (hP := hP) (by rw [m2.2.1, hd])
    have st : stp n hP gt g2 (gr0, gs0, gc0, 3) = some (gr1, gs0, gc1, 0) := stp_leave (by rw [if_pos rfl, rs, bnd_s aq]) (.inr (by decide))
    exact ⟨by omega, m5, _, gr1, gs0, gc1, Gos.add (Gos.one (show ¬ (3 : Int32) ≤ 1 by decide) st) p1, by omega, m4, p9.1, p9.2.2.1, p9.2.2.2.1.1⟩
  · have m1' : RfS G (sI gA 25 (nI (d + 1))) jA (d + 1) N' A' M' E' := m1.fr (X := [25]) (Fr.sI (by decide) _ _) (by decide) (by decide) m1.2.1 rfl m1.2.2.2.1
    obtain ⟨g1, gr1', gc1', x1, x2, x3, x4, x5, x6, x7, x8, x9⟩ := node_both (p := jA) hS m1' m2 m3 hL m5 (by omega)
    obtain ⟨v, gc2, w1, w2, w3, w4⟩ := add_both (K := 69) (p := jA) (x := 9999) x4 (by omega) (by decide) (by decide) (by unfold opN; omega) (fun _ => rfl) (by decide)
    have aq := ask_open (gr := gr1) (gs := gs0) (gc := gc1) (gr2 := gr1') (gc2 := gc1') (hP := hP) (h := h) (d := d) (q := (v, gc2)) x4.2.2.1 m2.2.1 hd (by rw [h5s]; exact x2) x4.1 (by omega) x4.2.1 (by rw [h5s]; exact w1)
    obtain ⟨gs2, a1, a2, a3⟩ := m4.next hS hT1
    have f10' : gI gr1' 10 = 1 := by rw [(x7 10 (by decide)).1]; exact f10
    have st : stp n hP gt g2 (gr0, gs0, gc0, 3) = some (pushG (sI gr1' 9 (nI (d + 1))) h 44 (gI gs0 5) v 0, gs2, gc2, 2) := stp_take (by rw [if_pos rfl, rs, bnd_s aq]) f10' (by decide) a1
    have xB : RfS G (sI g1 20 (nI (jA + 1))) (jA + 1) (d + 1) (N' + 1) A' M' E' := x3.fr (X := [20]) (Fr.sI (by decide) _ _) (by decide) (by decide) rfl x3.2.2.1 x3.2.2.2.1
    obtain ⟨e14, e15, e17⟩ := actG_at (sI g1 20 (nI (jA + 1))) A' 17 0 (nI (ta G jA))
    obtain ⟨b1, b2⟩ := xB.act (o := 17) (a := 0) (p := nI (ta G jA)) (q := (69, jA, 9999)) (by omega) (re_J (by unfold opJ; omega) e14 e17 (fun z => absurd rfl z))
    have nk : Nk gA (actG (sI g1 20 (nI (jA + 1))) A' 17 0 (nI (ta G jA))) 0 M' := Nk.fr 0 M' (X := [14, 15, 16, 17, 19, 20, 23, 24, 25]) ((((Fr.sI (by decide) _ _).trans (x6.mono (by decide))).trans (Fr.sI (by decide) _ _)).trans ((actG_fr _ _ _ _ _).mono (by decide))) (by decide)
    have fr2 : Fr [9, 16] gr1 (sI gr1' 9 (nI (d + 1))) := (x7.mono (by decide)).trans (Fr.sI (by decide) _ _)
    refine ⟨g1, v, _, gs2, gc2, N' + 1, A', M', mm, upE E' A' (69, jA, 9999), x1, x3.2.1, x3.1, by omega, b1, ⟨by omega, ⟨c + 1, Gos.add (Gos.one (show ¬ (3 : Int32) ≤ 1 by decide) st) p1, by omega⟩, ⟨b2, w3.rd rfl rfl rfl rfl, x5, a2, hT1, by omega, by omega, by omega, by omega, by omega⟩, ?_, pushG_rows.2.1, by rw [pushG_rows.2.2.1, h5s], pushG_rows.2.2.2.1, pushG_rows.2.2.2.2⟩, ⟨by omega, by omega, by omega, by omega, by omega⟩, fun i hi => by rw [upE_n (by omega)]; exact p15 i hi, (p16.wide (Nat.le_refl _) (by omega)).keep (K := 0) (K' := M') nk (by omega) (by omega) (fun a _ a2 _ => upE_n (by omega)), p17.ext (fun i _ i2 => upE_n (by omega)), upE_s _ _ _, fun z => w2 (by rw [← (w4 10 (by decide)).1]; exact z)⟩
    refine p9.trans (h' := h) (M' := M') ⟨(fr2.mono (by decide)).trans ((pushG_fr _ _ _ _ _ _).mono (by decide)), fun i hi => ?_, a3, FC.trans ⟨x8.mono (by decide), x9⟩ (FC.of w4 (by decide) (by decide)), nk⟩ (by omega) (by omega)
    obtain ⟨y1, y2, y3, y4⟩ := (pushG_rows (gr := sI gr1' 9 (nI (d + 1))) (h := h) (o := 44) (p := gI gs0 5) (m := v) (x := 0)).1 i hi
    obtain ⟨z1, z2, z3, z4⟩ := fr2.rows (by decide) i
    exact ⟨y1.trans z1, y2.trans z2, y3.trans z3, y4.trans z4⟩
theorem lv_formula {n hP L T : Nat} {g2 G gt : Gs} {B : Nat → Nat} {D : Nat} {rc : RCT} (hS : ScR n g2 L B G T) (hn : 20000 ≤ n) (hF1 : LV n hP L T g2 G gt B 1 9 D (fun g => rc.2.2.2.2.2.2.2.1 g 252)) (hF : LV n hP L T g2 G gt B 0 10 D rc.2.2.2.2.2.2.2.2) : LV n hP L T g2 G gt B 0 10 (D + 1) (f_X12_formula n rc) := by
  intro g gr gs gc j h d N A M E hm hb hh hD
  have D20 : d < 40 → 10 * (40 - (d + 1)) + 10 ≤ D := by intro z; omega
  have hT := hS.2.2.1
  have bd := hm.bd
  obtain ⟨b, gA, f1, f2⟩ := hF1 g gr gs gc j h d N A M E hm (hb.up (by omega)) (by omega) (by omega)
  unfold f_X12_formula
  rw [bnd_s f1]
  rcases f2 with ⟨rfl, jA, hp, ht⟩ | ⟨rfl, o1, o2⟩ | ⟨rfl, o1⟩
  · obtain ⟨a1, a2, a3, a4⟩ := hp.at
    obtain ⟨t1, t2, t3, t4, t5, t6⟩ := tok9 hS a1 a2 a3
    show ∃ b g', grd (inB (gI gA 20) 3001) (if gIA gA 9 (gI gA 20).toNatClampNeg = (63 : Int32) then _ else some ((1 : Int32), gA)) = some (b, g') ∧ _
    rw [grd_t t1, t2, t3]
    by_cases h63 : tk G jA = 63
    · rw [ifP (c := 63) (b := 63) rfl h63]
      obtain ⟨e25, r1, r2⟩ := ask_sign hS hn hp h63 hb (by omega)
      have dp := deeper12 hS a1 a2 a3 e25 bd.2.2.2.2
      by_cases hd : d = 40
      · rw [if_pos hd] at dp
        rw [bnd_s dp]
        exact ⟨0, _, rfl, .inr (.inr ⟨rfl, Rf.of a1 (r1 hd)⟩)⟩
      · rw [if_neg hd] at dp
        obtain ⟨g1, v, gr2, gs2, gc2, N1, A0, M1, mm, E1, x1, x2, x3, x4, x5, hO, ⟨y1, y2, y3, y4, y5⟩, hE1, hN1, hEg, hEA, hv⟩ := r2 (by omega)
        obtain ⟨b, gC, f3, f4⟩ := inner hS hn hO (.inr (.inr (.inr rfl))) hF (by omega) (by omega) (by omega)
        have e20 : gI (sI gA 25 (nI (d + 1))) 20 = nI jA := a2
        rw [bnd_s dp]
        show ∃ b g', bnd (f_X12_node (sI gA 25 (nI (d + 1))) (gI (sI gA 25 (nI (d + 1))) 20)) _ = some (b, g') ∧ _
        rw [e20, bnd_s x1, grd_t (inB_nI (by omega) (by decide)), x2, nI_1, nI_clamp (show jA < 2 ^ 31 by omega), (go_act hS a3 x3).2, bnd_s x5, bnd_s f3]
        have fN : ∀ {jj : Nat}, Fr parA G gC → gI gC 20 = nI jj → jj < T → f_X12_need gC 58 = if tk G jj = 58 then some (1, sI gC 20 (nI (jj + 1))) else some (0, sI (sI gC 21 1) 22 (nI (ta G jj))) := fun hf h20 hj => need12 (K := 58) hS hf h20 hj (by decide)
        rcases f4 with ⟨rfl, j3, o1, o2, o3⟩ | ⟨rfl, j', A', c1, c2, c3, c4, c5, c6, c7⟩ | ⟨rfl, o1⟩
        · obtain ⟨q1, ⟨cq, q2, q3⟩, q4, q5, q6, q7, q8, q9⟩ := hO
          obtain ⟨c, N', A', M', mm', E', gr0, gs0, gc0, gr3, gc3, p1, p2, p3, p8, p9, ⟨p10, p11, p12, p13, p14⟩, p15, p16, p17, ⟨w4, w5, w6, w7⟩, f10, s1, s2, s3, s4⟩ := pd_close hS hn o1 o2 q6 (.inr (.inr (.inr rfl)))
          obtain ⟨R1, R2, R3, R4, R5, R6, R7, R8, R9, R10⟩ := id p8
          have nd := fN R1.1 R1.2.1 R5
          rw [if_neg (show ¬ (1 : Int32) = 0 by decide)]
          by_cases h58 : tk G j3 = 58
          · rw [if_pos h58] at nd
            have k40 := (kcs (hS.tok R5).2.2.1).2.2.2.2.2.2.2.2.2.2.2.2.2.1.mpr h58
            have hT3 := tok_more hS R5 (by omega)
            obtain ⟨gs3, b1, b2, b3⟩ := R4.next hS hT3
            have hEA' : E' A0 = (69, jA, 9999) := by rw [p15 A0 (by omega)]; exact hEA
            obtain ⟨grE, gcE, u1, u2, u3, u4, u5, u6, u7, u8⟩ := else_both (p := jA) (m := A0) (p' := jA) R2 R9 (by omega) (w5.trans q7) (fun z => by rw [w6, q8]; exact hv (p9.2.2.2.1.2 z)) (by omega) hEA'
            have f10E : gI grE 10 = 1 := by rw [(u3 10 (by decide)).1]; exact f10
            have st : stp n hP gt g2 (gr0, gs0, gc0, 3) = some (grE, gs3, gcE, 2) := stp_take (by rw [if_pos rfl, s1 k40, if_pos rfl, bnd_s u1]) f10E (by decide) b1
            have xB : RfS G (sI gC 20 (nI (j3 + 1))) (j3 + 1) (d + 1) N' A' M' E' := R1.fr (X := [20]) (Fr.sI (by decide) _ _) (by decide) (by decide) rfl R1.2.2.1 R1.2.2.2.1
            obtain ⟨e14, e15, e17⟩ := actG_at (sI gC 20 (nI (j3 + 1))) A' 18 0 (nI (ta G jA))
            obtain ⟨d1, d2⟩ := xB.act (o := 18) (a := 0) (p := nI (ta G jA)) (q := (70, jA, 9999)) (by omega) (re_J (by unfold opJ; omega) e14 e17 (fun z => absurd rfl z))
            have d3 := d2.patch (m := A0) (x := A') (o := 69) (p := jA) (by omega) (by rw [upE_n (by omega)]; exact hEA') (by unfold opJ; omega)
            have e19 : gI (actG (sI gC 20 (nI (j3 + 1))) A' 18 0 (nI (ta G jA))) 19 = nI (2000 + A' + 1) := rfl
            have fD : Fr [14, 15, 16, 17, 19, 20] gC (sIA (actG (sI gC 20 (nI (j3 + 1))) A' 18 0 (nI (ta G jA))) 15 (upd (gIA (actG (sI gC 20 (nI (j3 + 1))) A' 18 0 (nI (ta G jA))) 15) (2000 + A0) (nI (2000 + A' + 1)))) := ((Fr.sI (by decide) _ _).trans ((actG_fr _ _ _ _ _).mono (by decide))).trans (Fr.sIA (by decide) _ _)
            have mD : MS n hP L T g2 G gt B (sIA (actG (sI gC 20 (nI (j3 + 1))) A' 18 0 (nI (ta G jA))) 15 (upd (gIA (actG (sI gC 20 (nI (j3 + 1))) A' 18 0 (nI (ta G jA))) 15) (2000 + A0) (nI (2000 + A' + 1)))) grE gs3 gcE (j3 + 1) (h + 1) (d + 1) N' (A' + 1) M' (upE (upE E' A' (70, jA, 9999)) A0 (69, jA, A')) := ⟨d3, u2, ⟨R3.1.trans ((u3 16 (by decide)).1).symm, R3.2⟩, b2, hT3, by omega, by omega, by omega, by omega, by omega⟩
            have kD : Kp gr gs gc g grE gs3 gcE (sIA (actG (sI gC 20 (nI (j3 + 1))) A' 18 0 (nI (ta G jA))) 15 (upd (gIA (actG (sI gC 20 (nI (j3 + 1))) A' 18 0 (nI (ta G jA))) 15) (2000 + A0) (nI (2000 + A' + 1)))) h M := by
              refine q5.trans ((p9.low (h' := h) (M' := M) (by omega) (by omega)).trans (h' := h) (M' := M) ⟨u3.mono (by decide), fun i hi => ⟨(u8 i hi).1, by rw [(u3 5 (by decide)).2.2.2.1], (u8 i hi).2, by rw [(u3 7 (by decide)).2.2.2.1]⟩, b3, FC.of u4 (by decide) (by decide), Nk.fr 0 M fD (by decide)⟩ (by omega) (by omega)) (by omega) (by omega)
            have GD := Gos.add (Gos.one (show ¬ (3 : Int32) ≤ 1 by decide) st) (Gos.add p1 q2)
            have D1 : h + 1 + 1 ≤ 7 * (d + 1) + max 0 1 := by omega
            have D2 := D20 (by omega)
            obtain ⟨b, gF, f5, f6⟩ := hF _ grE gs3 gcE (j3 + 1) (h + 1) (d + 1) N' (A' + 1) M' _ mD (fun _ => ⟨70, u5, by decide, .inr ⟨by decide, by unfold isA; decide⟩⟩) D1 D2
            have yC := (go_act hS a3 (R1.1.trans (Fr.sI (k := 20) (by decide) gC (nI (j3 + 1))))).2
            rw [bnd_s nd]
            show ∃ b g', grd (inB (nI jA) 3001) (bnd (f_X12_act (sI gC 20 (nI (j3 + 1))) 18 0 (gIA (sI gC 20 (nI (j3 + 1))) 10 jA)) _) = some (b, g') ∧ _
            rw [grd_t (inB_nI (by omega) (by decide)), yC, bnd_s d1, grd_t (inB_nI (by omega) (by decide)), nI_clamp (show 2000 + A0 < 2 ^ 31 by omega), e19, bnd_s f5]
            rcases f6 with ⟨rfl, j4, i1, i2⟩ | ⟨rfl, _, i1⟩ | ⟨rfl, jj, i1, i2, i3, i4⟩
            · obtain ⟨cc, m2, N2, A2, M2, mm2, E2, gr02, gs02, gc02, gr12, gc12, k1, k2, k3, k4, k5, k6, k7, k8, k9, ⟨k10, k11, k12, k13, k14⟩, k15, k16, k17⟩ := i1
              obtain ⟨S1, S2, S3, S4, S5, S6, S7, S8, S9, S10⟩ := id k8
              have sh := (clo_shape (h := h + 1) (s := (sI gr02 10 1, gc02)) k5 k4).2
              have e4 : gIA gr02 4 = gIA gr12 4 := ((sh 4 (by decide)).2.2.2.1).symm
              obtain ⟨z1, z2, z3, z4⟩ := k9.2.1 h (by omega)
              have hE2 : E2 A' = (70, jA, 9999) := by rw [k15 A' (by omega), upE_n (by omega), upE_s]
              obtain ⟨gr', gc', v1, v2, v3, v4⟩ := pop_else (p := jA) (m := A') (p' := jA) S2 S9 (by omega) (z1.trans u5) (z2.trans u6) (fun z => z3.trans (u7 (k9.2.2.2.1.2 z))) (by omega) hE2
              have mF : RfS G (sI gF 25 (nI d)) j4 d N2 A2 M2 E2 := S1.fr (X := [25]) (Fr.sI (by decide) _ _) (by decide) (by decide) S1.2.1 rfl S1.2.2.2.1
              obtain ⟨l14, l15, l17⟩ := actG_at (sI gF 25 (nI d)) A2 19 (nI (2000 + A')) (nI (ta G jA))
              obtain ⟨h1, h2⟩ := mF.act (o := 19) (a := nI (2000 + A')) (p := nI (ta G jA)) (q := (44, jA, A')) (by omega) (re_Q l14 l17 l15)
              have h3 := h2.patch (m := A') (x := A2) (o := 70) (p := jA) (by omega) (by rw [upE_n (by omega)]; exact hE2) (by unfold opJ; omega)
              have e192 : gI (actG (sI gF 25 (nI d)) A2 19 (nI (2000 + A')) (nI (ta G jA))) 19 = nI (2000 + A2 + 1) := rfl
              have fF : Fr [14, 15, 16, 17, 19, 25] gF (sIA (actG (sI gF 25 (nI d)) A2 19 (nI (2000 + A')) (nI (ta G jA))) 15 (upd (gIA (actG (sI gF 25 (nI d)) A2 19 (nI (2000 + A')) (nI (ta G jA))) 15) (2000 + A') (nI (2000 + A2 + 1)))) := ((Fr.sI (by decide) _ _).trans ((actG_fr _ _ _ _ _).mono (by decide))).trans (Fr.sIA (by decide) _ _)
              have nk : ∀ X, Nk gF (sIA (actG (sI gF 25 (nI d)) A2 19 (nI (2000 + A')) (nI (ta G jA))) 15 (upd (gIA (actG (sI gF 25 (nI d)) A2 19 (nI (2000 + A')) (nI (ta G jA))) 15) (2000 + A') (nI (2000 + A2 + 1)))) 0 X := fun X => Nk.fr 0 X fF (by decide)
              have yF := (go_act hS a3 (S1.1.trans (Fr.sI (k := 25) (by decide) gF (nI d)))).2
              refine ⟨1, _, ?_, .inl ⟨rfl, j4, ⟨cq + c + 1 + cc, m2 + 1, N2, A2 + 1, M2, mm + mm' + mm2 + 1, upE (upE E2 A2 (44, jA, A')) A' (70, jA, A2), gr02, gs02, gc02, gr', gc', Gos.add k1 GD, by omega, by omega, clo_add (clo_one v1) k4, by rw [k5, show h + 1 + m2 = h + (m2 + 1) by omega], by omega, fun i i1 i2 => ?_, ⟨h3, v2, ⟨S3.1.trans ((v3 16 (by decide)).1).symm, S3.2⟩, S4, S5, by omega, by omega, S8, by omega, S10⟩, kD.trans (k9.trans (h' := h + 1) (M' := M') ⟨v3.mono (by decide), fun i _ => v3.rows (by decide) i, Fr.refl _ _, FC.of v4 (by decide) (by decide), nk _⟩ (by omega) (by omega)) (by omega) (by omega), ⟨by omega, by omega, by omega, by omega, by omega⟩, fun i hi => by rw [upE_n (by omega), upE_n (by omega), k15 i (by omega), upE_n (by omega), upE_n (by omega), p15 i (by omega)]; exact hE1 i hi, ?_, ?_⟩, i2⟩⟩
              · show (if (1 : Int32) = 0 then _ else _) = _
                rw [if_neg (show ¬ (1 : Int32) = 0 by decide)]
                show grd (inB (nI jA) 3001) (bnd (f_X12_act (sI gF 25 (gI gF 25 - 1)) 19 (nI (2000 + A')) (gIA (sI gF 25 (gI gF 25 - 1)) 10 jA)) _) = _
                rw [grd_t (inB_nI (by omega) (by decide)), S1.2.2.1, nI_pred d, yF, bnd_s h1, grd_t (inB_nI (by omega) (by decide)), nI_clamp (show 2000 + A' < 2 ^ 31 by omega), e192]
              · by_cases hi : i = h
                · exact ⟨70, by rw [hi, e4]; exact z1.trans u5, by decide, .inr (.inr ⟨rfl, rfl⟩)⟩
                · exact k7 i (by omega) (by omega)
              · have n1 := hN1.keep (g' := _) (E' := upE (upE E2 A2 (44, jA, A')) A' (70, jA, A2)) ((((p9.2.2.2.2.trans (Nk.fr 0 M1 fD (by decide)) (by omega) (by omega))).trans (k9.2.2.2.2) (by omega) (by omega)).trans (nk M1) (by omega) (by omega)) (by omega) (by omega) (fun a _ a2 _ => by rw [upE_n (by omega), upE_n (by omega), k15 a (by omega), upE_n (by omega), upE_n (by omega), p15 a (by omega)])
                have n0 : Nm G (sIA (actG (sI gF 25 (nI d)) A2 19 (nI (2000 + A')) (nI (ta G jA))) 15 (upd (gIA (actG (sI gF 25 (nI d)) A2 19 (nI (2000 + A')) (nI (ta G jA))) 15) (2000 + A') (nI (2000 + A2 + 1)))) (upE (upE E2 A2 (44, jA, A')) A' (70, jA, A2)) A0 (A0 + 1) M1 M1 (jA + 1) (jA + 1) := Nm.none (by rw [upE_n (by omega), upE_n (by omega), k15 A0 (by omega), upE_s]; show ¬ ((69 : Nat) = 63 ∨ (69 : Nat) = 16 ∨ (69 : Nat) = 64); decide)
                have n2 := p16.keep (g' := _) (E' := upE (upE E2 A2 (44, jA, A')) A' (70, jA, A2)) (((Nk.fr 0 M' fD (by decide)).trans (k9.2.2.2.2) (by omega) (by omega)).trans (nk M') (by omega) (by omega)) (by omega) (by omega) (fun a a1 a2 _ => by rw [upE_n (by omega), upE_n (by omega), k15 a (by omega), upE_n (by omega), upE_n (by omega)])
                have n3 : Nm G (sIA (actG (sI gF 25 (nI d)) A2 19 (nI (2000 + A')) (nI (ta G jA))) 15 (upd (gIA (actG (sI gF 25 (nI d)) A2 19 (nI (2000 + A')) (nI (ta G jA))) 15) (2000 + A') (nI (2000 + A2 + 1)))) (upE (upE E2 A2 (44, jA, A')) A' (70, jA, A2)) A' (A' + 1) M' M' j3 (j3 + 1) := (Nm.none (by rw [upE_s]; show ¬ ((70 : Nat) = 63 ∨ (70 : Nat) = 16 ∨ (70 : Nat) = 64); decide)).wide (Nat.le_refl _) (by omega)
                have n4 := k16.keep (g' := _) (E' := upE (upE E2 A2 (44, jA, A')) A' (70, jA, A2)) (nk M2) (by omega) (by omega) (fun a a1 a2 _ => by rw [upE_n (by omega), upE_n (by omega)])
                have n5 : Nm G (sIA (actG (sI gF 25 (nI d)) A2 19 (nI (2000 + A')) (nI (ta G jA))) 15 (upd (gIA (actG (sI gF 25 (nI d)) A2 19 (nI (2000 + A')) (nI (ta G jA))) 15) (2000 + A') (nI (2000 + A2 + 1)))) (upE (upE E2 A2 (44, jA, A')) A' (70, jA, A2)) A2 (A2 + 1) M2 M2 j4 j4 := Nm.none (by rw [upE_n (by omega), upE_s]; show ¬ ((44 : Nat) = 63 ∨ (44 : Nat) = 16 ∨ (44 : Nat) = 64); decide)
                exact ((((n1.join n0 (by omega) (by omega) (by omega) (by omega) (by omega) (by omega)).join n2 (by omega) (by omega) (by omega) (by omega) (by omega) (by omega)).join n3 (by omega) (by omega) (by omega) (by omega) (by omega) (by omega)).join n4 (by omega) (by omega) (by omega) (by omega) (by omega) (by omega)).join n5 (by omega) (by omega) (by omega) (by omega) (by omega) (by omega)
              · refine .inr (.inr (.inr (.inr ⟨A0, A', A2, rfl, ?_, ?_, ?_, ?_, ?_, ?_, ?_, ?_, ?_⟩)))
                · exact (hEg.ext (fun i _ i2 => by rw [upE_n (by omega), upE_n (by omega), k15 i (by omega), upE_n (by omega), upE_n (by omega), p15 i (by omega)])).mono (by omega)
                · rw [upE_n (by omega), upE_n (by omega), k15 A0 (by omega), upE_s]
                · rw [upE_n (by omega), upE_n (by omega), k15 A0 (by omega), upE_s]
                · exact (p17.ext (fun i i1 i2 => by rw [upE_n (by omega), upE_n (by omega), k15 i (by omega), upE_n (by omega), upE_n (by omega)])).mono (by omega)
                · rw [upE_s]
                · rw [upE_s]
                · exact (k17.ext (fun i i1 i2 => by rw [upE_n (by omega), upE_n (by omega)])).mono (by omega)
                · rw [upE_n (by omega), upE_s]
                · rw [upE_n (by omega), upE_s]
            · obtain ⟨j', N2, A2, l1, l2, l3, l4, l5, l6⟩ := i1
              have lt := l6.2.1
              have yF := (go_act hS a3 (l3.trans (Fr.sI (k := 25) (by decide) gF (gI gF 25 - 1)))).2
              have h1 := act12 (g := sI gF 25 (gI gF 25 - 1)) (A := A2) (o := 19) (a := nI (2000 + A')) (p := nI (ta G jA)) l2 (by omega)
              refine ⟨1, sIA (actG (sI gF 25 (gI gF 25 - 1)) A2 19 (nI (2000 + A')) (nI (ta G jA))) 15 (upd (gIA (actG (sI gF 25 (gI gF 25 - 1)) A2 19 (nI (2000 + A')) (nI (ta G jA))) 15) (2000 + A') (nI (2000 + A2 + 1))), ?_, .inr (.inl ⟨rfl, by omega, j', N2, A2 + 1, l1, rfl, (((l3.trans (Fr.sI (by decide) _ _)).trans ((actG_fr _ _ _ _ _).mono (by decide)))).trans (Fr.sIA (by decide) _ _), ⟨by omega, by omega, by omega⟩, l5, l6.after GD (by omega) (by omega) kD⟩)⟩
              show grd (inB (nI jA) 3001) (bnd (f_X12_act (sI gF 25 (gI gF 25 - 1)) 19 (nI (2000 + A')) (gIA (sI gF 25 (gI gF 25 - 1)) 10 jA)) _) = _
              rw [grd_t (inB_nI (by omega) (by decide)), yF, bnd_s h1, grd_t (inB_nI (by omega) (by decide)), nI_clamp (show 2000 + A' < 2 ^ 31 by omega)]; rfl
            · exact ⟨0, gF, rfl, .inr (.inr ⟨rfl, jj, i1, i2, i3, i4.after GD (by omega) (by omega) kD⟩)⟩
          · rw [if_neg h58] at nd
            rw [bnd_s nd]
            refine ⟨0, _, rfl, .inr (.inr ⟨rfl, Rf.of R1.1 (o3 (fun z => h58 ?_))⟩)⟩
            exact (kcs (hS.tok R5).2.2.1).2.2.2.2.2.2.2.2.2.2.2.2.2.1.mp (by unfold Fits at z; omega)
        · have nd := fN c5 c1 c4
          rw [if_neg c6.2.2.2] at nd
          rw [if_neg (show ¬ (1 : Int32) = 0 by decide), bnd_s nd]
          exact ⟨0, _, rfl, .inr (.inr ⟨rfl, Rf.of c5 c7⟩)⟩
        · exact ⟨0, gC, rfl, .inr (.inr ⟨rfl, o1⟩)⟩
    · rw [ifN (c := 63) (b := 63) rfl t6 (by decide) h63]
      refine ⟨1, gA, rfl, .inl ⟨rfl, jA, hp.up, ?_⟩⟩
      unfold TC at ht ⊢
      rw [if_neg (by omega)] at ht
      rw [if_pos rfl]
      exact ⟨by omega, fun z => h63 ((kcs t5).2.2.2.2.2.2.2.2.2.2.2.2.2.2.2.mp z)⟩
  · obtain ⟨j', A', a1, a2, a3, a4, a5, a6⟩ := o2.bd bd.1 bd.2.1 hT
    obtain ⟨t1, t2, t3, t4, t5, t6⟩ := tok9 hS a5 a1 a4
    show ∃ b g', grd (inB (gI gA 20) 3001) (if gIA gA 9 (gI gA 20).toNatClampNeg = (63 : Int32) then _ else some ((1 : Int32), gA)) = some (b, g') ∧ _
    rw [grd_t t1, t2, t3, ifN (c := 63) (b := 63) rfl t6 (by decide) (fun z => by rw [z] at a6; revert a6; decide)]
    exact ⟨1, gA, rfl, .inr (.inl ⟨rfl, by omega, o2.down (by omega)⟩)⟩
  · exact ⟨0, gA, rfl, .inr (.inr ⟨rfl, o1⟩)⟩
