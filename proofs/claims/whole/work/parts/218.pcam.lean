/-! plans' texts: a cam's NUMBERs -/
theorem vr_flip {v w w' : Int64} {d : UInt64} (h : VR 7 v w d) : VR 7 (v ^^^ (-9223372036854775808 : Int64)) w' (FP.dneg d) := by
  obtain ⟨h1, s, u, h2⟩ := VR.seven.mp h
  rw [← h1] at h2 ⊢
  exact VR.seven.mpr ⟨dv_flip h2, !s, u, dv_neg h2⟩
theorem tooth_val {n L T : Nat} {g2 gt g gX gs : Gs} {B : Nat → Nat} {j : Nat} (hn : 20000 ≤ n) (hS : ScR n g2 L B g T) (ht : TokAt L B g gt j gs) (hj : j < T) (hk : tk g j = 3) (hx : gLA gX 12 = gLA g 12) : ∃ v gY, f_X12_become n gX (gLA gX 12 j) (nI (ts g j)) 7 = some (v, gY) ∧ Sc gX gY ∧ gI gs 7 = nI (ts g j) ∧ ts g j ≤ 7 ∧ VR 7 v 0 (if ts g j < 6 then FP.l2d (gL gs 8) else gD gs 9) := by
  obtain ⟨_, _, _, s4, _, _⟩ := hS
  obtain ⟨a1, a2, a3, a4, ⟨b1, b2, b3, b4, b5, b6, b7, b8, b9⟩, _⟩ := s4 j hj
  obtain ⟨c1, c2, c3⟩ := b6 hk
  obtain ⟨d1, d2⟩ := ht.2.2.2.2.2 hk
  rw [hx]
  by_cases h7 : ts g j = 7
  · rw [h7] at d2 ⊢
    refine ⟨gLA g 12 j, gX, ?_, Sc.refl _, by rw [d1, h7], by omega, ?_⟩
    · unfold f_X12_become; rw [if_pos (show nI 7 = (7 : Int32) from rfl)]
    · rw [if_neg (by omega)]
      exact VR.seven.mpr (VR.seven.mp d2)
  · obtain ⟨r, gY, e1, e2, e3⟩ := become_val (n := n) (g := gX) (t := 7) (by omega) (show 1 ≤ ts g j by omega) (by omega) (by decide) (by decide) h7 d2
    refine ⟨r, gY, e1, e2, d1, c2, ?_⟩
    rcases e3 with e3 | ⟨z, _⟩
    · by_cases h6 : ts g j = 6
      · rw [h6] at e3 ⊢
        rw [if_neg (by omega)]
        exact VR.seven.mpr (VR.seven.mp e3)
      · rw [if_pos (by omega)]
        have ec : cb (ts g j) 7 (gL gs 8) (gD gs 9) = (gL gs 8, FP.l2d (gL gs 8)) := by
          unfold cb; rw [if_neg (by decide), if_pos rfl, if_neg h6]
        rw [ec] at e3
        exact VR.seven.mpr (VR.seven.mp e3)
    · exact absurd z h7
/-- a cam's NUMBERs so far -/
def CML (n hQ hP L T : Nat) (g2 gt : Gs) (B : Nat → Nat) (g gr gs gp gc : Gs) (j e k th be ca ce : Nat) (num : Int32) : Prop := ∃ N A M f E, MR n hQ hP L T g2 gt B g gr gs gc j N A M f E ∧ (gI g 33 = nI th ∧ gI g 34 = nI be ∧ gI g 35 = nI (ca + 1) ∧ gI g 36 = nI (ce + k)) ∧ (gIA g 54 ca = nI ce ∧ gIA g 55 ca = nI k) ∧ (gI gp 4 = nI (min th 40) ∧ gI gp 5 = nI (min be 12) ∧ gI gp 6 = nI (min ca 8)) ∧ (8 * th ≤ ta g j ∧ 8 * be ≤ ta g j ∧ 8 * ca + 6 + (if k = 0 then 0 else 1) ≤ ta g j ∧ 2 * (ce + k) ≤ j + e) ∧ ((num = nI ca ∧ ca < 8) ∨ (num = -1 ∧ 8 ≤ ca ∧ ¬ gI gc 10 = 0)) ∧ (gI gc 10 = 0 → (th ≤ 40 ∧ be ≤ 12 ∧ ca < 8 ∧ f ≤ 2 * th + be ∧ k ≤ 24) ∧ (1 ≤ k → gIA gp 13 ca = nI k) ∧ (∀ i, i < k → VR 7 (gLA g 56 (ce + i)) 0 (gDA gp 12 (24 * ca + i))) ∧ ∃ FA tn fn rkk, PN T g gt gp gc j th be (ca + 1) f A M E FA ∧ PI g gp gc th be f FA M tn fn rkk ∧ PCm g gp ca ce)
/-- the state with one NUMBER more -/
def cmZ (g : Gs) (ca k ce j : Nat) (v : Int64) : Gs := sI (sI (sLA g 56 (vp_updL (gLA g 56) (ce + k) v)) 36 (nI (ce + k + 1))) 20 (nI j)
theorem cmZ_fr (g : Gs) (ca k ce j : Nat) (v : Int64) : Fr [20, 36, 56] g (cmZ g ca k ce j v) := ((Fr.sLA (by decide) _ _).trans (Fr.sI (by decide) _ _)).trans (Fr.sI (by decide) _ _)
theorem cam_tooth {n hQ hP L T : Nat} {g2 gt : Gs} {B : Nat → Nat} {g gr gs gp gc : Gs} {j k th be ca ce : Nat} {num : Int32} {rec : Gs → Int32 → Int32 → Option (Int32 × Gs)} {rec' : Gs → Gs → Gs → Gs → Gs → Gs → Int32 → Int32 → Int32 → Option (Int32 × Gs × Gs × Gs × Gs)} (hn : 20000 ≤ n) (h : CML n hQ hP L T g2 gt B g gr gs gp gc j 0 k th be ca ce num) :
    (∃ g', h_X12_cam_125 n rec g (nI ca) 1 = some (0, g') ∧ RfI L T gt B g gr gs gp gc g' (h_X5_readCam_51 n hQ hP rec' gr gt gs g2 gp gc num 1 (nI k))) ∨
    (∃ gZ grZ gsZ gpZ gcZ jn, CML n hQ hP L T g2 gt B gZ grZ gsZ gpZ gcZ jn 1 (k + 1) th be ca ce num ∧ j < jn ∧ Fr parP g gZ ∧ Fr rdA gr grZ ∧ Fr scA gs gsZ ∧ Fr plA gp gpZ ∧ Fr cfA gc gcZ ∧
      h_X12_cam_125 n rec g (nI ca) 1 = (if tk gZ jn = 44 then rec (sI gZ 20 (nI (jn + 1))) (nI ca) 1 else rec gZ (nI ca) 0) ∧
      h_X5_readCam_51 n hQ hP rec' gr gt gs g2 gp gc num 1 (nI k) = bnd (f_X5_expect n grZ gt gsZ g2 42) (fun q_14 => rec' grZ gt q_14.2 g2 gpZ gcZ num q_14.1 (nI (k + 1)))) := by
  obtain ⟨N, A, M, f, E, hM, hcn, hcm, hgp, hby, hnum, hopen⟩ := h
  obtain ⟨⟨s1, s2, s3⟩, ⟨a1, a2, a3, a4, a5⟩, c1, ⟨d1, d2⟩, e1, e2, ⟨q1, q2, q3⟩, ⟨r1, r2, r3⟩, o1⟩ := id hM
  have hL : L ≤ 3000 := s2.1.1
  have hT := s1.2.2.1
  have htL := (s1.tok s3).2.2.2.2
  have hca : ca < 400 := by split at hby <;> omega
  have cca : (nI ca).toNatClampNeg = ca := nI_clamp (by omega)
  have hk1 : k ≤ 1501 := by omega
  have b20 : inB (gI g 20) 3001 = true := by rw [a1]; exact inB_nI (by omega) (by decide)
  have c20 : (gI g 20).toNatClampNeg = j := by rw [a1]; exact nI_clamp (by omega)
  obtain ⟨v1, v2, v3, v4, v5⟩ := s1.tok s3
  have k50 : gI gs 4 = 50 ↔ tk g j = 45 := by
    rw [s2.2.1, ← (kk0 _ v3).2.2.2.2.2.2.2.2]
    exact nIx (a := kc (tk g j)) (b := 50) (by have := kc_lt v3; omega) (by decide)
  -- behind the sign
  have sign : ∃ (mi jm : Nat) (gm gsm : Gs), (mi ≤ 1) ∧ (∀ rec, h_X12_cam_125 n rec g (nI ca) 1 = b_X12_cam_163 n rec gm (nI ca) (nI mi)) ∧ (∀ rec', h_X5_readCam_51 n hQ hP rec' gr gt gs g2 gp gc num 1 (nI k) = b_X5_readCam_93 n hQ hP rec' gr gt gsm g2 gp gc num (nI k) (nI mi)) ∧ jm < T ∧ j ≤ jm ∧ gI gm 20 = nI jm ∧ TokAt L B g gt jm gsm ∧ Fr [20] g gm ∧ Fr scA gs gsm := by
    have n3k : ¬ (3000 : Int32) < nI k := nI_nlt (a := 3000) (by omega) (by decide)
    by_cases h45 : tk g j = 45
    · have hT1 := tok_more s1 s3 (by rw [h45]; decide)
      obtain ⟨gs1, b1, b2, b3⟩ := s2.next s1 hT1
      refine ⟨1, j + 1, sI g 20 (nI (j + 1)), gs1, by omega, fun rec => ?_, fun rec' => ?_, hT1, by omega, rfl, b2, Fr.sI (by decide) _ _, b3⟩
      · unfold h_X12_cam_125 b_X12_cam_148
        rw [if_neg (by decide), grd_t b20, c20, v1, ifP (c := 45) (b := 45) rfl h45, if_neg (by decide), a1, nI_1]; rfl
      · unfold h_X5_readCam_51 b_X5_readCam_79
        rw [if_neg n3k, if_neg (by decide), if_pos (k50.mpr h45), if_neg (by decide), bnd_s b1]; rfl
    · refine ⟨0, j, g, gs, by omega, fun rec => ?_, fun rec' => ?_, s3, by omega, a1, s2, Fr.refl _ _, Fr.refl _ _⟩
      · unfold h_X12_cam_125 b_X12_cam_148
        rw [if_neg (by decide), grd_t b20, c20, v1, ifN (c := 45) (b := 45) rfl v4 (by decide) h45, if_pos rfl]; rfl
      · unfold h_X5_readCam_51 b_X5_readCam_79
        rw [if_neg n3k, if_neg (by decide), if_neg (fun z => h45 (k50.mp z)), if_pos rfl]; rfl
  obtain ⟨mi, jm, gm, gsm, hmi, S1, S2, S3, S4, S5, S6, S7, S8⟩ := sign
  rw [S1, S2]
  have hXm : nTk [20] := by decide
  have etm := tok_same S7 hXm
  obtain ⟨w1, w2, w3, w4, w5⟩ := s1.tok S3
  have m9 : gIA gm 9 jm = nI (tk g jm) := by rw [(S7 9 (by decide)).2.2.2.1]; exact w1
  have m10 : gIA gm 10 jm = nI (ta g jm) := by rw [(S7 10 (by decide)).2.2.2.1]; exact w2
  have bm : inB (gI gm 20) 3001 = true := by rw [S5]; exact inB_nI (by omega) (by decide)
  have cm : (gI gm 20).toNatClampNeg = jm := by rw [S5]; exact nI_clamp (by omega)
  have k3' : gI gsm 4 = 3 ↔ tk g jm = 3 := by
    rw [S6.2.1, ← (kk0 _ w3).2.2.2.2.2.2.1]
    exact nIx (a := kc (tk g jm)) (b := 3) (by have := kc_lt w3; omega) (by decide)
  have hMm := hM.go S7 (by decide) S5 S6 S3 S4
  obtain ⟨⟨M1, M2, M3⟩, _⟩ := id hMm
  unfold b_X12_cam_163 b_X5_readCam_93
  rw [grd_t bm, cm, m9]
  by_cases hk3 : tk g jm = 3
  · rw [ifP (c := 3) (b := 3) rfl hk3, if_pos (k3'.mpr hk3), grd_t (inB_nI hca (by decide)), grd_t (inB_nI hca (by decide)), grd_t (inB_nI hca (by decide)), cca, pk_us]
    have m55 : gIA gm 55 ca = nI k := by rw [(S7 55 (by decide)).2.2.2.1]; exact hcm.2
    rw [m55, nI_1]
    have hT1 := tok_more s1 S3 (by rw [hk3]; decide)
    obtain ⟨gsn, n1, n2, n3⟩ := S6.next s1 hT1
    have mono0 := ta_mono s1 (show j ≤ jm + 1 by omega) hT1
    have lenm := s1.len hT1
    have monom := ta_mono s1 (show j ≤ jm by omega) S3
    -- too much?
    have f55 : Fr [20, 55] g (sIA gm 55 (upd (gIA gm 55) ca (nI (k + 1)))) := (S7.mono (by decide)).trans (Fr.sIA (by decide) _ _)
    have tm0 : Tm (sIA gm 55 (upd (gIA gm 55) ca (nI (k + 1)))) gr := ⟨by rw [(f55 23 (by decide)).1]; exact e1.1, by rw [(f55 23 (by decide)).1]; exact e1.2⟩
    have much : ∃ gu gr' gc', (∀ rec, (if nI (k + 1) = (25 : Int32) then (grd (inB (gI gm 20) 3001) (bnd (f_X12_much (sIA gm 55 (upd (gIA gm 55) ca (nI (k + 1)))) (gIA gm 10 jm)) (fun q_24 => b_X12_cam_215 n rec q_24 (nI ca) (nI mi)))) else (b_X12_cam_215 n rec (sIA gm 55 (upd (gIA gm 55) ca (nI (k + 1)))) (nI ca) (nI mi))) = b_X12_cam_215 n rec gu (nI ca) (nI mi)) ∧ Fr [20, 23, 55] g gu ∧ gI gu 20 = nI jm ∧ gIA gu 55 = upd (gIA g 55) ca (nI (k + 1)) ∧ Tm gu gr' ∧ Fr [16] gr gr' ∧ Fr [10] gc gc' ∧ (gI gr' 16 = -1 ↔ gI gc' 10 = 0) ∧ (k < 24 → gr' = gr ∧ gc' = gc) ∧ (24 ≤ k → ¬ gI gc' 10 = 0 ∧ f_X5_noteTooMuch hP gr gc (nI (ta g jm)) = some (gr', gc')) := by
      have u55 : gIA (sIA gm 55 (upd (gIA gm 55) ca (nI (k + 1)))) 55 = upd (gIA g 55) ca (nI (k + 1)) := by show upd (gIA gm 55) ca _ = _; rw [(S7 55 (by decide)).2.2.2.1]
      have hk25 : nI (k + 1) = (25 : Int32) ↔ k = 24 := ⟨fun z => by have := (nI_eq (b := 25) (by omega) (by decide)).mp z; omega, fun z => by rw [z]; rfl⟩
      by_cases h24 : k = 24
      · obtain ⟨g', gr', gc', m1, m2, m3, m4, m5, m6, m7, m8⟩ := much_both (hP := hP) (gc := gc) (p := ta g jm) tm0 d2 (by omega)
        refine ⟨g', gr', gc', fun rec => ?_, (f55.mono (by decide)).trans (m4.mono (by decide)), ((m4 20 (by decide)).1).trans S5, ((m4 55 (by decide)).2.2.2.1).trans u55, m3, m5, m6, ⟨fun z => absurd z m7, fun z => absurd z (m8 e2)⟩, fun z => by omega, fun _ => ⟨m8 e2, m2⟩⟩
        rw [if_pos (hk25.mpr h24), grd_t bm, m10, bnd_s m1]
      · by_cases hlt : k < 24
        · exact ⟨_, gr, gc, fun rec => by rw [if_neg (fun z => h24 (hk25.mp z))], f55.mono (by decide), S5, u55, tm0, Fr.refl _ _, Fr.refl _ _, e2, fun _ => ⟨rfl, rfl⟩, fun z => by omega⟩
        · have hcl2 : ¬ gI gc 10 = 0 := fun z => by have := (hopen z).1; omega
          have hgr : ¬ gI gr 16 = -1 := fun z => hcl2 (e2.mp z)
          exact ⟨_, gr, gc, fun rec => by rw [if_neg (fun z => h24 (hk25.mp z))], f55.mono (by decide), S5, u55, tm0, Fr.refl _ _, Fr.refl _ _, e2, fun _ => ⟨rfl, rfl⟩, fun _ => ⟨hcl2, by unfold f_X5_noteTooMuch; rw [if_neg hgr]⟩⟩
    obtain ⟨gu, gr', gc', U1, U2, U3, U4, U5, U6, U7, U8, U9, U10⟩ := much
    rw [U1]
    have hXu : nTk [20, 23, 55] := by decide
    have u12 : gLA gu 12 = gLA g 12 := (U2 12 (by decide)).2.2.2.2.1
    have u13 : gIA gu 13 jm = nI (ts g jm) := by rw [(U2 13 (by decide)).2.2.2.1]; exact (s1.2.2.2.1 jm S3).2.2.2.1 hk3
    obtain ⟨v, gY, t1, t2, t3, t4, t5⟩ := tooth_val hn s1 S6 S3 hk3 u12
    have fY := t2.fr
    have fgY : Fr [0, 1, 2, 20, 23, 55] g gY := (U2.mono (by decide)).trans (fY.mono (by decide))
    have hXY : nTk [0, 1, 2, 20, 23, 55] := by decide
    have y20 : gI gY 20 = nI jm := ((fY 20 (by decide)).1).trans U3
    have y36 : gI gY 36 = nI (ce + k) := ((fgY 36 (by decide)).1).trans hcn.2.2.2
    have y9 : gIA gY 9 (jm + 1) = nI (tk g (jm + 1)) := by rw [(fgY 9 (by decide)).2.2.2.1]; exact (s1.tok hT1).1
    -- the value with its sign
    have hv : ∃ v' d', (∀ rec, b_X12_cam_215 n rec gu (nI ca) (nI mi) = b_X12_cam_264 n rec gY (nI ca) v' (nI (ce + k))) ∧ VR 7 v' 0 d' ∧ d' = (if mi = 0 then (if ts g jm < 6 then FP.l2d (gL gsm 8) else gD gsm 9) else FP.dneg (if ts g jm < 6 then FP.l2d (gL gsm 8) else gD gsm 9)) := by
      have bu : inB (gI gu 20) 3001 = true := by rw [U3]; exact inB_nI (by omega) (by decide)
      have cu : (gI gu 20).toNatClampNeg = jm := by rw [U3]; exact nI_clamp (by omega)
      have e215 : ∀ rec, b_X12_cam_215 n rec gu (nI ca) (nI mi) = if nI mi = 0 then b_X12_cam_264 n rec gY (nI ca) v (nI (ce + k)) else b_X12_cam_264 n rec gY (nI ca) (v ^^^ (-9223372036854775808 : Int64)) (nI (ce + k)) := by
        intro rec
        unfold b_X12_cam_215
        rw [grd_t bu, grd_t bu, cu, u13, bnd_s t1, y36]
      by_cases h0 : mi = 0
      · exact ⟨v, _, fun rec => by rw [e215, if_pos (by rw [h0]; rfl)], t5, by rw [if_pos h0]⟩
      · exact ⟨_, _, fun rec => by rw [e215, if_neg (by rw [show mi = 1 by omega]; decide)], vr_flip t5, by rw [if_neg h0]⟩
    obtain ⟨v', d', V1, V2, V3⟩ := hv
    rw [V1]
    have fZ := cmZ_fr gY ca k ce (jm + 1) v'
    have fgZ : Fr [0, 1, 2, 20, 23, 36, 55, 56] g (cmZ gY ca k ce (jm + 1) v') := (fgY.mono (by decide)).trans (fZ.mono (by decide))
    have hXZ : nTk [0, 1, 2, 20, 23, 36, 55, 56] := by decide
    have etZ := tok_same fgZ hXZ
    -- the class's tooth
    have hcl : ∃ gpZ, (∀ rec', (if (nI k) < (24 : Int32) then (if num = (-1 : Int32) then (b_X5_readCam_202 n hQ hP rec' gr gt gsm g2 gp gc num (nI k)) else (if (gI gsm 7) < (6 : Int32) then (b_X5_readCam_161 n hQ hP rec' gr gt gsm g2 gp gc num (nI k) (nI mi) (FP.l2d (gL gsm 8))) else (b_X5_readCam_161 n hQ hP rec' gr gt gsm g2 gp gc num (nI k) (nI mi) (gD gsm 9)))) else (bnd (f_X5_noteTooMuch hP gr gc (gI gsm 5)) (fun q_20 => b_X5_readCam_202 n hQ hP rec' q_20.1 gt gsm g2 gp q_20.2 num (nI k)))) = b_X5_readCam_202 n hQ hP rec' gr' gt gsm g2 gpZ gc' num (nI k)) ∧ Fr [12, 13] gp gpZ ∧ (num = nI ca → ca < 8 → k < 24 → gDA gpZ 12 = vf_upd (gDA gp 12) (24 * ca + k) d' ∧ gIA gpZ 13 = upd (gIA gp 13) ca (nI (k + 1))) := by
      by_cases hlt : k < 24
      · obtain ⟨hgr, hgc⟩ := U9 hlt
        have k24 : (nI k) < (24 : Int32) := nI_lt (b := 24) hlt (by decide)
        rcases hnum with ⟨hn1, h8⟩ | ⟨hn1, h8, _⟩
        · have e161 : ∀ rec' x, b_X5_readCam_161 n hQ hP rec' gr gt gsm g2 gp gc (nI ca) (nI k) (nI mi) x = b_X5_readCam_202 n hQ hP rec' gr gt gsm g2 (sIA (sDA gp 12 (vf_upd (gDA gp 12) (24 * ca + k) (if mi = 0 then x else FP.dneg x))) 13 (upd (gIA gp 13) ca (nI (k + 1)))) gc (nI ca) (nI k) := by
            intro rec' x
            have e189 : ∀ y, b_X5_readCam_189 n hQ hP rec' gr gt gsm g2 gp gc (nI ca) (nI k) y (nI (24 * ca + k)) = b_X5_readCam_202 n hQ hP rec' gr gt gsm g2 (sIA (sDA gp 12 (vf_upd (gDA gp 12) (24 * ca + k) y)) 13 (upd (gIA gp 13) ca (nI (k + 1)))) gc (nI ca) (nI k) := by
              intro y
              unfold b_X5_readCam_189
              rw [grd_t (inB_nI (show 24 * ca + k < 192 by omega) (by decide)), grd_t (show rEq (gR gr 14) hQ = true from decide_eq_true d1), grd_t (inB_nI h8 (by decide)), nI_clamp (show 24 * ca + k < 2 ^ 31 by omega), cca, nI_1]
            unfold b_X5_readCam_161
            rw [grd_t (show rEq (gR gr 14) hQ = true from decide_eq_true d1), show (24 : Int32) = nI 24 from rfl, pk_mul, nI_add, show ca * 24 + k = 24 * ca + k by omega, e189, e189]
            by_cases h0 : mi = 0
            · rw [if_pos (show nI mi = 0 by rw [h0]; rfl), if_pos h0]
            · rw [if_neg (show ¬ nI mi = 0 by rw [show mi = 1 by omega]; decide), if_neg h0]
          refine ⟨sIA (sDA gp 12 (vf_upd (gDA gp 12) (24 * ca + k) d')) 13 (upd (gIA gp 13) ca (nI (k + 1))), fun rec' => ?_, (Fr.sDA (by decide) _ _).trans (Fr.sIA (by decide) _ _), fun _ _ _ => ⟨rfl, rfl⟩⟩
          rw [if_pos k24, hn1, if_neg (nI_ne_m1 (by omega)), hgr, hgc, V3, e161, e161, t3]
          by_cases h6 : ts g jm < 6
          · rw [if_pos (show nI (ts g jm) < (6 : Int32) from nI_lt (b := 6) h6 (by decide)), if_pos h6]
          · rw [if_neg (show ¬ nI (ts g jm) < (6 : Int32) from nI_nlt (b := 6) (by omega) (by omega)), if_neg h6]
        · refine ⟨gp, fun rec' => by rw [if_pos k24, if_pos hn1, hgr, hgc], Fr.refl _ _, fun _ z => by omega⟩
      · refine ⟨gp, fun rec' => ?_, Fr.refl _ _, fun _ _ z => by omega⟩
        rw [if_neg (show ¬ (nI k) < (24 : Int32) from nI_nlt (b := 24) (by omega) (by omega)), S6.2.2.1, bnd_s (U10 (by omega)).2]
    obtain ⟨gpZ, C1, C2, C3⟩ := hcl
    rw [C1]
    refine .inr ⟨cmZ gY ca k ce (jm + 1) v', gr', gsn, gpZ, gc', jm + 1, ⟨N, A, M, f, E, ?_, ⟨((fgZ 33 (by decide)).1).trans hcn.1, ((fgZ 34 (by decide)).1).trans hcn.2.1, ((fgZ 35 (by decide)).1).trans hcn.2.2.1, rfl⟩, ⟨by rw [(fgZ 54 (by decide)).2.2.2.1]; exact hcm.1, ?_⟩, ⟨by rw [(C2 4 (by decide)).1]; exact hgp.1, by rw [(C2 5 (by decide)).1]; exact hgp.2.1, by rw [(C2 6 (by decide)).1]; exact hgp.2.2⟩, ?_, ?_, fun z => ?_⟩, by omega, fgZ.mono (by decide), U6.mono (by decide), S8.trans n3, C2.mono (by decide), U7.mono (by decide), ?_, ?_⟩
    · refine ⟨⟨s1.base fgZ hXZ, n2.base fgZ hXZ, hT1⟩, ⟨rfl, ((fgZ 25 (by decide)).1).trans a2, ((fgZ 24 (by decide)).1).trans a3, ((fgZ 19 (by decide)).1).trans a4, ((fgZ 27 (by decide)).1).trans a5⟩, fun i hi => ((c1 i hi).fr fgZ (by decide)).base fgZ hXZ, ⟨by rw [(U6 14 (by decide)).2.2.2.2.2.2]; exact d1, by rw [(U6 15 (by decide)).2.2.2.2.2.2]; exact d2⟩, ⟨?_, ?_⟩, U8, ⟨by rw [(U7 9 (by decide)).1]; exact q1, by rw [(U7 18 (by decide)).1]; exact q2, q3⟩, ⟨by omega, r2, by omega⟩, fun z => ?_⟩
      · rw [(fZ 23 (by decide)).1, (fY 23 (by decide)).1]; exact U5.1
      · rw [(fZ 23 (by decide)).1, (fY 23 (by decide)).1]; exact U5.2
      · have hlt : k < 24 := Decidable.byContradiction fun y => (U10 (by omega)).1 z
        rw [(U9 hlt).2] at z ⊢
        exact ⟨(o1 z).1, (o1 z).2.1, fun i hi => ((o1 z).2.2 i hi).base fgZ hXZ⟩
    · rw [(fZ 55 (by decide)).2.2.2.1, (fY 55 (by decide)).2.2.2.1, U4, pk_us]
    · rw [etZ.2.1, if_neg (by omega)]
      refine ⟨by omega, by omega, ?_, by omega⟩
      have h1 := hby.2.2.1
      split at h1 <;> omega
    · rcases hnum with x | ⟨x1, x2, x3⟩
      · exact .inl x
      · refine .inr ⟨x1, x2, fun z => ?_⟩
        by_cases hlt : k < 24
        · rw [(U9 hlt).2] at z; exact x3 z
        · exact (U10 (by omega)).1 z
    · have hlt : k < 24 := Decidable.byContradiction fun y => (U10 (by omega)).1 z
      obtain ⟨hgr, hgc⟩ := U9 hlt
      rw [hgc] at z ⊢
      obtain ⟨⟨y1, y2, y3, y4, y5⟩, x13, xv, FA, tn, fn, rkk, P1, P2, P3⟩ := hopen z
      have hnum' : num = nI ca := by
        rcases hnum with ⟨x, _⟩ | ⟨_, x, _⟩
        · exact x
        · omega
      obtain ⟨p12, p13⟩ := C3 hnum' y3 hlt
      have z56 : gLA (cmZ gY ca k ce (jm + 1) v') 56 = vp_updL (gLA g 56) (ce + k) v' := by
        show vp_updL (gLA gY 56) _ _ = _; rw [(fgY 56 (by decide)).2.2.2.2.1]
      refine ⟨⟨y1, y2, y3, y4, by omega⟩, fun _ => by rw [p13, pk_us], fun i hi => ?_, FA, tn, fn, rkk, P1.same fgZ (by decide) C2 (by decide) (Fr.refl [] gc) (by decide) (by omega), P2.keep (Nat.le_refl _) (fun _ _ => rfl) (fun q h1 h2 i hi => by rw [(fgZ q (by simp; omega)).2.2.2.1]) (fun q h1 h2 i hi => by rw [(fgZ q (by simp; omega)).2.2.2.1]) (fun q h1 h2 i hi => by rw [(C2 q (by simp; omega)).2.2.2.1]) (fun b hb => by rw [(C2 10 (by decide)).2.2.2.1]) (fun k hk => by rw [(C2 11 (by decide)).2.2.2.1]) (fun _ _ => ⟨rfl, rfl, rfl⟩), fun c hc => ?_⟩
      · rw [z56, p12]
        by_cases hik : i = k
        · rw [hik, show vp_updL (gLA g 56) (ce + k) v' (ce + k) = v' from pk_uLs, show vf_upd (gDA gp 12) (24 * ca + k) d' (24 * ca + k) = d' by unfold vf_upd; rw [if_pos rfl]]
          exact V2
        · rw [show vp_updL (gLA g 56) (ce + k) v' (ce + i) = gLA g 56 (ce + i) from pk_uLn (by omega), show vf_upd (gDA gp 12) (24 * ca + k) d' (24 * ca + i) = gDA gp 12 (24 * ca + i) by unfold vf_upd; rw [if_neg (by omega)]]
          exact xv i (by omega)
      · obtain ⟨m, a, z1, z2, z3, z4, z5, z6⟩ := P3 c hc
        refine ⟨m, a, by rw [(fgZ 54 (by decide)).2.2.2.1]; exact z1, z2, ?_, by rw [p13, pk_un (by omega)]; exact z4, z5, fun q hq => ?_⟩
        · rw [(fZ 55 (by decide)).2.2.2.1, (fY 55 (by decide)).2.2.2.1, U4, pk_un (by omega)]; exact z3
        · rw [z56, p12, show vp_updL (gLA g 56) (ce + k) v' (a + q) = gLA g 56 (a + q) from pk_uLn (by omega), show vf_upd (gDA gp 12) (24 * ca + k) d' (24 * c + q) = gDA gp 12 (24 * c + q) by unfold vf_upd; rw [if_neg (by omega)]]
          exact z6 q hq
    · rw [etZ.1]
      unfold b_X12_cam_264 b_X12_cam_304 b_X12_cam_319
      rw [grd_t (inB_nI (show ce + k < 1600 by omega) (by decide)), y20, nI_1, grd_t (inB_nI (by omega) (by decide)), nI_clamp (show jm + 1 < 2 ^ 31 by omega), y9, nI_clamp (show ce + k < 2 ^ 31 by omega), y36, nI_1]
      by_cases h44 : tk g (jm + 1) = 44
      · rw [ifP (c := 44) (b := 44) rfl h44, if_neg (by decide), if_pos h44]
        show rec (sI (cmZ gY ca k ce (jm + 1) v') 20 (nI (jm + 1) + 1)) (nI ca) 1 = _
        rw [nI_1]
      · rw [ifN (c := 44) (b := 44) rfl (s1.tok hT1).2.2.2.1 (by decide) h44, if_pos rfl, if_neg h44]; rfl
    · unfold b_X5_readCam_202
      rw [bnd_s n1, nI_1]
  · rw [ifN (c := 3) (b := 3) rfl w4 (by decide) hk3, if_neg (fun z => hk3 (k3'.mp z)), bnd_s (cannot12 (G := gm) M1 (Fr.refl _ _) S5 S3)]
    refine .inl ⟨_, rfl, ?_⟩
    exact RfI.of (S7.mono (by decide)) S3 M2 (Fr.refl _ _) S8 (Fr.refl _ _) (Fr.refl _ _)
