/-! parsing: parts of one token on both sides -/
theorem part_leaf {hP o : Nat} {gr gs gc : Gs} (h4 : gI gs 4 = nI o) (ho : o = 3 ∨ o = 17 ∨ o = 18 ∨ o = 26 ∨ o = 27) : f_X5_readPart hP gr gs gc = bnd (f_X5_readLeaf hP (hld gr gs) gs gc (nI o)) (fun q => some (q.1, q.2.1, q.2.2)) := by
  rcases ho with rfl | rfl | rfl | rfl | rfl
  · exact part_leaf3 h4
  · exact part_leaf17 h4
  · exact part_leaf18 h4
  · exact part_leaf26 h4
  · exact part_leaf27 h4
def numG (g : Gs) (A : Nat) (a p : Int32) (w : Int64) : Gs := sLA (actG g A 1 a p) 18 (vp_updL (gLA (actG g A 1 a p) 18) (2000 + A) w)
theorem numG_fr (g : Gs) (A : Nat) (a p : Int32) (w : Int64) : Fr [14, 15, 16, 17, 18, 19] g (numG g A a p w) := ((actG_fr _ _ _ _ _).mono (by decide)).trans (Fr.sLA (by decide) _ _)
theorem RfS.num {G g : Gs} {j d N A M : Nat} {E : Nat → Nat × Nat × Nat} {a p : Int32} {w : Int64} {q : Nat × Nat × Nat} (h : RfS G g j d N A M E) (hq : RE G (numG g A a p w) A q) : RfS G (numG g A a p w) j d N (A + 1) M (upE E A q) := by
  obtain ⟨a1, a2, a3, a4, a5, a6, a7⟩ := h
  refine ⟨a1.trans ((numG_fr _ _ _ _ _).mono (by decide)), a2, a3, a4, ?_, a6, fun i hi => ?_⟩
  · show nI (2000 + A + 1) = _; rw [show 2000 + A + 1 = 2000 + (A + 1) by omega]
  · by_cases hiA : i = A
    · rw [hiA, upE_s]; exact hq
    · rw [upE_n hiA]
      refine ((a7 i (by omega)).act (o := 1) (a := a) (p := p) hiA).keep rfl rfl rfl ?_
      show vp_updL _ (2000 + A) w (2000 + i) = _
      exact pk_uLn (by omega)
theorem leaf_core {n hP L T : Nat} {g2 G gt : Gs} {B : Nat → Nat} {g gr gs gc g' gr1 gc2 gs2 : Gs} {j h d N A M : Nat} {E : Nat → Nat × Nat × Nat} {q : Nat × Nat × Nat} (hm : MS n hP L T g2 G gt B g gr gs gc j h d N A M E) (hT1 : j + 1 < T) (hst : stp n hP gt g2 (gr, gs, gc, 2) = some (gr1, gs2, gc2, 3)) (ta1 : TokAt L B G gt (j + 1) gs2) (fs : Fr scA gs gs2) (hR : RfS G g' (j + 1) d (N + 1) (A + 1) M (upE E A q)) (hC : CS G gr1 gc2 hP h d (N + 1) (A + 1) (upE E A q)) (ht : Tm g' gr1) (fr : Fr [9, 10, 11, 12, 13, 16] gr gr1) (fc : FC gc gc2) (nk : Nk g g' 0 M) (hq : q.1 = 3 ∨ q.1 = 18 ∨ q.1 = 17) : Pd n hP L T g2 G gt B 7 g gr gs gc j h d N A M E g' (j + 1) := by
  obtain ⟨m1, m2, m3, m4, m5, m6, m7, m8, m9, m10⟩ := id hm
  refine Pd.leaf (N' := N + 1) (A' := A + 1) (M' := M) (mm := 1) (E' := upE E A q) (Gos.one (show ¬ (2 : Int32) ≤ 1 by decide) hst) (by omega) (by omega) ⟨hR, hC, ht, ta1, hT1, m6, m7, by omega, by omega, by omega⟩ ⟨fr.mono (by decide), fun i _ => fr.rows (by decide) i, fs, fc, nk⟩ ⟨by omega, by omega, by omega, by omega, by omega⟩ (fun i hi => by rw [upE_n (by omega)]) ?_ (.inl ⟨rfl, ?_⟩)
  · exact (Nm.none (by rw [upE_s]; unfold opN; omega)).wide (Nat.le_refl _) (by omega)
  · rw [upE_s]; omega
/-- NUMBERs, true, false -/
theorem lv_num {n hP L T : Nat} {g2 G gt : Gs} {B : Nat → Nat} {rc : RCT} {g gr gs gc : Gs} {j h d N A M : Nat} {E : Nat → Nat × Nat × Nat} (hS : ScR n g2 L B G T) (hm : MS n hP L T g2 G gt B g gr gs gc j h d N A M E) (hK : tk G j = 3 ∨ tk G j = 216 ∨ tk G j = 217) : ∃ g', b_X12_primary_89 n rc g (nI (tk G j)) = some (1, g') ∧ Pd n hP L T g2 G gt B 7 g gr gs gc j h d N A M E g' (j + 1) := by
  obtain ⟨m1, m2, m3, m4, m5, m6, m7, m8, m9, m10⟩ := id hm
  have hT := hS.2.2.1
  have hL : L ≤ 3000 := m4.1.1
  have k3 := (hS.tok m5).2.2.1
  have kk := kcs k3
  have ho : (tk G j = 3 ∧ kc (tk G j) = 3) ∨ (tk G j = 216 ∧ kc (tk G j) = 26) ∨ (tk G j = 217 ∧ kc (tk G j) = 27) := by
    rcases hK with z | z | z
    · exact .inl ⟨z, kk.2.2.2.2.2.1.mpr z⟩
    · exact .inr (.inl ⟨z, kk.2.2.2.2.2.2.1.mpr z⟩)
    · exact .inr (.inr ⟨z, kk.2.2.2.2.2.2.2.1.mpr z⟩)
  have hT1 := tok_more hS m5 (by omega)
  obtain ⟨gs2, a1, a2, a3⟩ := m4.next hS hT1
  have h4s : gI gs 4 = nI (kc (tk G j)) := m4.2.1
  have h5s : gI gs 5 = nI (ta G j) := m4.2.2.1
  obtain ⟨g1, gr1, gc1, x1, x2, x3, x4, x5, x6, x7, x8, x9⟩ := node_both (p := j) (gr := hld (sI gr 10 1) gs) hS m1 (m2.rd m2.1 m2.2.1 rfl rfl) m3 hL m5 (by omega)
  have f10 : gI gr1 10 = 1 := (x7 10 (by decide)).1
  have fr1 : Fr [9, 10, 11, 12, 13, 16] gr gr1 := ((Fr.sI (by decide) _ _).trans ((hld_fr _ _).mono (by decide))).trans (x7.mono (by decide))
  obtain ⟨y1, y2⟩ := go_act hS m5 x3.1
  -- the reference
  have b117 : ∀ s0, ∃ w, (tk G j = 3 → w = gLA G 12 j) ∧ (tk G j = 216 → w = 1) ∧ (tk G j = 217 → w = 0) ∧ b_X12_primary_117 n rc g1 (nI (tk G j)) s0 1 = some (1, sI (numG g1 A s0 (nI (ta G j)) w) 20 (nI (j + 1))) := by
    intro s0
    have e20 : gI (actG g1 A 1 s0 (nI (ta G j))) 20 = nI j := x3.2.1
    have e12 : gLA (actG g1 A 1 s0 (nI (ta G j))) 12 j = gLA G 12 j := by rw [((x3.1.trans ((actG_fr _ _ _ _ _).mono (by decide))) 12 (by decide)).2.2.2.2.1]
    have e164 : ∀ w, b_X12_primary_164 n rc (actG g1 A 1 s0 (nI (ta G j))) w (nI (2000 + A)) = some (1, sI (numG g1 A s0 (nI (ta G j)) w) 20 (nI (j + 1))) := by
      intro w; unfold b_X12_primary_164; rw [grd_t (inB_nI (by omega) (by decide)), nI_clamp (by omega), e20, nI_1]; rfl
    unfold b_X12_primary_117
    rw [x3.2.1, grd_t (inB_nI (by omega) (by decide)), nI_clamp (by omega), y2, bnd_s (act12 x3.2.2.2.2.1 (by omega))]
    rcases ho with ⟨z, _⟩ | ⟨z, _⟩ | ⟨z, _⟩
    · refine ⟨gLA G 12 j, fun _ => rfl, by omega, by omega, ?_⟩
      rw [ifP (c := 3) (b := 3) rfl z, e20, grd_t (inB_nI (by omega) (by decide)), nI_clamp (by omega), e12, e164]
    · refine ⟨1, by omega, fun _ => rfl, by omega, ?_⟩
      rw [ifN (c := 3) (b := 3) rfl (by omega) (by decide) (by omega), ifP (c := 216) (b := 216) rfl z, e164]
    · refine ⟨0, by omega, by omega, fun _ => rfl, ?_⟩
      rw [ifN (c := 3) (b := 3) rfl (by omega) (by decide) (by omega), ifN (c := 216) (b := 216) rfl (by omega) (by decide) (by omega), e164]
  have er : ∃ a w, (tk G j = 3 → w = gLA G 12 j ∧ a = nI (ts G j)) ∧ (tk G j = 216 → w = 1 ∧ a = 0) ∧ (tk G j = 217 → w = 0 ∧ a = 0) ∧ b_X12_primary_89 n rc g (nI (tk G j)) = some (1, sI (numG g1 A a (nI (ta G j)) w) 20 (nI (j + 1))) := by
    unfold b_X12_primary_89
    rw [m1.2.1, bnd_s x1]
    by_cases z : tk G j = 3
    · have e13 : gIA g1 13 j = nI (ts G j) := by rw [(x3.1 13 (by decide)).2.2.2.1]; exact (hS.2.2.2.1 j m5).2.2.2.1 z
      obtain ⟨w, w1, w2, w3, w4⟩ := b117 (nI (ts G j))
      refine ⟨_, w, fun _ => ⟨w1 z, rfl⟩, by omega, by omega, ?_⟩
      rw [ifP (c := 3) (b := 3) rfl z, x3.2.1, grd_t (inB_nI (by omega) (by decide)), nI_clamp (by omega), e13, w4]
    · obtain ⟨w, w1, w2, w3, w4⟩ := b117 0
      refine ⟨0, w, fun y => absurd y z, fun y => ⟨w2 y, rfl⟩, fun y => ⟨w3 y, rfl⟩, ?_⟩
      rw [ifN (c := 3) (b := 3) rfl (by omega) (by decide) z, w4]
  obtain ⟨a, w, e1, e2, e3, er⟩ := er
  refine ⟨_, er, ?_⟩
  -- the entry
  obtain ⟨e14, e15, e17⟩ := actG_at g1 A 1 a (nI (ta G j))
  have e18 : gLA (numG g1 A a (nI (ta G j)) w) 18 (2000 + A) = w := by show vp_updL _ (2000 + A) w (2000 + A) = _; exact pk_uLs
  have hq : RE G (numG g1 A a (nI (ta G j)) w) A (3, j, 0) := by
    refine ⟨e14, e17, fun _ => ?_, fun z => ?_, fun z => absurd z (show ¬ (3 : Nat) = 66 by decide), fun z => ?_, fun z => absurd z (show ¬ (3 : Nat) = 44 by decide)⟩
    · rcases ho with ⟨z, _⟩ | ⟨z, _⟩ | ⟨z, _⟩
      · exact .inl ⟨z, e15.trans (e1 z).2, e18.trans (e1 z).1⟩
      · exact .inr (.inl ⟨z, e15.trans (e2 z).2, e18.trans (e2 z).1⟩)
      · exact .inr (.inr ⟨z, e15.trans (e3 z).2, e18.trans (e3 z).1⟩)
    · have z : (19 ≤ 3 ∧ 3 ≤ 25) ∨ (49 ≤ 3 ∧ 3 ≤ 53) ∨ (55 ≤ 3 ∧ 3 ≤ 60) := z; omega
    · have z : 67 ≤ 3 ∧ 3 ≤ 70 := z; omega
  have hR := x3.num hq
  -- the class
  have hc : ∃ gc2, f_X5_readLeaf hP (hld (sI gr 10 1) gs) gs gc (nI (kc (tk G j))) = some (3, gr1, gc2) ∧ CS G gr1 gc2 hP h d (N + 1) (A + 1) (upE E A (3, j, 0)) ∧ Fr [0, 1, 2, 3, 4, 5, 6, 7, 8] gc1 gc2 := by
    have x2' : f_X5_countNode hP (hld (sI gr 10 1) gs) gc (gI gs 5) = some (gr1, gc1) := by rw [h5s]; exact x2
    by_cases h10 : gI gc1 10 = 0
    · obtain ⟨r1, r2⟩ := x4.room (by omega) h10
      have old := (x4.2.2.2.2.2 h10).2.2
      obtain ⟨q1, q2, _⟩ := addG_at gc1 A 3 (gI gs 5)
      have c3 : ∀ {gc2 : Gs}, gIA gc2 0 A = 3 → gIA gc2 1 A = nI (ta G j) → ((tk G j = 3 ∧ gIA gc2 2 A = nI (ts G j) ∧ VR (ts G j) (gLA G 12 j) (gLA gc2 6 A) (gDA gc2 7 A) ∧ ts G j ≤ 7 ∧ VI (ts G j) (gLA G 12 j)) ∨ (tk G j = 216 ∧ gIA gc2 2 A = 0 ∧ gLA gc2 6 A = 1) ∨ (tk G j = 217 ∧ gIA gc2 2 A = 0 ∧ gLA gc2 6 A = 0)) → CE G gc2 A (3, j, 0) := by
        intro gc2 v0 v1 v2
        refine ⟨v0, v1, fun _ => v2, fun z => absurd z (show ¬ (3 : Nat) = 66 by decide), fun z => ?_, fun z => ?_, fun z => absurd z (show ¬ (3 : Nat) = 44 by decide)⟩
        · have z : 3 = 63 ∨ 3 = 16 ∨ 3 = 64 := z; omega
        · have z : 67 ≤ 3 ∧ 3 ≤ 70 := z; omega
      rcases ho with ⟨z, z2⟩ | ⟨z, z2⟩ | ⟨z, z2⟩
      · rw [z2]
        obtain ⟨t7, t8⟩ := m4.2.2.2.2.2 z
        have tsb : ts G j ≤ 7 ∧ VI (ts G j) (gLA G 12 j) := ⟨((hS.2.2.2.1 j m5).2.2.2.2.1.2.2.2.2.2.1 z).2.1, ((hS.2.2.2.1 j m5).2.2.2.2.1.2.2.2.2.2.1 z).2.2⟩
        refine ⟨_, leaf_num x4.2.2.1 x2' h10 r2 r1, x4.put rfl rfl fun _ => ⟨rfl, fun i hi => ?_, c3 q1 (by rw [← h5s]; exact q2) (.inl ⟨z, ?_, ?_, tsb.1, tsb.2⟩)⟩, (((addG_fr _ _ _ _).trans (Fr.sIA (by decide) _ _)).trans (Fr.sLA (by decide) _ _)).trans (Fr.sDA (by decide) _ _)⟩
        · refine ((old i hi).add (N := A) (o := 3) (p := gI gs 5) (by omega)).keep rfl rfl ?_ rfl rfl ?_ ?_
          · show upd _ A _ i = _; rw [pk_un (by omega)]
          · show vp_updL _ A _ i = _; exact pk_uLn (by omega)
          · show vf_upd _ A _ i = _; unfold vf_upd; rw [if_neg (by omega)]
        · show upd _ A _ A = _; rw [pk_us]; exact t7
        · have f6 : vp_updL (gLA (addG gc1 A 3 (gI gs 5)) 6) A (gL gs 8) A = gL gs 8 := pk_uLs
          have f7 : vf_upd (gDA (addG gc1 A 3 (gI gs 5)) 7) A (gD gs 9) A = gD gs 9 := by unfold vf_upd; rw [if_pos rfl]
          show VR (ts G j) (gLA G 12 j) (vp_updL (gLA (addG gc1 A 3 (gI gs 5)) 6) A (gL gs 8) A) (vf_upd (gDA (addG gc1 A 3 (gI gs 5)) 7) A (gD gs 9) A)
          rw [f6, f7]; exact t8
      · rw [z2]
        refine ⟨_, leaf_word x4.2.2.1 (.inl rfl) x2' h10 r2 r1, x4.put rfl rfl fun _ => ⟨rfl, fun i hi => ?_, c3 q1 (by rw [← h5s]; exact q2) (.inr (.inl ⟨z, ?_, ?_⟩))⟩, ((addG_fr _ _ _ _).trans (Fr.sIA (by decide) _ _)).trans (Fr.sLA (by decide) _ _)⟩
        · refine ((old i hi).add (N := A) (o := 3) (p := gI gs 5) (by omega)).keep rfl rfl ?_ rfl rfl ?_ rfl
          · show upd _ A _ i = _; rw [pk_un (by omega)]
          · show vp_updL _ A _ i = _; exact pk_uLn (by omega)
        · show upd _ A _ A = _; rw [pk_us]
        · exact pk_uLs
      · rw [z2]
        refine ⟨_, leaf_word x4.2.2.1 (.inr rfl) x2' h10 r2 r1, x4.put rfl rfl fun _ => ⟨rfl, fun i hi => ?_, c3 q1 (by rw [← h5s]; exact q2) (.inr (.inr ⟨z, ?_, ?_⟩))⟩, ((addG_fr _ _ _ _).trans (Fr.sIA (by decide) _ _)).trans (Fr.sLA (by decide) _ _)⟩
        · refine ((old i hi).add (N := A) (o := 3) (p := gI gs 5) (by omega)).keep rfl rfl ?_ rfl rfl ?_ rfl
          · show upd _ A _ i = _; rw [pk_un (by omega)]
          · show vp_updL _ A _ i = _; exact pk_uLn (by omega)
        · show upd _ A _ A = _; rw [pk_us]
        · exact pk_uLs
    · exact ⟨gc1, leaf_shut x4.2.2.1 x2' h10, x4.put rfl rfl fun z => absurd z h10, Fr.refl _ _⟩
  obtain ⟨gc2, c1, c2, c3⟩ := hc
  have st : stp n hP gt g2 (gr, gs, gc, 2) = some (gr1, gs2, gc2, 3) := stp_take (by rw [if_neg (by decide), if_pos rfl, part_leaf h4s (by omega), bnd_s c1]) f10 (by decide) a1
  refine leaf_core hm hT1 st a2 a3 (hR.fr (X := [20]) (Fr.sI (by decide) _ _) (by decide) (by decide) rfl hR.2.2.1 hR.2.2.2.1) c2 x5 fr1 (FC.trans ⟨x8.mono (by decide), x9⟩ (FC.of c3 (by decide) (by decide))) (Nk.fr 0 M (X := [14, 15, 16, 17, 18, 19, 20, 23, 24]) (((x6.mono (by decide)).trans ((numG_fr _ _ _ _ _).mono (by decide))).trans (Fr.sI (by decide) _ _)) (by decide)) (.inl rfl)
/-- ticks, step -/
theorem lv_tick {n hP L T : Nat} {g2 G gt : Gs} {B : Nat → Nat} {rc : RCT} {g gr gs gc : Gs} {j h d N A M : Nat} {E : Nat → Nat × Nat × Nat} (hS : ScR n g2 L B G T) (hm : MS n hP L T g2 G gt B g gr gs gc j h d N A M E) (hK : tk G j = 207 ∨ tk G j = 208) : ∃ g', b_X12_primary_191 n rc g (nI (tk G j)) = some (1, g') ∧ Pd n hP L T g2 G gt B 7 g gr gs gc j h d N A M E g' (j + 1) := by
  obtain ⟨m1, m2, m3, m4, m5, m6, m7, m8, m9, m10⟩ := id hm
  have hT := hS.2.2.1
  have hL : L ≤ 3000 := m4.1.1
  have k3 := (hS.tok m5).2.2.1
  have kk := kcs k3
  have ho : (tk G j = 207 ∧ kc (tk G j) = 17) ∨ (tk G j = 208 ∧ kc (tk G j) = 18) := by
    rcases hK with z | z
    · exact .inl ⟨z, kk.2.2.2.2.2.2.2.2.1.mpr z⟩
    · exact .inr ⟨z, kk.2.2.2.2.2.2.2.2.2.1.mpr z⟩
  have hT1 := tok_more hS m5 (by omega)
  obtain ⟨gs2, a1, a2, a3⟩ := m4.next hS hT1
  have h4s : gI gs 4 = nI (kc (tk G j)) := m4.2.1
  have h5s : gI gs 5 = nI (ta G j) := m4.2.2.1
  obtain ⟨g1, gr1, gc1, x1, x2, x3, x4, x5, x6, x7, x8, x9⟩ := node_both (p := j) (gr := hld (sI gr 10 1) gs) hS m1 (m2.rd m2.1 m2.2.1 rfl rfl) m3 hL m5 (by omega)
  have f10 : gI gr1 10 = 1 := (x7 10 (by decide)).1
  have fr1 : Fr [9, 10, 11, 12, 13, 16] gr gr1 := ((Fr.sI (by decide) _ _).trans ((hld_fr _ _).mono (by decide))).trans (x7.mono (by decide))
  obtain ⟨y1, y2⟩ := go_act hS m5 x3.1
  have er : b_X12_primary_191 n rc g (nI (tk G j)) = some (1, sI (actG g1 A (nI (ro (kc (tk G j)))) 0 (nI (ta G j))) 20 (nI (j + 1))) := by
    have e212 : ∀ s0, b_X12_primary_212 n rc g1 s0 = some (1, sI (actG g1 A s0 0 (nI (ta G j))) 20 (nI (j + 1))) := by
      intro s0
      have e20 : gI (actG g1 A s0 0 (nI (ta G j))) 20 = nI j := x3.2.1
      unfold b_X12_primary_212
      rw [x3.2.1, grd_t (inB_nI (by omega) (by decide)), nI_clamp (by omega), y2, bnd_s (act12 x3.2.2.2.2.1 (by omega)), e20, nI_1]
    unfold b_X12_primary_191
    rw [m1.2.1, bnd_s x1]
    rcases ho with ⟨z, z2⟩ | ⟨z, z2⟩
    · rw [ifN (c := 208) (b := 208) rfl (by omega) (by decide) (by omega), e212, z2]; rfl
    · rw [ifP (c := 208) (b := 208) rfl z, e212, z2]; rfl
  refine ⟨_, er, ?_⟩
  obtain ⟨e14, e15, e17⟩ := actG_at g1 A (nI (ro (kc (tk G j)))) 0 (nI (ta G j))
  have kP : opP (kc (tk G j)) := by unfold opP; omega
  obtain ⟨b1, hR⟩ := x3.act (o := nI (ro (kc (tk G j)))) (a := 0) (p := nI (ta G j)) (q := (kc (tk G j), j, 0)) (by omega) (re_P kP e14 e17)
  have hc : ∃ gc2, f_X5_readLeaf hP (hld (sI gr 10 1) gs) gs gc (nI (kc (tk G j))) = some (3, gr1, gc2) ∧ CS G gr1 gc2 hP h d (N + 1) (A + 1) (upE E A (kc (tk G j), j, 0)) ∧ Fr [0, 1, 2, 3, 4, 5, 6, 7, 8] gc1 gc2 := by
    have x2' : f_X5_countNode hP (hld (sI gr 10 1) gs) gc (gI gs 5) = some (gr1, gc1) := by rw [h5s]; exact x2
    by_cases h10 : gI gc1 10 = 0
    · obtain ⟨r1, r2⟩ := x4.room (by omega) h10
      have old := (x4.2.2.2.2.2 h10).2.2
      obtain ⟨q1, q2, _⟩ := addG_at gc1 A (nI (kc (tk G j))) (gI gs 5)
      refine ⟨_, leaf_plain x4.2.2.1 (by omega) x2' h10 r2 r1, x4.put rfl rfl fun _ => ⟨rfl, fun i hi => (old i hi).add (by omega), ce_P (by omega) (by omega) (by unfold opN; omega) (fun z => by unfold opJ at z; omega) (by omega) q1 (by rw [q2, h5s])⟩, addG_fr _ _ _ _⟩
    · exact ⟨gc1, leaf_shut x4.2.2.1 x2' h10, x4.put rfl rfl fun z => absurd z h10, Fr.refl _ _⟩
  obtain ⟨gc2, c1, c2, c3⟩ := hc
  have st : stp n hP gt g2 (gr, gs, gc, 2) = some (gr1, gs2, gc2, 3) := stp_take (by rw [if_neg (by decide), if_pos rfl, part_leaf h4s (by omega), bnd_s c1]) f10 (by decide) a1
  refine leaf_core hm hT1 st a2 a3 (hR.fr (X := [20]) (Fr.sI (by decide) _ _) (by decide) (by decide) rfl hR.2.2.1 hR.2.2.2.1) c2 x5 fr1 (FC.trans ⟨x8.mono (by decide), x9⟩ (FC.of c3 (by decide) (by decide))) (Nk.fr 0 M (X := [14, 15, 16, 17, 19, 20, 23, 24]) (((x6.mono (by decide)).trans ((actG_fr _ _ _ _ _).mono (by decide))).trans (Fr.sI (by decide) _ _)) (by decide)) (by show kc (tk G j) = 3 ∨ kc (tk G j) = 18 ∨ kc (tk G j) = 17; omega)
