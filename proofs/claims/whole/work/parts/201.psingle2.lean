/-! parsing: casts, and all that may stand ahead of a part -/
theorem kcs {k : Nat} (h : k ∈ KS) : (kc k = 45 ↔ k = 40) ∧ (kc k = 46 ↔ k = 41) ∧ (kc k = 50 ↔ k = 45) ∧ (kc k = 54 ↔ k = 33) ∧ (kc k = 2 ↔ k = 2) ∧ (kc k = 3 ↔ k = 3) ∧ (kc k = 26 ↔ k = 216) ∧ (kc k = 27 ↔ k = 217) ∧ (kc k = 17 ↔ k = 207) ∧ (kc k = 18 ↔ k = 208) ∧ (kc k = 16 ↔ k = 206) ∧ (kc k = 47 ↔ k = 91) ∧ (kc k = 48 ↔ k = 93) ∧ (kc k = 40 ↔ k = 58) ∧ (kc k = 42 ↔ k = 44) ∧ (kc k = 44 ↔ k = 63) := by
  have : ∀ k ∈ KS, (kc k = 45 ↔ k = 40) ∧ (kc k = 46 ↔ k = 41) ∧ (kc k = 50 ↔ k = 45) ∧ (kc k = 54 ↔ k = 33) ∧ (kc k = 2 ↔ k = 2) ∧ (kc k = 3 ↔ k = 3) ∧ (kc k = 26 ↔ k = 216) ∧ (kc k = 27 ↔ k = 217) ∧ (kc k = 17 ↔ k = 207) ∧ (kc k = 18 ↔ k = 208) ∧ (kc k = 16 ↔ k = 206) ∧ (kc k = 47 ↔ k = 91) ∧ (kc k = 48 ↔ k = 93) ∧ (kc k = 40 ↔ k = 58) ∧ (kc k = 42 ↔ k = 44) ∧ (kc k = 44 ↔ k = 63) := by decide
  exact this k h
theorem kcw {k : Nat} (h : k ∈ KS) : ((218 ≤ k ∧ k ≤ 225) ↔ (28 ≤ kc k ∧ kc k ≤ 35)) ∧ ((209 ≤ k ∧ k ≤ 215) ↔ (19 ≤ kc k ∧ kc k ≤ 25)) ∧ (200 ≤ k → k ≤ 225 → kc k = k - 190) := by
  have : ∀ k ∈ KS, ((218 ≤ k ∧ k ≤ 225) ↔ (28 ≤ kc k ∧ kc k ≤ 35)) ∧ ((209 ≤ k ∧ k ≤ 215) ↔ (19 ≤ kc k ∧ kc k ≤ 25)) ∧ (200 ≤ k → k ≤ 225 → kc k = k - 190) := by decide
  exact this k h
/-- the class behind a ( -/
theorem paren_one {n hP L T : Nat} {g2 G gt : Gs} {B : Nat → Nat} {g gr gs gc : Gs} {j h d N A M : Nat} {E : Nat → Nat × Nat × Nat} (hS : ScR n g2 L B G T) (hm : MS n hP L T g2 G gt B g gr gs gc j h d N A M E) (hK : tk G j = 40) : j + 1 < T ∧ (d = 40 → Rf n hP L T g2 G gt B gr gs gc j (sI (sI g 21 1) 22 (nI (ta G j)))) ∧ (d < 40 → ∃ gs1, stp n hP gt g2 (gr, gs, gc, 2) = some (hld (sI gr 10 1) gs, gs1, gc, 6) ∧ TokAt L B G gt (j + 1) gs1 ∧ Fr scA gs gs1) := by
  obtain ⟨m1, m2, m3, m4, m5, m6, m7, m8, m9, m10⟩ := id hm
  have k3 := (hS.tok m5).2.2.1
  have kk := (kcs k3).1.mpr hK
  have hT1 := tok_more hS m5 (by omega)
  have h4s : gI gs 4 = 45 := by rw [m4.2.1, kk]; rfl
  have e9 : gI (sI gr 10 1) 9 = nI d := m2.2.1
  refine ⟨hT1, fun h40 => ?_, fun h40 => ?_⟩
  · have st : stp n hP gt g2 (gr, gs, gc, 2) = some (hld (sI gr 10 1) gs, gs, gc, 0) := stp_leave (by
      rw [if_neg (by decide), if_pos rfl, part_open h4s, e9, if_neg (show ¬ nI d < (40 : Int32) from nI_nlt (b := 40) (by omega) (by omega))]) (.inr (by decide))
    exact Rf.mk' m1.1 (Nat.le_refl _) m5 (Gos.one (show ¬ (2 : Int32) ≤ 1 by decide) st) (by omega) m4 ((Fr.sI (by decide) _ _).trans ((hld_fr _ _).mono (by decide))) (Fr.refl _ _) (Fr.refl _ _)
  · obtain ⟨gs2, a1, a2, a3⟩ := m4.next hS hT1
    exact ⟨gs2, stp_take (by rw [if_neg (by decide), if_pos rfl, part_open h4s, e9, if_pos (show nI d < (40 : Int32) from nI_lt (b := 40) h40 (by decide))]) rfl (by decide) a1, a2, a3⟩
theorem cast_open {n hP L T : Nat} {g2 G gt : Gs} {B : Nat → Nat} {g gr gs gc : Gs} {j h d N A M : Nat} {E : Nat → Nat × Nat × Nat} (hS : ScR n g2 L B G T) (hm : MS n hP L T g2 G gt B g gr gs gc j h d N A M E) (hh : h + 1 ≤ 7 * d + 7) (hK : tk G j = 40) (hs1 : 218 ≤ tk G (j + 1)) (hs2 : tk G (j + 1) ≤ 225) (h40 : d < 40) : ∃ g1, f_X12_node (sI g 25 (nI (d + 1))) (nI j) = some g1 ∧ gI g1 20 = nI j ∧ Fr parA G g1 ∧ j + 2 < T ∧ (tk G (j + 2) ≠ 41 → Rf n hP L T g2 G gt B gr gs gc j (sI (sI (sI (sI g1 20 (nI (j + 1))) 20 (nI (j + 2))) 21 1) 22 (nI (ta G (j + 2))))) ∧ (tk G (j + 2) = 41 → ∃ gr2 gs2 gc2, Op n hP L T g2 G gt B 66 (j + 3) j (nI (tk G (j + 1) - 218)) 0 g gr gs gc j h d N A M E (sI (sI (sI g1 20 (nI (j + 1))) 20 (nI (j + 2))) 20 (nI (j + 3))) gr2 gs2 gc2 (N + 1) A M E) := by
  obtain ⟨m1, m2, m3, m4, m5, m6, m7, m8, m9, m10⟩ := id hm
  have hT := hS.2.2.1
  have hL : L ≤ 3000 := m4.1.1
  obtain ⟨hT1, _, hst⟩ := paren_one hS hm hK
  obtain ⟨gs1, st1, ta1, fs1⟩ := hst h40
  have k3 := (hS.tok hT1).2.2.1
  have kw := (kcw k3).1.mp ⟨hs1, hs2⟩
  have ke := (kcw k3).2.2 (by omega) (by omega)
  have hT2 := tok_more hS hT1 (by omega)
  have h5s : gI gs 5 = nI (ta G j) := m4.2.2.1
  -- the node
  have m1' : RfS G (sI g 25 (nI (d + 1))) j (d + 1) N A M E := m1.fr (X := [25]) (Fr.sI (by decide) _ _) (by decide) (by decide) m1.2.1 rfl m1.2.2.2.1
  have c1 : CS G (sI (hld (sI gr 10 1) gs) 10 1) gc hP h d N A E := m2.rd m2.1 m2.2.1 rfl rfl
  obtain ⟨g1, gr1, gc1, x1, x2, x3, x4, x5, x6, x7, x8, x9⟩ := node_both (p := j) hS m1' c1 m3 hL m5 (by omega)
  have e12 : gI gr1 12 = nI (ta G j) := by rw [(x7 12 (by decide)).1]; exact h5s
  have f10 : gI gr1 10 = 1 := (x7 10 (by decide)).1
  obtain ⟨gs2, a1, a2, a3⟩ := ta1.next hS hT2
  have bc := behind_cast (gr := sI (hld (sI gr 10 1) gs) 10 1) (gs := gs1) (gc := gc) (hP := hP) (K := kc (tk G (j + 1))) ta1.2.1 kw.1 kw.2 (show f_X5_countNode hP (sI (hld (sI gr 10 1) gs) 10 1) gc (gI gs 5) = some (gr1, gc1) by rw [h5s]; exact x2)
  have st2 : stp n hP gt g2 (hld (sI gr 10 1) gs, gs1, gc, 6) = some (sI gr1 11 (nI (kc (tk G (j + 1)))), gs2, gc1, 7) := stp_take (by rw [if_neg (by decide), if_neg (by decide)]; exact bc) f10 (by decide) a1
  have G2 : Gos n hP gt g2 2 (gr, gs, gc, 2) (sI gr1 11 (nI (kc (tk G (j + 1)))), gs2, gc1, 7) := Gos.add (Gos.one (show ¬ (6 : Int32) ≤ 1 by decide) st2) (Gos.one (show ¬ (2 : Int32) ≤ 1 by decide) st1)
  have fr1 : Fr rdA gr (sI gr1 11 (nI (kc (tk G (j + 1))))) := ((((Fr.sI (by decide) _ _).trans ((hld_fr _ _).mono (by decide))).trans (Fr.sI (by decide) _ _)).trans (x7.mono (by decide))).trans (Fr.sI (by decide) _ _)
  have rows1 : ∀ i, gIA gr1 4 i = gIA gr 4 i ∧ gIA gr1 5 i = gIA gr 5 i ∧ gIA gr1 6 i = gIA gr 6 i ∧ gIA gr1 7 i = gIA gr 7 i := fun i => x7.rows (by decide) i
  refine ⟨g1, x1, x3.2.1, x3.1, hT2, fun h41 => ?_, fun h41 => ?_⟩
  · have n46 : ¬ gI gs2 4 = 46 := fun z => h41 ((kcs (hS.tok hT2).2.2.1).2.1.mp ((nIx (b := 46) (by have := kc_lt (hS.tok hT2).2.2.1; omega) (by decide)).mp (a2.2.1.symm.trans z)))
    have st3 : stp n hP gt g2 (sI gr1 11 (nI (kc (tk G (j + 1)))), gs2, gc1, 7) = some (sI (sI gr1 11 (nI (kc (tk G (j + 1))))) 10 1, gs2, gc1, 0) := stp_leave (by rw [if_neg (by decide), if_neg (by decide), behind_sort_no n46]) (.inr (by decide))
    exact Rf.mk' ((x3.1.trans (Fr.sI (by decide) _ _)).trans (Fr.sI (by decide) _ _)) (by omega) hT2 (Gos.add (Gos.one (show ¬ (7 : Int32) ≤ 1 by decide) st3) G2) (by omega) a2 (fr1.trans (Fr.sI (by decide) _ _)) (fs1.trans a3) (x8.mono (by decide))
  · have k46 := (kcs (hS.tok hT2).2.2.1).2.1.mpr h41
    have hT3 := tok_more hS hT2 (by omega)
    have e46 : gI gs2 4 = 46 := by rw [a2.2.1, k46]; rfl
    obtain ⟨gs3, b1, b2, b3⟩ := a2.next hS hT3
    have bs := behind_sort (gr := sI (sI gr1 11 (nI (kc (tk G (j + 1))))) 10 1) (gs := gs2) (gc := gc1) (hP := hP) (h := h) (d := d) e46 x4.1 (by omega) x4.2.1 h40
    have st3 : stp n hP gt g2 (sI gr1 11 (nI (kc (tk G (j + 1)))), gs2, gc1, 7) = some (pushG (sI (sI (sI gr1 11 (nI (kc (tk G (j + 1))))) 10 1) 9 (nI (d + 1))) h 66 (gI gr1 12) (nI (kc (tk G (j + 1))) - 28) 0, gs3, gc1, 2) := stp_take (by rw [if_neg (by decide), if_neg (by decide)]; exact bs) rfl (by decide) b1
    refine ⟨_, gs3, gc1, by omega, ⟨3, Gos.add (Gos.one (show ¬ (7 : Int32) ≤ 1 by decide) st3) G2, by omega⟩, ⟨x3.fr (X := [20]) (((Fr.sI (by decide) _ _).trans (Fr.sI (by decide) _ _)).trans (Fr.sI (by decide) _ _)) (by decide) (by decide) rfl x3.2.2.1 x3.2.2.2.1, x4.rd rfl rfl rfl rfl, x5, b2, hT3, by omega, by omega, by omega, by omega, by omega⟩, ⟨((fr1.trans (Fr.sI (by decide) _ _)).trans (Fr.sI (by decide) _ _)).trans ((pushG_fr _ _ _ _ _ _).mono (by decide)), fun i hi => ?_, (fs1.trans a3).trans b3, ⟨x8.mono (by decide), x9⟩, Nk.fr 0 M (X := [20, 23, 24, 25]) ((((Fr.sI (by decide) _ _).trans (x6.mono (by decide))).trans ((Fr.sI (by decide) _ _).trans (Fr.sI (by decide) _ _))).trans (Fr.sI (by decide) _ _)) (by decide)⟩, pushG_rows.2.1, by rw [pushG_rows.2.2.1, e12], ?_, pushG_rows.2.2.2.2⟩
    · obtain ⟨y1, y2, y3, y4⟩ := (pushG_rows (gr := sI (sI (sI gr1 11 (nI (kc (tk G (j + 1))))) 10 1) 9 (nI (d + 1))) (h := h) (o := 66) (p := gI gr1 12) (m := nI (kc (tk G (j + 1))) - 28) (x := 0)).1 i hi
      obtain ⟨z1, z2, z3, z4⟩ := rows1 i
      exact ⟨y1.trans z1, y2.trans z2, y3.trans z3, y4.trans z4⟩
    · rw [pushG_rows.2.2.2.1, ke]
      rw [show tk G (j + 1) - 218 = (tk G (j + 1) - 190) - 28 by omega]
      exact nI_sub (b := 28) (by omega)
/-- levels that begin only at some tokens -/
def LVq (n hP L T : Nat) (g2 G gt : Gs) (B : Nat → Nat) (P : Nat → Prop) (r c D : Nat) (F : Gs → Option (Int32 × Gs)) : Prop := ∀ (g gr gs gc : Gs) (j h d N A M : Nat) (E : Nat → Nat × Nat × Nat), MS n hP L T g2 G gt B g gr gs gc j h d N A M E → P j → Bl gr h r → h + 1 ≤ 7 * d + max r 1 → 10 * (40 - d) + c ≤ D → ∃ b g', F g = some (b, g') ∧ OutL n hP L T g2 G gt B r g gr gs gc j h d N A M E b g'
/-- no sign ahead of a part -/
def nPre (G : Gs) (j : Nat) : Prop := tk G j ≠ 45 ∧ tk G j ≠ 33 ∧ ¬ (tk G j = 40 ∧ 218 ≤ tk G (j + 1) ∧ tk G (j + 1) ≤ 225)
theorem lv_single {n hP L T : Nat} {g2 G gt : Gs} {B : Nat → Nat} {D : Nat} {rc : RCT} (hS : ScR n g2 L B G T) (hF : LV n hP L T g2 G gt B 7 3 D rc.2.2.1) (hPr : LVq n hP L T g2 G gt B (nPre G) 7 2 D rc.2.1) : LV n hP L T g2 G gt B 7 3 (D + 1) (f_X12_single n rc) := by
  intro g gr gs gc j h d N A M E hm hb hh hD
  obtain ⟨m1, m2, m3, m4, m5, m6, m7, m8, m9, m10⟩ := id hm
  have hT := hS.2.2.1
  obtain ⟨t1, t2, t3, t4, t5, t6⟩ := tok9 hS m1.1 m1.2.1 m5
  have dp := deeper12 hS m1.1 m1.2.1 m5 m1.2.2.1 m6
  have bl7 : ∀ {gr2 : Gs} {o : Nat}, gIA gr2 4 h = nI o → o < 100 → Bl gr2 (h + 1) 7 := fun {gr2 o} h4 ho _ => ⟨o, h4, ho, .inl rfl⟩
  -- a part without a sign ahead
  have fP : nPre G j → ∀ b g', rc.2.1 g = some (b, g') → OutL n hP L T g2 G gt B 7 g gr gs gc j h d N A M E b g' → ∀ s0 : Int32, s0 = 0 → b_X12_single_43 n rc g (nI j) (nI (tk G j)) s0 = some (b, g') := by
    intro hp b g' e1 e2 s0 hs0
    unfold b_X12_single_43
    rw [ifN (c := 45) (b := 45) rfl t6 (by decide) hp.1, ifN (c := 33) (b := 33) rfl t6 (by decide) hp.2.1, if_pos hs0, bnd_s e1]
    show grd (zB b) (some (b, g')) = _
    rw [grd_t (one_of e2.b)]
  -- the sign's end
  have fE : ∀ {gC g3 : Gs} {v a s1 : Int32}, Fr parA G gC → f_X12_act gC s1 a (nI (ta G j)) = some (v, g3) → b_X12_single_184 n rc gC (nI j) a s1 = some (1, g3) := by
    intro gC g3 v a s1 hf he
    obtain ⟨_, u2⟩ := go_act hS m5 hf
    unfold b_X12_single_184
    rw [grd_t (inB_nI (by omega) (by decide)), nI_clamp (by omega), u2, bnd_s he]
  have hd1 : ∀ {gC : Gs}, gI gC 25 = nI (d + 1) → gI gC 25 - 1 = nI d := fun z => by rw [z]; exact nI_pred d
  -- - and !
  have fpm : ∀ {o : Nat} {s1 : Int32}, ((kc (tk G j) = 50 ∧ o = 65) ∨ (kc (tk G j) = 54 ∧ o = 54)) → s1 = nI (ro o) → (tk G j = 45 → s1 = 7) → (tk G j ≠ 45 → s1 = 8) → ∃ b g', b_X12_single_65 n rc g (nI j) (nI (tk G j)) 0 = some (b, g') ∧ OutL n hP L T g2 G gt B 7 g gr gs gc j h d N A M E b g' := by
    intro o s1 hK hs hs7 hs8
    obtain ⟨r1, r2⟩ := pre_open hS hm (by omega) hK
    unfold b_X12_single_65
    by_cases h40 : d = 40
    · rw [if_pos h40] at dp
      rw [bnd_s dp]
      exact ⟨0, _, rfl, .inr (.inr ⟨rfl, r1 h40⟩)⟩
    · rw [if_neg h40] at dp
      obtain ⟨g1, gr2, gs2, gc2, x1, x2, x3, hO⟩ := r2 (by omega)
      have e20 : gI (sI g 25 (nI (d + 1))) 20 = nI j := m1.2.1
      have iO : isA o := by unfold isA; omega
      obtain ⟨b, gC, f1, f2⟩ := hF _ gr2 gs2 gc2 (j + 1) (h + 1) (d + 1) (N + 1) A M E hO.2.2.1 (bl7 hO.2.2.2.2.1 (by omega)) (by omega) (by omega)
      rw [bnd_s dp]
      show ∃ b g', bnd (f_X12_node (sI g 25 (nI (d + 1))) (gI (sI g 25 (nI (d + 1))) 20)) _ = some (b, g') ∧ _
      rw [e20, bnd_s x1, x2, nI_1, grd_t (inB_nI (by omega) (by decide)), if_pos rfl]
      unfold b_X12_single_132
      rw [bnd_s f1]
      rcases f2 with ⟨rfl, j3, o1, o2⟩ | ⟨rfl, o1, o2⟩ | ⟨rfl, o1⟩
      · obtain ⟨v, g3, w1, w2, w3, w4⟩ := wrap_pre (a := 0) (x := 0) hT hO o1 iO (fun hC hb h4 h5 _ => by
          have := pop_plain (x := 0) hC hb (by omega) (show dl o ≤ d + 1 by unfold dl; split <;> omega) (.inr (by omega)) h4 h5
          rwa [show d + 1 - dl o = d by rcases hK with ⟨_, rfl⟩ | ⟨_, rfl⟩ <;> rfl] at this) (fun h14 _ h17 => re_P (by unfold opP; omega) h14 h17) m9
        refine ⟨1, g3, ?_, .inl ⟨rfl, j3, w4, o2⟩⟩
        show (if nI (tk G j) = 45 then b_X12_single_174 n rc (sI gC 25 (gI gC 25 - 1)) (nI j) 0 _ 7 else b_X12_single_174 n rc (sI gC 25 (gI gC 25 - 1)) (nI j) 0 _ 8) = _
        unfold b_X12_single_174
        rw [if_pos rfl, if_pos rfl, hd1 w1]
        rw [← hs] at w3
        have fe := fE (w2.trans (Fr.sI (by decide) _ _)) w3
        by_cases h45 : tk G j = 45
        · rw [ifP (c := 45) (b := 45) rfl h45]; rw [hs7 h45] at fe; exact fe
        · rw [ifN (c := 45) (b := 45) rfl t6 (by decide) h45]; rw [hs8 h45] at fe; exact fe
      · omega
      · obtain ⟨c, q2, q3⟩ := hO.2.1
        obtain ⟨j', u1, u2, u3, u4⟩ := o1
        exact ⟨0, gC, rfl, .inr (.inr ⟨rfl, j', u1, u2, u3, u4.after q2 (by omega) (by omega) hO.2.2.2.1⟩)⟩
  -- casts
  have fc : tk G j = 40 → 218 ≤ tk G (j + 1) → tk G (j + 1) ≤ 225 → ∃ b g', b_X12_single_65 n rc g (nI j) (nI (tk G j)) 1 = some (b, g') ∧ OutL n hP L T g2 G gt B 7 g gr gs gc j h d N A M E b g' := by
    intro hK hs1 hs2
    obtain ⟨hT1, r1, _⟩ := paren_one hS hm hK
    unfold b_X12_single_65
    by_cases h40 : d = 40
    · rw [if_pos h40] at dp
      rw [bnd_s dp]
      exact ⟨0, _, rfl, .inr (.inr ⟨rfl, r1 h40⟩)⟩
    · rw [if_neg h40] at dp
      obtain ⟨g1, x1, x2, x3, hT2, y1, y2⟩ := cast_open hS hm (by omega) hK hs1 hs2 (by omega)
      have e20 : gI (sI g 25 (nI (d + 1))) 20 = nI j := m1.2.1
      have e9 : gIA g1 9 (j + 1) = nI (tk G (j + 1)) := by rw [(x3 9 (by decide)).2.2.2.1, (hS.tok hT1).1]
      have nd := need12 (g := sI (sI g1 20 (nI (j + 1))) 20 (nI (j + 2))) (j := j + 2) (K := 41) hS ((x3.trans (Fr.sI (by decide) _ _)).trans (Fr.sI (by decide) _ _)) rfl hT2 (by decide)
      rw [bnd_s dp]
      show ∃ b g', bnd (f_X12_node (sI g 25 (nI (d + 1))) (gI (sI g 25 (nI (d + 1))) 20)) _ = some (b, g') ∧ _
      rw [e20, bnd_s x1, x2, nI_1, grd_t (inB_nI (by omega) (by decide)), if_neg (by decide), nI_1, nI_clamp (by omega), e9, show nI (tk G (j + 1)) - 218 = nI (tk G (j + 1) - 218) from nI_sub (b := 218) hs1]
      show ∃ b g', bnd (f_X12_need (sI (sI g1 20 (nI (j + 1))) 20 (nI (j + 2))) (nI 41)) _ = some (b, g') ∧ _
      by_cases h41 : tk G (j + 2) = 41
      · rw [if_pos h41] at nd
        obtain ⟨gr2, gs2, gc2, hO⟩ := y2 h41
        obtain ⟨b, gC, f1, f2⟩ := hF _ gr2 gs2 gc2 (j + 3) (h + 1) (d + 1) (N + 1) A M E hO.2.2.1 (bl7 hO.2.2.2.2.1 (by omega)) (by omega) (by omega)
        rw [bnd_s nd]
        show ∃ b g', b_X12_single_132 n rc (sI (sI (sI g1 20 (nI (j + 1))) 20 (nI (j + 2))) 20 (nI (j + 3))) (nI j) (nI (tk G j)) 1 (nI (tk G (j + 1) - 218)) = some (b, g') ∧ _
        unfold b_X12_single_132
        rw [bnd_s f1]
        rcases f2 with ⟨rfl, j3, o1, o2⟩ | ⟨rfl, o1, o2⟩ | ⟨rfl, o1⟩
        · obtain ⟨v, g3, w1, w2, w3, w4⟩ := wrap_pre (a := nI (tk G (j + 1) - 218)) (x := tk G (j + 1) - 218) hT hO o1 (.inr (.inr rfl)) (fun hC hb h4 h5 h6 => pop_cast hC hb (by omega) h4 h5 h6) (fun h14 h15 h17 => re_C (by omega) h14 h17 h15) m9
          refine ⟨1, g3, ?_, .inl ⟨rfl, j3, w4, o2⟩⟩
          show (if (1 : Int32) = 0 then _ else b_X12_single_174 n rc (sI gC 25 (gI gC 25 - 1)) (nI j) 1 (nI (tk G (j + 1) - 218)) 9) = _
          unfold b_X12_single_174
          rw [if_neg (by decide), if_neg (by decide), hd1 w1]
          exact fE (w2.trans (Fr.sI (by decide) _ _)) w3
        · omega
        · obtain ⟨c, q2, q3⟩ := hO.2.1
          obtain ⟨j', u1, u2, u3, u4⟩ := o1
          exact ⟨0, gC, rfl, .inr (.inr ⟨rfl, j', u1, u2, u3, u4.after q2 (by omega) (by omega) hO.2.2.2.1⟩)⟩
      · rw [if_neg h41] at nd
        rw [bnd_s nd]
        exact ⟨0, _, rfl, .inr (.inr ⟨rfl, y1 h41⟩)⟩
  -- all
  have f0 : tk G j = 45 ∨ tk G j = 33 ∨ nPre G j → ∃ b g', b_X12_single_43 n rc g (nI j) (nI (tk G j)) 0 = some (b, g') ∧ OutL n hP L T g2 G gt B 7 g gr gs gc j h d N A M E b g' := by
    intro hx
    by_cases h45 : tk G j = 45
    · obtain ⟨b, g', e1, e2⟩ := fpm (o := 65) (s1 := 7) (.inl ⟨(kcs t5).2.2.1.mpr h45, rfl⟩) rfl (fun _ => rfl) (fun z => absurd h45 z)
      refine ⟨b, g', ?_, e2⟩
      unfold b_X12_single_43
      rw [ifP (c := 45) (b := 45) rfl h45]; exact e1
    · by_cases h33 : tk G j = 33
      · obtain ⟨b, g', e1, e2⟩ := fpm (o := 54) (s1 := 8) (.inr ⟨(kcs t5).2.2.2.1.mpr h33, rfl⟩) rfl (fun z => absurd z h45) (fun _ => rfl)
        refine ⟨b, g', ?_, e2⟩
        unfold b_X12_single_43
        rw [ifN (c := 45) (b := 45) rfl t6 (by decide) h45, ifP (c := 33) (b := 33) rfl h33]; exact e1
      · have hp : nPre G j := by
          rcases hx with z | z | z
          · exact absurd z h45
          · exact absurd z h33
          · exact z
        obtain ⟨b, g', e1, e2⟩ := hPr g gr gs gc j h d N A M E hm hp hb hh (by omega)
        exact ⟨b, g', fP hp b g' e1 e2 0 rfl, e2⟩
  unfold f_X12_single b_X12_single_42
  rw [grd_t t1, t2, t3, m1.2.1]
  by_cases h40 : tk G j = 40
  · have hT1 := tok_more hS m5 (by rw [(kcs t5).1.mpr h40]; decide)
    obtain ⟨u1, u2, u3, u4, u5⟩ := hS.tok hT1
    have e9 : gIA g 9 (j + 1) = nI (tk G (j + 1)) := by rw [(m1.1 9 (by decide)).2.2.2.1, u1]
    rw [ifP (c := 40) (b := 40) rfl h40, nI_1, grd_t (inB_nI (by omega) (by decide)), nI_clamp (by omega), e9]
    unfold f_X12_isSort
    by_cases s1 : tk G (j + 1) < 218
    · rw [if_pos (show nI (tk G (j + 1)) < (218 : Int32) from nI_lt (b := 218) s1 (by decide))]
      exact f0 (.inr (.inr ⟨by omega, by omega, by omega⟩))
    · rw [if_neg (show ¬ nI (tk G (j + 1)) < (218 : Int32) from nI_nlt (b := 218) (by omega) (by omega))]
      by_cases s2 : tk G (j + 1) ≤ 225
      · rw [if_neg (show ¬ (225 : Int32) < nI (tk G (j + 1)) from nI_nlt (a := 225) s2 (by decide))]
        show ∃ b g', b_X12_single_43 n rc g (nI j) (nI (tk G j)) 1 = some (b, g') ∧ _
        obtain ⟨b, g', e1, e2⟩ := fc h40 (by omega) s2
        refine ⟨b, g', ?_, e2⟩
        unfold b_X12_single_43
        rw [ifN (c := 45) (b := 45) rfl t6 (by decide) (by omega), ifN (c := 33) (b := 33) rfl t6 (by decide) (by omega), if_neg (by decide)]; exact e1
      · rw [if_pos (show (225 : Int32) < nI (tk G (j + 1)) from nI_lt (a := 225) (by omega) (by omega))]
        exact f0 (.inr (.inr ⟨by omega, by omega, by omega⟩))
  · rw [ifN (c := 40) (b := 40) rfl t6 (by decide) h40]
    by_cases h45 : tk G j = 45
    · exact f0 (.inl h45)
    · by_cases h33 : tk G j = 33
      · exact f0 (.inr (.inl h33))
      · exact f0 (.inr (.inr ⟨h45, h33, fun z => h40 z.1⟩))
