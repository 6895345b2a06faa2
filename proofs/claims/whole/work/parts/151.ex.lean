/-! what is put on the stacks; teeth; skips; then whole codes -/
/-- the reference puts a value on -/
theorem done_push {n : Nat} {g : Gs} {K T : Nat} {x : Int64} (hK : K < 8000) (hT : gI g 93 = nI T) (hT2 : T + 1 ≤ 400) (h : (gIA g 14 K = 1 ∧ x = gLA g 18 K) ∨ (gIA g 14 K = 2 ∧ x = gL g 87) ∨ (gIA g 14 K = 3 ∧ x = gL g 91) ∨ (gIA g 14 K = 4 ∧ ∃ a, a < 40 ∧ gIA g 15 K = nI a ∧ x = gLA g 80 a) ∨ (gIA g 14 K = 5 ∧ ∃ a, a < 40 ∧ gIA g 15 K = nI a ∧ x = gLA g 81 a)) : f_X12_done n g (nI K) = some (1, sI (sLA g 92 (vp_updL (gLA g 92) T x)) 93 (nI (T + 1))) := by
  have bK : inB (nI K) 8000 = true := inB_nI hK (by decide)
  have cK : (nI K).toNatClampNeg = K := nI_clamp (by omega)
  have eh : ∀ y, f_X12_hold g y = some (sI (sLA g 92 (vp_updL (gLA g 92) T y)) 93 (nI (T + 1))) := by
    intro y
    unfold f_X12_hold
    rw [hT, grd_t (inB_nI (by omega) (by decide)), nI_clamp (by omega), nI_1]
  unfold f_X12_done
  rw [grd_t bK, grd_t bK, cK]
  rcases h with ⟨h1, rfl⟩ | ⟨h1, rfl⟩ | ⟨h1, rfl⟩ | ⟨h1, a, a4, ha, rfl⟩ | ⟨h1, a, a4, ha, rfl⟩
  · rw [if_pos h1, grd_t bK, bnd_s (eh _)]
  · rw [h1, if_neg (by decide), if_pos rfl, bnd_s (eh _)]
  · rw [h1, if_neg (by decide), if_neg (by decide), if_pos rfl, bnd_s (eh _)]
  · rw [h1, if_neg (by decide), if_neg (by decide), if_neg (by decide), if_pos rfl, ha, grd_t (inB_nI a4 (by decide)), nI_clamp (by omega), bnd_s (eh _)]
  · rw [h1, if_neg (by decide), if_neg (by decide), if_neg (by decide), if_neg (by decide), if_pos rfl, ha, grd_t (inB_nI a4 (by decide)), nI_clamp (by omega), bnd_s (eh _)]
theorem out_push {g gm : Gs} {T K t : Nat} {x w : Int64} {d : UInt64} (hTm : gI gm 4 = nI T) (hT2 : T + 1 ≤ 400) (hv : VR t x w d) (hi : VI t x) : Out g gm T K t (some (1, sI (sLA g 92 (vp_updL (gLA g 92) T x)) 93 (nI (T + 1)))) (f_X1_push gm w d) := by
  have ec : f_X1_push gm w d = some (sI (sDA (sLA gm 2 (vp_updL (gLA gm 2) T w)) 3 (vf_upd (gDA gm 3) T d)) 4 (nI (T + 1))) := by
    unfold f_X1_push
    rw [hTm, if_neg (show ¬ (512 : Int32) ≤ nI T from nI_ge (b := 512) (by omega) (by decide)), grd_t (inB_nI (by omega) (by decide)), grd_t (inB_nI (by omega) (by decide)), nI_clamp (by omega), nI_1]
  rw [ec]
  left
  refine ⟨_, _, rfl, rfl, (Fr.sLA (by decide) _ _).trans (Fr.sI (by decide) _ _), ((Fr.sLA (by decide) _ _).trans (Fr.sDA (by decide) _ _)).trans (Fr.sI (by decide) _ _), rfl, rfl, ?_, ?_, ?_, ?_, rfl⟩
  · intro j hj
    exact pk_uLn (by omega)
  · intro j hj
    refine ⟨pk_uLn (by omega), ?_⟩
    show vf_upd (gDA gm 3) T d j = _
    unfold vf_upd; rw [if_neg (by omega)]
  · have a1 : gLA (sI (sLA g 92 (vp_updL (gLA g 92) T x)) 93 (nI (T + 1))) 92 T = x := pk_uLs
    have a2 : gLA (sI (sDA (sLA gm 2 (vp_updL (gLA gm 2) T w)) 3 (vf_upd (gDA gm 3) T d)) 4 (nI (T + 1))) 2 T = w := pk_uLs
    have a3 : gDA (sI (sDA (sLA gm 2 (vp_updL (gLA gm 2) T w)) 3 (vf_upd (gDA gm 3) T d)) 4 (nI (T + 1))) 3 T = d := by
      show vf_upd (gDA gm 3) T d T = d
      unfold vf_upd; rw [if_pos rfl]
    rw [a1, a2, a3]; exact hv
  · have a1 : gLA (sI (sLA g 92 (vp_updL (gLA g 92) T x)) 93 (nI (T + 1))) 92 T = x := pk_uLs
    rw [a1]; exact hi
/-- the teeth of both sides -/
def TeR (g gp : Gs) (cams : Nat) : Prop := (cams ≤ 8 ∧ gI gp 6 = nI cams) ∧ ∀ a, a < cams → gIA gp 13 a = gIA g 78 a ∧ ∃ m, m ≤ 24 ∧ gIA g 78 a = nI m ∧ ∀ k, k < m → VR 7 (gLA g 79 (24 * a + k)) 0 (gDA gp 12 (24 * a + k))
theorem work_tooth {n : Nat} {g gm gp : Gs} {T K s a cams : Nat} (hR : TeR g gp cams) (ha : a < cams) (hK : K < 8000) (hT : gI g 93 = nI (T + 1)) (hT2 : T + 1 ≤ 400) (hTm : gI gm 4 = nI (T + 1)) (h14 : gIA g 14 K = 6) (h15 : gIA g 15 K = nI a) (hs : s ≤ 5) (hv : VR s (gLA g 92 T) (gLA gm 2 T) (gDA gm 3 T)) : Out g gm T K 7 (f_X12_done n g (nI K)) (f_X1_takeTooth gm gp (nI a)) := by
  obtain ⟨⟨c8, c6⟩, hR⟩ := hR
  obtain ⟨r1, m, m1, m2, m3⟩ := hR a ha
  have e1 : gI gm 4 - (1 : Int32) = nI T := by rw [hTm]; exact nI_pred T
  have hw := (VR.whole hs).mp hv
  rw [done_6 hK hT hT2 h14 h15 (by omega)]
  unfold f_X1_takeTooth b_X1_takeTooth_52
  rw [e1, if_neg (nI_pos (by omega)), if_neg (nI_pos (by omega)), c6, if_pos (nI_lt ha (by omega)), grd_t (inB_nI (by omega) (by decide)), nI_clamp (by omega), grd_t (inB_nI (by omega) (by decide)), nI_clamp (n := a) (by omega), r1, m2, nI_l (by omega), ← hw]
  have jam : Out g gm T K 7 (some (0, sI (sI g 95 4) 96 (gIA g 17 K))) (some (sI gm 5 4)) :=
    .inr ⟨_, _, rfl, rfl, (Fr.sI (by decide) _ _).trans (Fr.sI (by decide) _ _), Fr.sI (by decide) _ _, by show (4 : Int32) ≠ 0; decide, rfl, rfl⟩
  by_cases h0 : gLA g 92 T < 0
  · rw [if_pos h0, if_pos h0]; exact jam
  · rw [if_neg h0, if_neg h0]
    obtain ⟨k, k1, k2⟩ := pk_lOf h0
    rw [k2]
    by_cases hk : k < m
    · have kk := (pk_lLT k1 (show m < 2 ^ 63 by omega)).mpr hk
      have x1 : (24 : Int32) * nI a + (lN k).toInt32 = nI (24 * a + k) := by
        rw [lN_i]
        show nI 24 * nI a + nI k = _
        rw [pk_mul, nI_add]
      have x2 : nI a * (24 : Int32) + (lN k).toInt32 = nI (24 * a + k) := by
        rw [lN_i]
        show nI a * nI 24 + nI k = _
        rw [pk_mul, nI_add, Nat.mul_comm]
      rw [if_pos kk, if_pos kk, x1, x2, grd_t (inB_nI (by omega) (by decide)), grd_t (inB_nI (by omega) (by decide)), grd_t (inB_nI (by omega) (by decide)), nI_clamp (by omega)]
      refine out_403 hT hT2 hTm (Sc.refl g) Mr.setD rfl ?_ (fun h => absurd h (by decide))
      have := m3 k hk
      rw [VR.seven] at this ⊢
      exact this
    · have kk : ¬ lN k < lN m := fun z => hk ((pk_lLT k1 (show m < 2 ^ 63 by omega)).mp z)
      rw [if_neg kk, if_neg kk]; exact jam
/-! the class's skips -/
theorem skip_ao {gm gc : Gs} {j T A : Nat} (e : Bool) (hj : j < 840) (hT : gI gm 4 = nI (T + 1)) (hT2 : T + 1 ≤ 400) (hA : gIA gc 5 j = nI A) (hA2 : j < A) (hA3 : A < 840) : f_X1_skip gm gc (nI j) (if e = true then 68 else 67) = if (if gLA gm 2 T = 0 then false else true) = e then some (nI A, gm) else some (nI j, sI gm 4 (nI T)) := by
  have bj : inB (nI j) 840 = true := inB_nI hj (by decide)
  have cj : (nI j).toNatClampNeg = j := nI_clamp (by omega)
  have e1 : gI gm 4 - (1 : Int32) = nI T := by rw [hT]; exact nI_pred T
  unfold f_X1_skip b_X1_skip_67 b_X1_skip_82 b_X1_skip_90 b_X1_skip_103 b_X1_skip_113
  rw [e1, if_pos (nI_pos' (by omega)), if_neg (show ¬ (if e = true then (68 : Int32) else 67) = 70 by cases e <;> decide), grd_t (inB_nI (by omega) (by decide)), nI_clamp (by omega), bj, cj, hA, if_pos (nI_lt hA2 (by omega))]
  by_cases c : gLA gm 2 T = 0
  · rw [if_pos c, if_pos c]
    cases e <;> rfl
  · rw [if_neg c, if_neg c]
    cases e <;> rfl
theorem skip_if {gm gc : Gs} {j T A : Nat} (hj : j < 840) (hT : gI gm 4 = nI (T + 1)) (hT2 : T + 1 ≤ 400) (hA : gIA gc 5 j = nI A) (hA2 : j < A) (hA3 : A < 840) : f_X1_skip gm gc (nI j) 69 = if gLA gm 2 T = 0 then some (nI A, sI gm 4 (nI T)) else some (nI j, sI gm 4 (nI T)) := by
  have bj : inB (nI j) 840 = true := inB_nI hj (by decide)
  have cj : (nI j).toNatClampNeg = j := nI_clamp (by omega)
  have e1 : gI gm 4 - (1 : Int32) = nI T := by rw [hT]; exact nI_pred T
  unfold f_X1_skip b_X1_skip_67 b_X1_skip_82 b_X1_skip_90 b_X1_skip_103 b_X1_skip_113
  rw [e1, if_pos (nI_pos' (by omega)), if_neg (by decide), grd_t (inB_nI (by omega) (by decide)), nI_clamp (by omega), bj, cj, hA, if_pos (nI_lt hA2 (by omega))]
  by_cases c : gLA gm 2 T = 0
  · rw [if_pos c, if_pos c]
    rfl
  · rw [if_neg c, if_neg c]
    rfl
theorem skip_else {gm gm' gc : Gs} {j T A a t : Nat} (hj : j < 840) (hT : gI gm 4 = nI (T + 1)) (hT2 : T + 1 ≤ 400) (hA : gIA gc 5 j = nI A) (hA2 : j < A) (hA3 : A < 840) (h3 : gIA gc 3 j = nI a) (h2 : gIA gc 2 j = nI t) (hb : f_X1_become gm (nI T) (nI a) (nI t) = some gm') : f_X1_skip gm gc (nI j) 70 = some (nI A, gm') := by
  have bj : inB (nI j) 840 = true := inB_nI hj (by decide)
  have cj : (nI j).toNatClampNeg = j := nI_clamp (by omega)
  have e1 : gI gm 4 - (1 : Int32) = nI T := by rw [hT]; exact nI_pred T
  unfold f_X1_skip
  rw [e1, if_pos (nI_pos' (by omega)), if_pos rfl, grd_t bj, grd_t bj, cj, h3, h2, bnd_s hb, grd_t bj, hA, if_pos (nI_lt hA2 (by omega))]
theorem done_two {n : Nat} {g : Gs} {K : Nat} (hK : K < 8000) (h : gIA g 14 K = 11 ∨ gIA g 14 K = 12) : f_X12_done n g (nI K) = bnd (f_X12_joins n g (nI K)) (fun q => grd (zB q.1) (some (q.1, q.2))) := by
  have bK : inB (nI K) 8000 = true := inB_nI hK (by decide)
  have cK : (nI K).toNatClampNeg = K := nI_clamp (by omega)
  unfold f_X12_done
  rw [grd_t bK, grd_t bK, cK]
  rcases h with h | h
  · rw [h, if_neg (by decide), if_neg (by decide), if_neg (by decide), if_neg (by decide), if_neg (by decide), if_neg (by decide), if_neg (by decide), if_neg (by decide), if_neg (by decide), if_neg (by decide), if_pos rfl]
  · rw [h, if_neg (by decide), if_neg (by decide), if_neg (by decide), if_neg (by decide), if_neg (by decide), if_neg (by decide), if_neg (by decide), if_neg (by decide), if_neg (by decide), if_neg (by decide), if_neg (by decide), if_pos rfl]
theorem Out.two {n : Nat} {g gm : Gs} {T K t : Nat} {cls : Option Gs} (hK : K < 8000) (h : gIA g 14 K = 11 ∨ gIA g 14 K = 12) (ho : Out g gm T K t (f_X12_joins n g (nI K)) cls) : Out g gm T K t (f_X12_done n g (nI K)) cls := by
  rw [done_two hK h]
  rcases ho with ⟨g', gm', h1, h2⟩ | ⟨g', gm', h1, h2⟩
  · rw [bnd_s h1]; exact .inl ⟨g', gm', rfl, h2⟩
  · rw [bnd_s h1]; exact .inr ⟨g', gm', rfl, h2⟩
