/-! parsing: the end of what a bracket holds -/
theorem Pd.leaf {n hP L T : Nat} {g2 G gt : Gs} {B : Nat → Nat} {r : Nat} {g gr gs gc g' gr0 gs0 gc0 : Gs} {j h d N A M j' N' A' M' mm c : Nat} {E E' : Nat → Nat × Nat × Nat} (hg : Gos n hP gt g2 c (gr, gs, gc, 2) (gr0, gs0, gc0, 3)) (hc : c ≤ 2 * (j' - j)) (hj : j < j') (hm : MS n hP L T g2 G gt B g' gr0 gs0 gc0 j' h d N' A' M' E') (hk : Kp gr gs gc g gr0 gs0 gc0 g' h M) (ha : 3 * A' + 5 * N + 2 ≤ 5 * N' + 3 * A ∧ N' + j ≤ N + j' ∧ M' + j ≤ M + j' ∧ A ≤ A' ∧ M ≤ M') (hE : ∀ i, i < A → E' i = E i) (hN : Nm G g' E' A A' M M' j j') (he : Eg E' mm A A') : Pd n hP L T g2 G gt B r g gr gs gc j h d N A M E g' j' := by
  obtain ⟨m1, m2, m3, m4, m5, m6, m7, m8⟩ := hm
  refine ⟨c, 0, N', A', M', mm, E', gr0, gs0, gc0, sI gr0 10 1, gc0, hg, hc, hj, rfl, m2.1, by omega, fun i i1 i2 => by omega, ⟨m1, m2.rd m2.1 m2.2.1 rfl rfl, m3, m4, m5, m6, m7, m8⟩, ?_, ha, hE, hN, he⟩
  obtain ⟨k1, k2, k3⟩ := hk
  exact ⟨k1.trans (Fr.sI (by decide) _ _), k2, k3⟩
theorem Rf.mk' {n hP L T : Nat} {g2 G gt : Gs} {B : Nat → Nat} {gr gs gc gX gr' gs' gc' : Gs} {j j' c : Nat} (hf : Fr parA G gX) (hj : j ≤ j') (hT : j' < T) (hg : Gos n hP gt g2 c (gr, gs, gc, 2) (gr', gs', gc', 0)) (hc : c ≤ 2 * (j' - j) + 1) (ht : TokAt L B G gt j' gs') (h1 : Fr rdA gr gr') (h2 : Fr scA gs gs') (h3 : Fr cdA gc gc') : Rf n hP L T g2 G gt B gr gs gc j (sI (sI gX 21 1) 22 (nI (ta G j'))) := ⟨j', rfl, rfl, (hf.trans (Fr.sI (by decide) _ _)).trans (Fr.sI (by decide) _ _), hj, hT, c, gr', gs', gc', hg, hc, ht, h1, h2, h3⟩
theorem Rf.of {n hP L T : Nat} {g2 G gt : Gs} {B : Nat → Nat} {gr gs gc gX : Gs} {j j' : Nat} (hf : Fr parA G gX) (hr : Rfd n hP L T g2 G gt B gr gs gc j j') : Rf n hP L T g2 G gt B gr gs gc j (sI (sI gX 21 1) 22 (nI (ta G j'))) := ⟨j', rfl, rfl, (hf.trans (Fr.sI (by decide) _ _)).trans (Fr.sI (by decide) _ _), hr⟩
theorem sg_all {n hP h o K : Nat} {gr0 gs0 gc0 gr1 gc1 : Gs} (cl : f_X5_closeParts n hP (sI gr0 10 1) gc0 (nI 0) (sgB true) = some (gr1, gc1)) (h8 : gI gr1 8 = nI (h + 1)) (hh : h < 320) (h4 : gIA gr1 4 h = nI o) (ho : o < 100) (h4s : gI gs0 4 = nI K) (hK : K < 100) (hr : rk K = 0) (h44 : K ≠ 44) : (K = 40 → f_X5_readSign n hP (sI gr0 10 1) gs0 gc0 = if o = 44 then bnd (f_X5_readElse hP gr1 gc1) (fun q => some (q.1, q.2.1, q.2.2)) else some (0, gr1, gc1)) ∧ (K = 42 → f_X5_readSign n hP (sI gr0 10 1) gs0 gc0 = bnd (f_X5_readComma gr1 (nI o)) (fun q => some (q.1, q.2, gc1))) ∧ (K = 46 → f_X5_readSign n hP (sI gr0 10 1) gs0 gc0 = bnd (f_X5_closeRound hP gr1 gc1 (nI o)) (fun q => some (q.1, q.2.1, q.2.2))) ∧ (K = 48 → f_X5_readSign n hP (sI gr0 10 1) gs0 gc0 = bnd (f_X5_closeSquare hP gr1 gc1 (nI o)) (fun q => some (q.1, q.2.1, q.2.2))) ∧ (K ≠ 40 → K ≠ 42 → K ≠ 46 → K ≠ 48 → f_X5_readSign n hP (sI gr0 10 1) gs0 gc0 = some (0, gr1, gc1)) := by
  have e : f_X5_readSign n hP (sI gr0 10 1) gs0 gc0 = (if nI K = (40 : Int32) then (if nI o = (44 : Int32) then (bnd (f_X5_readElse hP gr1 gc1) (fun q_6 => some (q_6.1, q_6.2.1, q_6.2.2))) else (some ((0 : Int32), gr1, gc1))) else (if nI K = (41 : Int32) then (some ((0 : Int32), gr1, gc1)) else (if nI K = (42 : Int32) then (bnd (f_X5_readComma gr1 (nI o)) (fun q_8 => some (q_8.1, q_8.2, gc1))) else (if nI K = (43 : Int32) then (some ((0 : Int32), gr1, gc1)) else (if nI K = (44 : Int32) then (some ((0 : Int32), gr1, gc1)) else (if nI K = (45 : Int32) then (some ((0 : Int32), gr1, gc1)) else (if nI K = (46 : Int32) then (bnd (f_X5_closeRound hP gr1 gc1 (nI o)) (fun q_10 => some (q_10.1, q_10.2.1, q_10.2.2))) else (if nI K = (47 : Int32) then (some ((0 : Int32), gr1, gc1)) else (if nI K = (48 : Int32) then (bnd (f_X5_closeSquare hP gr1 gc1 (nI o)) (fun q_12 => some (q_12.1, q_12.2.1, q_12.2.2))) else (some ((0 : Int32), gr1, gc1))))))))))) := by
    unfold f_X5_readSign b_X5_readSign_43
    rw [h4s, bnd_s (rank7 hK), hr, if_pos (show nI 0 ≤ 0 by decide), ifN (c := 44) (b := 44) rfl (by omega) (by decide) h44, bnd_s (show f_X5_closeParts n hP (sI gr0 10 1) gc0 0 1 = some (gr1, gc1) from cl)]
    show (if nI K = (44 : Int32) then _ else if gI gr1 8 = 0 then _ else _) = _
    rw [ifN (c := 44) (b := 44) rfl (by omega) (by decide) h44, h8, if_neg (show ¬ nI (h + 1) = (0 : Int32) from fun z => by have := (nI_eq (b := 0) (by omega) (by decide)).mp z; omega), nI_pred h, grd_t (inB_nI hh (by decide)), nI_clamp (by omega), h4]
  refine ⟨fun z => ?_, fun z => ?_, fun z => ?_, fun z => ?_, fun z1 z2 z3 z4 => ?_⟩
  · rw [e, ifP (c := 40) (b := 40) rfl z]
    by_cases h2 : o = 44
    · rw [ifP (c := 44) (b := 44) rfl h2, if_pos h2]
    · rw [ifN (c := 44) (b := 44) rfl (by omega) (by decide) h2, if_neg h2]
  · rw [e, ifN (c := 40) (b := 40) rfl (by omega) (by decide) (by omega), ifN (c := 41) (b := 41) rfl (by omega) (by decide) (by omega), ifP (c := 42) (b := 42) rfl z]
  · rw [e, ifN (c := 40) (b := 40) rfl (by omega) (by decide) (by omega), ifN (c := 41) (b := 41) rfl (by omega) (by decide) (by omega), ifN (c := 42) (b := 42) rfl (by omega) (by decide) (by omega), ifN (c := 43) (b := 43) rfl (by omega) (by decide) (by omega), ifN (c := 44) (b := 44) rfl (by omega) (by decide) (by omega), ifN (c := 45) (b := 45) rfl (by omega) (by decide) (by omega), ifP (c := 46) (b := 46) rfl z]
  · rw [e, ifN (c := 40) (b := 40) rfl (by omega) (by decide) (by omega), ifN (c := 41) (b := 41) rfl (by omega) (by decide) (by omega), ifN (c := 42) (b := 42) rfl (by omega) (by decide) (by omega), ifN (c := 43) (b := 43) rfl (by omega) (by decide) (by omega), ifN (c := 44) (b := 44) rfl (by omega) (by decide) (by omega), ifN (c := 45) (b := 45) rfl (by omega) (by decide) (by omega), ifN (c := 46) (b := 46) rfl (by omega) (by decide) (by omega), ifN (c := 47) (b := 47) rfl (by omega) (by decide) (by omega), ifP (c := 48) (b := 48) rfl z]
  · rw [e, ifN (c := 40) (b := 40) rfl (by omega) (by decide) z1, ifN (c := 42) (b := 42) rfl (by omega) (by decide) z2, ifN (c := 46) (b := 46) rfl (by omega) (by decide) z3, ifN (c := 48) (b := 48) rfl (by omega) (by decide) z4]
    repeat' refine ite_eq' (fun _ => rfl) ?_
    rfl
def Fits (o : Nat) (x : Int32) (K : Nat) : Prop := (o = 45 ∧ K = 46) ∨ (19 ≤ o ∧ o ≤ 22 ∧ K = 46) ∨ (23 ≤ o ∧ o ≤ 25 ∧ ((x = 0 ∧ K = 42) ∨ (¬ x = 0 ∧ K = 46))) ∨ (o = 64 ∧ K = 48) ∨ (o = 44 ∧ K = 40)
theorem round_no {gr gc : Gs} {hP h o : Nat} (h8 : gI gr 8 = nI (h + 1)) (hh : h < 320) (ho : (19 ≤ o ∧ o ≤ 25) ∨ o = 64 ∨ o = 44) (hf : ¬ Fits o (gIA gr 7 h) 46) : f_X5_closeRound hP gr gc (nI o) = some (0, gr, gc) := by
  by_cases hF : o ≤ 25
  · have o23 : 23 ≤ o := by
      by_cases z : 23 ≤ o
      · exact z
      · exact absurd (.inr (.inl ⟨by omega, by omega, rfl⟩)) hf
    have h7 : gIA gr 7 h = 0 := Decidable.byContradiction fun z => hf (.inr (.inr (.inl ⟨o23, hF, .inr ⟨z, rfl⟩⟩)))
    unfold f_X5_closeRound b_X5_closeRound_17 b_X5_closeRound_28
    rw [if_neg (show ¬ nI o < (19 : Int32) from nI_nlt (b := 19) (by omega) (by omega)), if_neg (show ¬ (25 : Int32) < nI o from nI_nlt (a := 25) hF (by omega)), ifN (c := 45) (b := 45) rfl (by omega) (by decide) (by omega), if_neg (show ¬ (1 : Int32) = 0 by decide), bnd_s (two7 (by omega)), if_pos (show o = 23 ∨ o = 24 ∨ o = 25 by omega), if_neg (show ¬ (1 : Int32) = 0 by decide), h8, nI_pred h, grd_t (inB_nI hh (by decide)), nI_clamp (by omega), if_pos h7]
  · unfold f_X5_closeRound b_X5_closeRound_16 b_X5_closeRound_17
    rw [if_neg (show ¬ nI o < (19 : Int32) from nI_nlt (b := 19) (by omega) (by omega)), if_pos (show (25 : Int32) < nI o from nI_lt (a := 25) (by omega) (by omega)), ifN (c := 45) (b := 45) rfl (by omega) (by decide) (by omega), if_pos rfl]
/-- below a bracket nothing is closed -/
theorem br_open {o : Nat} {e : Bool} (ho : o = 45 ∨ (19 ≤ o ∧ o ≤ 25) ∨ o = 64 ∨ o = 44) : ¬ clsd o 0 e ∧ o < 100 ∧ rk o = 0 := by
  have h1 : rk o = 0 := by
    by_cases h : 0 < rk o
    · have := rk_ge h; omega
    · omega
  refine ⟨?_, by omega, h1⟩
  rintro (z | z | z | z)
  · unfold isA at z; omega
  · omega
  · omega
  · omega
theorem PF_cl0 {o : Nat} (h : PF 0 o) : clsd o 0 true := by
  rcases h with z | z | z
  · exact .inl z
  · exact .inr (.inr (.inl (by omega)))
  · exact .inr (.inl ⟨z.2, rfl⟩)
theorem TC0 {K : Nat} (h : TC 0 K) : rk K = 0 ∧ K ≠ 44 := by unfold TC at h; rw [if_pos rfl] at h; exact h
theorem end_refuse {n hP L T : Nat} {g2 G gt : Gs} {B : Nat → Nat} {g gr gs gc gC : Gs} {j h d N A M j3 o : Nat} {E : Nat → Nat × Nat × Nat} (hS : ScR n g2 L B G T) (hn : 20000 ≤ n) (hp : Pd n hP L T g2 G gt B 0 g gr gs gc j (h + 1) d N A M E gC j3) (ht : TC 0 (kc (tk G j3))) (h4 : gIA gr 4 h = nI o) (ho : o = 45 ∨ (19 ≤ o ∧ o ≤ 25) ∨ o = 64 ∨ o = 44) (hf : ¬ Fits o (gIA gr 7 h) (kc (tk G j3))) : Rfd n hP L T g2 G gt B gr gs gc j j3 := by
  obtain ⟨t1, t2⟩ := TC0 ht
  obtain ⟨b1, b2, b3⟩ := br_open (e := true) ho
  obtain ⟨c, m, N', A', M', mm', E', gr0, gs0, gc0, gr1, gc1, p1, p2, p3, p4, p5, p6, p7, p8, p9, _, p15, p16, p17⟩ := hp
  obtain ⟨m1, m2, m3, m4, m5, m6, m7, m8, m9, m10⟩ := id p8
  have hK3 := kc_lt (hS.tok m5).2.2.1
  obtain ⟨r4, r5, r6, r7⟩ := p9.2.1 h (by omega)
  rw [← r7] at hf
  have t4 : gIA gr1 4 h = nI o := r4.trans h4
  have cl := pend_close (r := 0) (ρ := 0) (e := true) hn (by omega) p4 p5 p6 p7 (fun o _ => PF_cl0) (fun _ => ⟨o, t4, b2, b1⟩)
  obtain ⟨s1, s2, s3, s4, s5⟩ := sg_all cl m2.1 (by omega) t4 b2 m4.2.1 hK3 t1 t2
  have rs : f_X5_readSign n hP (sI gr0 10 1) gs0 gc0 = some (0, gr1, gc1) := by
    by_cases k40 : kc (tk G j3) = 40
    · rw [s1 k40, if_neg (fun z => hf (.inr (.inr (.inr (.inr ⟨z, k40⟩)))))]
    · by_cases k42 : kc (tk G j3) = 42
      · have e := comma7 (gr := gr1) (h := h) (o := o) m2.1 (by omega) b2
        rw [if_neg (fun z => hf (.inr (.inr (.inl ⟨by omega, by omega, .inl ⟨z.2, k42⟩⟩))))] at e
        rw [s2 k42, bnd_s e]
      · by_cases k46 : kc (tk G j3) = 46
        · rw [k46] at hf
          have o45 : o ≠ 45 := fun z => hf (.inl ⟨z, rfl⟩)
          rw [s3 k46, bnd_s (round_no (gc := gc1) (hP := hP) m2.1 (by omega) (ho.resolve_left o45) hf)]
        · by_cases k48 : kc (tk G j3) = 48
          · rw [s4 k48, bnd_s (square_no (gr := gr1) (gc := gc1) (hP := hP) b2 (fun z => hf (.inr (.inr (.inr (.inl ⟨z, k48⟩))))))]
          · exact s5 k40 k42 k46 k48
  have st : stp n hP gt g2 (gr0, gs0, gc0, 3) = some (gr1, gs0, gc1, 0) := stp_leave (by rw [if_pos rfl]; exact rs) (.inr (by decide))
  exact ⟨by omega, m5, _, gr1, gs0, gc1, Gos.add (Gos.one (show ¬ (3 : Int32) ≤ 1 by decide) st) p1, by omega, m4, p9.1, p9.2.2.1, p9.2.2.2.1.1⟩
