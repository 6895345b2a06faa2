/-! signs of the reference -/
theorem sign12 {g : Gs} {L p T : Nat} {B : Nat → Nat} (h : RefT g L B) (hp : p < 4000) (hT : gI g 8 = nI T) (hT1 : T < 3001) : f_X12_sign g (nI p) = some (tokG g T (sgn (rc L B p) (rc L B (p + 1))).1 p (p + (sgn (rc L B p) (rc L B (p + 1))).2)) := by
  have c1 := h.lt p
  have c2 := h.lt (p + 1)
  unfold f_X12_sign
  rw [bnd_s (at12 h (by omega)), nI_1, bnd_s (at12 h (by omega))]
  generalize rc L B p = c at *
  generalize rc L B (p + 1) = d at *
  have t1 : ∀ K, bnd (f_X12_token g (nI K) (nI p) (nI p + 1)) (fun q => some q) = some (tokG g T K p (p + 1)) := fun K => by rw [nI_1, bnd_s (tok12 hT hT1)]
  have t2 : ∀ K, bnd (f_X12_token g (nI K) (nI p) (nI p + 2)) (fun q => some q) = some (tokG g T K p (p + 2)) := fun K => by rw [show nI p + 2 = nI (p + 2) from nI_add p 2, bnd_s (tok12 hT hT1)]
  unfold b_X12_sign_44 b_X12_sign_48 b_X12_sign_49 b_X12_sign_63 b_X12_sign_72 b_X12_sign_73 b_X12_sign_120 b_X12_sign_151 b_X12_sign_263
  by_cases z60 : c = 60
  · subst z60
    by_cases hd : d = 61
    · subst hd; exact t2 _
    · have hd' : ¬ nI d = 61 := fun z => hd ((nI_eq (b := 61) (by omega) (by decide)).mp z)
      rw [if_neg hd', show sgn 60 d = (60, 1) from by unfold sgn; rw [if_neg (fun z => hd z.1), if_neg (by omega), if_pos (by decide)]]
      exact t1 _
  by_cases z62 : c = 62
  · subst z62
    by_cases hd : d = 61
    · subst hd; exact t2 _
    · have hd' : ¬ nI d = 61 := fun z => hd ((nI_eq (b := 61) (by omega) (by decide)).mp z)
      rw [if_neg hd', show sgn 62 d = (62, 1) from by unfold sgn; rw [if_neg (fun z => hd z.1), if_neg (by omega), if_pos (by decide)]]
      exact t1 _
  by_cases z61 : c = 61
  · subst z61
    by_cases hd : d = 61
    · subst hd; exact t2 _
    · have hd' : ¬ nI d = 61 := fun z => hd ((nI_eq (b := 61) (by omega) (by decide)).mp z)
      rw [if_neg hd', show sgn 61 d = (61, 1) from by unfold sgn; rw [if_neg (fun z => hd z.1), if_neg (by omega), if_pos (by decide)]]
      exact t1 _
  by_cases z33 : c = 33
  · subst z33
    by_cases hd : d = 61
    · subst hd; exact t2 _
    · have hd' : ¬ nI d = 61 := fun z => hd ((nI_eq (b := 61) (by omega) (by decide)).mp z)
      rw [if_neg hd', show sgn 33 d = (33, 1) from by unfold sgn; rw [if_neg (fun z => hd z.1), if_neg (by omega), if_pos (by decide)]]
      exact t1 _
  by_cases z38 : c = 38
  · subst z38
    by_cases hd : d = 38
    · subst hd; exact t2 _
    · have hd' : ¬ nI d = nI 38 := fun z => hd ((nI_eq (by omega) (by decide)).mp z)
      rw [show sgn 38 d = (1, 1) from by unfold sgn; rw [if_neg (by omega), if_neg (fun z => hd z.2), if_neg (by decide)]]
      by_cases h61 : nI d = 61
      · rw [if_pos h61]
        show (if nI d = nI 38 then _ else _) = _
        rw [if_neg hd']; exact t1 1
      · rw [if_neg h61]
        show (if nI d = nI 38 then _ else _) = _
        rw [if_neg hd']; exact t1 1
  by_cases z124 : c = 124
  · subst z124
    by_cases hd : d = 124
    · subst hd; exact t2 _
    · have hd' : ¬ nI d = nI 124 := fun z => hd ((nI_eq (by omega) (by decide)).mp z)
      rw [show sgn 124 d = (1, 1) from by unfold sgn; rw [if_neg (by omega), if_neg (fun z => hd z.2), if_neg (by decide)]]
      by_cases h61 : nI d = 61
      · rw [if_pos h61]
        show (if nI d = nI 124 then _ else _) = _
        rw [if_neg hd']; exact t1 1
      · rw [if_neg h61]
        show (if nI d = nI 124 then _ else _) = _
        rw [if_neg hd']; exact t1 1
  by_cases z58 : c = 58
  · subst z58
    rw [show sgn 58 d = (58, 1) from by unfold sgn; rw [if_neg (by omega), if_neg (by omega), if_pos (by decide)]]
    by_cases h61 : nI d = 61
    · rw [if_pos h61]; exact t1 _
    · rw [if_neg h61]; exact t1 _
  by_cases z59 : c = 59
  · subst z59
    rw [show sgn 59 d = (59, 1) from by unfold sgn; rw [if_neg (by omega), if_neg (by omega), if_pos (by decide)]]
    by_cases h61 : nI d = 61
    · rw [if_pos h61]; exact t1 _
    · rw [if_neg h61]; exact t1 _
  by_cases z44 : c = 44
  · subst z44
    rw [show sgn 44 d = (44, 1) from by unfold sgn; rw [if_neg (by omega), if_neg (by omega), if_pos (by decide)]]
    by_cases h61 : nI d = 61
    · rw [if_pos h61]; exact t1 _
    · rw [if_neg h61]; exact t1 _
  by_cases z63 : c = 63
  · subst z63
    rw [show sgn 63 d = (63, 1) from by unfold sgn; rw [if_neg (by omega), if_neg (by omega), if_pos (by decide)]]
    by_cases h61 : nI d = 61
    · rw [if_pos h61]; exact t1 _
    · rw [if_neg h61]; exact t1 _
  by_cases z40 : c = 40
  · subst z40
    rw [show sgn 40 d = (40, 1) from by unfold sgn; rw [if_neg (by omega), if_neg (by omega), if_pos (by decide)]]
    by_cases h61 : nI d = 61
    · rw [if_pos h61]; exact t1 _
    · rw [if_neg h61]; exact t1 _
  by_cases z41 : c = 41
  · subst z41
    rw [show sgn 41 d = (41, 1) from by unfold sgn; rw [if_neg (by omega), if_neg (by omega), if_pos (by decide)]]
    by_cases h61 : nI d = 61
    · rw [if_pos h61]; exact t1 _
    · rw [if_neg h61]; exact t1 _
  by_cases z91 : c = 91
  · subst z91
    rw [show sgn 91 d = (91, 1) from by unfold sgn; rw [if_neg (by omega), if_neg (by omega), if_pos (by decide)]]
    by_cases h61 : nI d = 61
    · rw [if_pos h61]; exact t1 _
    · rw [if_neg h61]; exact t1 _
  by_cases z93 : c = 93
  · subst z93
    rw [show sgn 93 d = (93, 1) from by unfold sgn; rw [if_neg (by omega), if_neg (by omega), if_pos (by decide)]]
    by_cases h61 : nI d = 61
    · rw [if_pos h61]; exact t1 _
    · rw [if_neg h61]; exact t1 _
  by_cases z43 : c = 43
  · subst z43
    rw [show sgn 43 d = (43, 1) from by unfold sgn; rw [if_neg (by omega), if_neg (by omega), if_pos (by decide)]]
    by_cases h61 : nI d = 61
    · rw [if_pos h61]; exact t1 _
    · rw [if_neg h61]; exact t1 _
  by_cases z45 : c = 45
  · subst z45
    rw [show sgn 45 d = (45, 1) from by unfold sgn; rw [if_neg (by omega), if_neg (by omega), if_pos (by decide)]]
    by_cases h61 : nI d = 61
    · rw [if_pos h61]; exact t1 _
    · rw [if_neg h61]; exact t1 _
  by_cases z42 : c = 42
  · subst z42
    rw [show sgn 42 d = (42, 1) from by unfold sgn; rw [if_neg (by omega), if_neg (by omega), if_pos (by decide)]]
    by_cases h61 : nI d = 61
    · rw [if_pos h61]; exact t1 _
    · rw [if_neg h61]; exact t1 _
  by_cases z47 : c = 47
  · subst z47
    rw [show sgn 47 d = (47, 1) from by unfold sgn; rw [if_neg (by omega), if_neg (by omega), if_pos (by decide)]]
    by_cases h61 : nI d = 61
    · rw [if_pos h61]; exact t1 _
    · rw [if_neg h61]; exact t1 _
  by_cases z37 : c = 37
  · subst z37
    rw [show sgn 37 d = (37, 1) from by unfold sgn; rw [if_neg (by omega), if_neg (by omega), if_pos (by decide)]]
    by_cases h61 : nI d = 61
    · rw [if_pos h61]; exact t1 _
    · rw [if_neg h61]; exact t1 _
  rw [show sgn c d = (1, 1) from by unfold sgn; rw [if_neg (by omega), if_neg (by omega), if_neg (by unfold Sl; simp only [List.mem_cons, List.not_mem_nil, or_false]; omega)]]
  have y60 : ¬ nI c = 60 := fun z => z60 ((nI_eq (b := 60) (by omega) (by decide)).mp z)
  have y62 : ¬ nI c = 62 := fun z => z62 ((nI_eq (b := 62) (by omega) (by decide)).mp z)
  have y61 : ¬ nI c = 61 := fun z => z61 ((nI_eq (b := 61) (by omega) (by decide)).mp z)
  have y33 : ¬ nI c = 33 := fun z => z33 ((nI_eq (b := 33) (by omega) (by decide)).mp z)
  have y38 : ¬ nI c = 38 := fun z => z38 ((nI_eq (b := 38) (by omega) (by decide)).mp z)
  have y124 : ¬ nI c = 124 := fun z => z124 ((nI_eq (b := 124) (by omega) (by decide)).mp z)
  have y58 : ¬ nI c = 58 := fun z => z58 ((nI_eq (b := 58) (by omega) (by decide)).mp z)
  have y59 : ¬ nI c = 59 := fun z => z59 ((nI_eq (b := 59) (by omega) (by decide)).mp z)
  have y44 : ¬ nI c = 44 := fun z => z44 ((nI_eq (b := 44) (by omega) (by decide)).mp z)
  have y63 : ¬ nI c = 63 := fun z => z63 ((nI_eq (b := 63) (by omega) (by decide)).mp z)
  have y40 : ¬ nI c = 40 := fun z => z40 ((nI_eq (b := 40) (by omega) (by decide)).mp z)
  have y41 : ¬ nI c = 41 := fun z => z41 ((nI_eq (b := 41) (by omega) (by decide)).mp z)
  have y91 : ¬ nI c = 91 := fun z => z91 ((nI_eq (b := 91) (by omega) (by decide)).mp z)
  have y93 : ¬ nI c = 93 := fun z => z93 ((nI_eq (b := 93) (by omega) (by decide)).mp z)
  have y43 : ¬ nI c = 43 := fun z => z43 ((nI_eq (b := 43) (by omega) (by decide)).mp z)
  have y45 : ¬ nI c = 45 := fun z => z45 ((nI_eq (b := 45) (by omega) (by decide)).mp z)
  have y42 : ¬ nI c = 42 := fun z => z42 ((nI_eq (b := 42) (by omega) (by decide)).mp z)
  have y47 : ¬ nI c = 47 := fun z => z47 ((nI_eq (b := 47) (by omega) (by decide)).mp z)
  have y37 : ¬ nI c = 37 := fun z => z37 ((nI_eq (b := 37) (by omega) (by decide)).mp z)
  simp only [if_neg y60, if_neg y62, if_neg y61, if_neg y33, if_neg y38, if_neg y124, if_neg y58, if_neg y59, if_neg y44, if_neg y63, if_neg y40, if_neg y41, if_neg y91, if_neg y93, if_neg y43, if_neg y45, if_neg y42, if_neg y47, if_neg y37]
  by_cases h61 : nI d = 61
  · rw [if_pos h61]; exact t1 1
  · rw [if_neg h61]; exact t1 1
