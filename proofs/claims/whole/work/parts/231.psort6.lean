/-! sorts: entries of two values, both sides at once -/
theorem two_kinds {k o : Nat} (hk : k ∈ KS) (h : kc k = o) (ho : opT o) (h22 : ¬ o ≤ 22) : (((k = 43 ∧ o = 49) ∨ (k = 45 ∧ o = 50) ∨ (k = 42 ∧ o = 51) ∨ (k = 47 ∧ o = 52) ∨ (k = 37 ∧ o = 53)) ∧ ro o = 12) ∨ (((k = 60 ∧ o = 55) ∨ (k = 62 ∧ o = 56) ∨ (k = 188 ∧ o = 57) ∨ (k = 190 ∧ o = 58)) ∧ ro o = 12) ∨ (((k = 189 ∧ o = 59) ∨ (k = 161 ∧ o = 60)) ∧ ro o = 12) ∨ (((k = 213 ∧ o = 23) ∨ (k = 214 ∧ o = 24)) ∧ ro o = 11) ∨ ((k = 215 ∧ o = 25) ∧ ro o = 11) := by
  have H : ∀ k ∈ KS, ((19 ≤ kc k ∧ kc k ≤ 25) ∨ (49 ≤ kc k ∧ kc k ≤ 53) ∨ (55 ≤ kc k ∧ kc k ≤ 60)) → ¬ kc k ≤ 22 → (((k = 43 ∧ kc k = 49) ∨ (k = 45 ∧ kc k = 50) ∨ (k = 42 ∧ kc k = 51) ∨ (k = 47 ∧ kc k = 52) ∨ (k = 37 ∧ kc k = 53)) ∧ ro (kc k) = 12) ∨ (((k = 60 ∧ kc k = 55) ∨ (k = 62 ∧ kc k = 56) ∨ (k = 188 ∧ kc k = 57) ∨ (k = 190 ∧ kc k = 58)) ∧ ro (kc k) = 12) ∨ (((k = 189 ∧ kc k = 59) ∨ (k = 161 ∧ kc k = 60)) ∧ ro (kc k) = 12) ∨ (((k = 213 ∧ kc k = 23) ∨ (k = 214 ∧ kc k = 24)) ∧ ro (kc k) = 11) ∨ ((k = 215 ∧ kc k = 25) ∧ ro (kc k) = 11) := by decide
  rw [← h] at ho h22 ⊢
  exact H k hk ho h22
theorem so_two {g gT gc gp : Gs} {many cams i T l r : Nat} {X : Nat → Nat} {q : Nat × Nat × Nat} (h : St g gT (T + 2) X) (hT : T + 2 ≤ 400) (hi : i < 840) (hl : X T = l) (hr : X (T + 1) = r) (hS : Sd g gc gp many cams i q) (ho : opT q.1) (h22 : ¬ q.1 ≤ 22) : SoF g gT gc i (f_X12_sorted g (nI (2000 + i))) (f_X8_settle gT gp gc (nI i)) ∨ ∃ t g' gT' gc', t ≤ 7 ∧ f_X12_sorted g (nI (2000 + i)) = some (1, g') ∧ f_X8_settle gT gp gc (nI i) = some (1, gT', gc') ∧ St g' gT' (T + 1) (upX X T t) ∧ Ch (fun q => q = i) g gT gc g' gT' gc' ∧ Bi g' gc' (2000 + i) i l r t := by
  obtain ⟨h0, h14, h17, _, _, _, hop, _⟩ := hS
  have hT1 : gIA gT 0 T = nI l := by rw [(h.2.2 T (by omega)).2.2, hl]
  have hT2 : gIA gT 0 (T + 1) = nI r := by rw [(h.2.2 (T + 1) (by omega)).2.2, hr]
  have l7 : l ≤ 7 := by rw [← hl]; exact (h.2.2 T (by omega)).1
  have r7 : r ≤ 7 := by rw [← hr]; exact (h.2.2 (T + 1) (by omega)).1
  have st := so_start (v := nI (2000 + i)) h hT rfl rfl
  rw [if_neg (show ¬ T + 2 = 0 by omega), if_neg (show ¬ T + 2 ≤ 1 by omega), show T + 2 - 1 = T + 1 by omega, show T + 2 - 2 = T by omega, hl, hr] at st
  have cl := two_set (gp := gp) hi h.2.1 (by omega) hT1 hT2 l7 r7 h0 (two_list ho h22)
  obtain ⟨k, k1, k2, k3⟩ := hop ho
  obtain ⟨r1, r2, r3, r4, r5, _⟩ := ref_two (o := q.1) (k := k) (K := 2000 + i) (by omega) h.1 (by omega) l7 r7 h14 k2 rfl
  have k66 := fun g => so_666 (g := g) (K := 2000 + i) (by omega)
  have j7 : jn l r ≤ 7 := by unfold jn; omega
  have ff : ∀ v x, Fr [16, 57, 58] g (giv (r16 g (2000 + i) v) T x) := fun v x => (r16_fr _ _ _).trans ((giv_fr _ _ _).mono (by decide))
  have fl : ∀ v x, ∀ q, q < 2000 → gIA (giv (r16 g (2000 + i) v) T x) 16 q = gIA g 16 q := fun v x q hq => r16_low hq
  have fs := gT_fr gT T
  have fc : ∀ x, Fr [2, 3, 4] gc (c2 (c34 gc i l r) i x) := fun x => (c34_fr _ _ _ _).trans (c2_fr _ _ _)
  have fc2 : ∀ x y, Fr [2, 3, 4] gc (c2 (c2 (c34 gc i l r) i x) i y) := fun x y => (fc x).trans (c2_fr _ _ _)
  have sp : ∀ {g1 : Gs} {t : Nat}, gIA g1 57 = gIA g 57 → t ≤ 7 → St (giv g1 T (nI t)) (giT (sI gT 1 (nI T)) T (nI t)) (T + 1) (upX X T t) := fun e ht => St.put (k := 2) h e rfl ht
  have a14 : ∀ v x, gIA (giv (r16 g (2000 + i) v) T x) 14 (2000 + i) = nI (ro q.1) := fun v x => h14
  have a15 : ∀ v x, gIA (giv (r16 g (2000 + i) v) T x) 15 (2000 + i) = nI k := fun v x => k2
  have a16 : ∀ v x, gIA (giv (r16 g (2000 + i) v) T x) 16 (2000 + i) = v := fun v x => r16_at
  have b0 : ∀ x, gIA (c2 (c34 gc i l r) i x) 0 i = nI q.1 := fun x => h0
  have b02 : ∀ x y, gIA (c2 (c2 (c34 gc i l r) i x) i y) 0 i = nI q.1 := fun x y => h0
  have jvn : 1 ≤ l → jv l r = nI (jn l r) := fun z => by unfold jv; rw [if_neg (by omega)]
  have swap : (1 ≤ r ∧ 1 ≤ l) ↔ (1 ≤ l ∧ 1 ≤ r) := ⟨fun z => ⟨z.2, z.1⟩, fun z => ⟨z.2, z.1⟩⟩
  rcases two_kinds k1 k3 ho h22 with ⟨w, wr⟩ | ⟨w, wr⟩ | ⟨w, wr⟩ | ⟨w, wr⟩ | ⟨w, wr⟩
  · have rf := st.trans (r3 (by rcases w with w | w | w | w | w <;> simp [w.1]) wr)
    have oo : 49 ≤ q.1 ∧ q.1 ≤ 53 := by rcases w with w | w | w | w | w <;> rw [w.2] <;> decide
    rw [if_neg (by omega), if_neg (by omega), if_neg (by omega), if_neg (by omega)] at cl
    by_cases c : 1 ≤ l ∧ 1 ≤ r
    · rw [if_pos (swap.mpr c), (k66 _).1] at rf
      rw [if_pos c, jvn c.1] at cl
      refine .inr ⟨jn l r, _, _, _, j7, rf, cl, sp rfl j7, ch_mk (.inr rfl) fs (fc _) c234_ne, a16 _ _, c234_at.2.1, c234_at.2.2, l7, r7, .inl ⟨c.1, c.2, ?_, c234_at.1, rfl, ?_⟩⟩
      · rw [a14, wr]; rfl
      · rw [a15, b0]; unfold OP
        rcases w with w | w | w | w | w <;> rw [w.1, w.2] <;> decide
    · rw [if_neg (fun z => c (swap.mp z)), (k66 _).2] at rf
      rw [if_neg c] at cl
      exact .inl (soF_mk rf cl (ff _ _) (fl _ _) fs (fc _))
  · have rf := st.trans (r4 (by rcases w with w | w | w | w <;> simp [w.1]) wr)
    have oo : q.1 = 55 ∨ q.1 = 56 ∨ q.1 = 57 ∨ q.1 = 58 := by rcases w with w | w | w | w <;> simp [w.2]
    rw [if_neg (by omega), if_pos oo] at cl
    by_cases c : 1 ≤ l ∧ 1 ≤ r
    · rw [if_pos (swap.mpr c), (k66 _).1] at rf
      rw [if_pos c, jvn c.1] at cl
      refine .inr ⟨0, _, _, _, by decide, rf, cl, sp rfl (by decide), ch_mk (.inr rfl) fs (fc _) c234_ne, a16 _ _, c234_at.2.1, c234_at.2.2, l7, r7, .inr (.inl ⟨c.1, c.2, ?_, c234_at.1, rfl, ?_⟩)⟩
      · rw [a14, wr]; rfl
      · rw [a15, b0]; unfold CP
        rcases w with w | w | w | w <;> rw [w.1, w.2] <;> decide
    · rw [if_neg (fun z => c (swap.mp z)), (k66 _).2] at rf
      rw [if_neg c] at cl
      exact .inl (soF_mk rf cl (ff _ _) (fl _ _) fs (fc _))
  · have rf := st.trans (r5 (by rcases w with w | w <;> simp [w.1]) wr)
    have oo : q.1 = 59 ∨ q.1 = 60 := by rcases w with w | w <;> simp [w.2]
    rw [if_neg (by omega), if_neg (by omega), if_pos oo] at cl
    by_cases c : (1 ≤ l ∧ 1 ≤ r) ∨ (l = 0 ∧ r = 0)
    · rw [if_pos c, (k66 _).1] at rf
      rw [if_pos c] at cl
      refine .inr ⟨0, _, _, _, by decide, rf, cl, sp rfl (by decide), ch_mk (.inr rfl) fs (fc _) c234_ne, a16 _ _, c234_at.2.1, c234_at.2.2, l7, r7, ?_⟩
      rcases c with c | c
      · refine .inr (.inl ⟨c.1, c.2, ?_, c234_at.1.trans (jvn c.1), rfl, ?_⟩)
        · rw [a14, wr]; rfl
        · rw [a15, b0]; unfold CP
          rcases w with w | w <;> rw [w.1, w.2] <;> decide
      · refine .inr (.inr (.inr (.inr ⟨c.1, c.2, ?_, c234_at.1.trans ?_, rfl, ?_⟩)))
        · rw [a14, wr]; rfl
        · unfold jv; rw [if_pos c]; rfl
        · rw [a15, b0]
          rcases w with w | w
          · exact ⟨true, by rw [w.1]; rfl, by rw [w.2]; rfl⟩
          · exact ⟨false, by rw [w.1]; rfl, by rw [w.2]; rfl⟩
    · rw [if_neg c, (k66 _).2] at rf
      rw [if_neg c] at cl
      exact .inl (soF_mk rf cl (ff _ _) (fl _ _) fs (fc _))
  · have rf := st.trans (r1 (by rcases w with w | w <;> simp [w.1]) wr)
    have oo : q.1 = 23 ∨ q.1 = 24 := by rcases w with w | w <;> simp [w.2]
    rw [if_neg (by omega), if_neg (by omega), if_neg (by omega), if_neg (by omega)] at cl
    by_cases c : 1 ≤ l ∧ 1 ≤ r
    · rw [if_pos (swap.mpr c), (k66 _).1] at rf
      rw [if_pos c, jvn c.1] at cl
      refine .inr ⟨jn l r, _, _, _, j7, rf, cl, sp rfl j7, ch_mk (.inr rfl) fs (fc _) c234_ne, a16 _ _, c234_at.2.1, c234_at.2.2, l7, r7, .inr (.inr (.inl ⟨c.1, c.2, ?_, c234_at.1, rfl, ?_⟩))⟩
      · rw [a14, wr]; rfl
      · rw [a15, b0]
        rcases w with w | w
        · exact ⟨false, by rw [w.1]; rfl, by rw [w.2]; rfl⟩
        · exact ⟨true, by rw [w.1]; rfl, by rw [w.2]; rfl⟩
    · rw [if_neg (fun z => c (swap.mp z)), (k66 _).2] at rf
      rw [if_neg c] at cl
      exact .inl (soF_mk rf cl (ff _ _) (fl _ _) fs (fc _))
  · have rf := st.trans (r2 w.1 wr)
    rw [if_pos w.2] at cl
    by_cases c : 1 ≤ l ∧ 1 ≤ r
    · rw [if_pos (swap.mpr c), (k66 _).1] at rf
      rw [if_pos c] at cl
      refine .inr ⟨7, _, _, _, by decide, rf, cl, sp rfl (by decide), ch_mk (.inr rfl) fs (fc2 _ _) c2234_ne, a16 _ _, c2234_at.2.1, c2234_at.2.2, l7, r7, .inr (.inr (.inr (.inl ⟨c.1, c.2, ?_, c2234_at.1, rfl, ?_, ?_⟩)))⟩
      · rw [a14, wr]; rfl
      · rw [a15, w.1]; rfl
      · rw [b02, w.2]; rfl
    · rw [if_neg (fun z => c (swap.mp z)), (k66 _).2] at rf
      rw [if_neg c] at cl
      exact .inl (soF_mk rf cl (ff _ _) (fl _ _) fs (fc2 _ _))
/-- && and || -/
theorem so_join {g gT gc gp : Gs} {many cams i T l r : Nat} {X : Nat → Nat} {q : Nat × Nat × Nat} (h : St g gT (T + 2) X) (hT : T + 2 ≤ 400) (hi : i < 840) (hl : X T = l) (hr : X (T + 1) = r) (hS : Sd g gc gp many cams i q) (ho : q.1 = 61 ∨ q.1 = 62) : SoF g gT gc i (f_X12_sorted g (nI (2000 + i))) (f_X8_settle gT gp gc (nI i)) ∨ (l = 0 ∧ r = 0 ∧ ∃ g' gT' gc', f_X12_sorted g (nI (2000 + i)) = some (1, g') ∧ f_X8_settle gT gp gc (nI i) = some (1, gT', gc') ∧ St g' gT' (T + 1) (upX X T 0) ∧ Ch (fun q => q = i) g gT gc g' gT' gc') := by
  obtain ⟨h0, h14, -⟩ := hS
  have hT1 : gIA gT 0 T = nI l := by rw [(h.2.2 T (by omega)).2.2, hl]
  have hT2 : gIA gT 0 (T + 1) = nI r := by rw [(h.2.2 (T + 1) (by omega)).2.2, hr]
  have l7 : l ≤ 7 := by rw [← hl]; exact (h.2.2 T (by omega)).1
  have r7 : r ≤ 7 := by rw [← hr]; exact (h.2.2 (T + 1) (by omega)).1
  have st := so_start (v := nI (2000 + i)) h hT rfl rfl
  rw [if_neg (show ¬ T + 2 = 0 by omega), if_neg (show ¬ T + 2 ≤ 1 by omega), show T + 2 - 1 = T + 1 by omega, show T + 2 - 2 = T by omega, hl, hr] at st
  have ol : q.1 ∈ [23, 24, 25, 49, 50, 51, 52, 53, 55, 56, 57, 58, 59, 60, 61, 62] := by rcases ho with ho | ho <;> rw [ho] <;> decide
  have cl := two_set (gp := gp) hi h.2.1 (by omega) hT1 hT2 l7 r7 h0 ol
  rw [if_neg (by omega), if_neg (by omega), if_neg (by omega), if_pos ho] at cl
  obtain ⟨k, hk⟩ := nI_all (gIA g 15 (2000 + i))
  have rr6 := (ref_two (o := q.1) (k := k) (K := 2000 + i) (by omega) h.1 (by omega) l7 r7 h14 hk rfl).2.2.2.2.2
  have rf := st.trans (rr6 (by rcases ho with ho | ho <;> rw [ho] <;> decide))
  have k66 := fun g => so_666 (g := g) (K := 2000 + i) (by omega)
  have fc : Fr [2, 3, 4] gc (c2 (c34 gc i l r) i (jv l r)) := (c34_fr _ _ _ _).trans (c2_fr _ _ _)
  by_cases c : l = 0 ∧ r = 0
  · rw [if_pos c, (k66 _).1] at rf
    rw [if_pos c] at cl
    exact .inr ⟨c.1, c.2, _, _, _, rf, cl, St.put (k := 2) (t := 0) h rfl rfl (by decide), ch_mk (v := 0) (.inl rfl) (gT_fr gT T) fc c234_ne⟩
  · rw [if_neg c, (k66 _).2] at rf
    rw [if_neg c] at cl
    exact .inl (soF_mk rf cl ((giv_fr _ _ _).mono (by decide)) (fun _ _ => rfl) (gT_fr gT T) fc)
