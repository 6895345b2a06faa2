/-! sorts: entries of one value, both sides -/
abbrev r16 (g : Gs) (K : Nat) (v : Int32) : Gs := sIA g 16 (upd (gIA g 16) K v)
theorem r16_fr (g : Gs) (K : Nat) (v : Int32) : Fr [16, 57, 58] g (r16 g K v) := Fr.sIA (by decide) _ _
theorem r16_low {g : Gs} {i : Nat} {v : Int32} {q : Nat} (hq : q < 2000) : gIA (r16 g (2000 + i) v) 16 q = gIA g 16 q := by
  show upd (gIA g 16) (2000 + i) v q = _; rw [pk_un (by omega)]
theorem r16_at {g : Gs} {K : Nat} {v : Int32} : gIA (r16 g K v) 16 K = v := by
  show upd (gIA g 16) K v K = _; rw [pk_us]
theorem r16_ne {g : Gs} {K q : Nat} {v : Int32} (h : q ≠ K) : gIA (r16 g K v) 16 q = gIA g 16 q := by
  show upd (gIA g 16) K v q = _; rw [pk_un h]
theorem soF_mk {g gT gc g1 gT' gc' : Gs} {i : Nat} {r : Option (Int32 × Gs)} {c : Option (Int32 × Gs × Gs)} (hr : r = some (0, sI (sI g1 21 4) 22 (gIA g1 17 (2000 + i)))) (hc : c = some (0, gT', gc')) (h1 : Fr [16, 57, 58] g g1) (h16 : ∀ q, q < 2000 → gIA g1 16 q = gIA g 16 q) (hT : Fr [0, 1] gT gT') (hC : Fr [2, 3, 4] gc gc') : SoF g gT gc i r c :=
  ⟨_, gT', gc', hr, hc, rfl, by rw [← (h1 17 (by decide)).2.2.2.1]; rfl, ((h1.mono (by decide)).trans (Fr.sI (by decide) _ _)).trans (Fr.sI (by decide) _ _), h16, hT, hC⟩
theorem c3_fr (gc : Gs) (i s : Nat) : Fr [2, 3, 4] gc (c3 gc i s) := Fr.sIA (by decide) _ _
theorem c2_fr (gc : Gs) (i : Nat) (x : Int32) : Fr [2, 3, 4] gc (c2 gc i x) := Fr.sIA (by decide) _ _
theorem gT_fr (gT : Gs) (T : Nat) : Fr [0, 1] gT (sI gT 1 (nI T)) := Fr.sI (by decide) _ _
theorem ch_mk {g gT gc g1 gT1 gc1 : Gs} {i T : Nat} {v : Int32} {x y : Int32} (hg : g1 = g ∨ g1 = r16 g (2000 + i) v) (hT : Fr [0, 1] gT gT1) (hC : Fr [2, 3, 4] gc gc1) (hq : ∀ q, q ≠ i → gIA gc1 2 q = gIA gc 2 q ∧ gIA gc1 3 q = gIA gc 3 q ∧ gIA gc1 4 q = gIA gc 4 q) : Ch (fun q => q = i) g gT gc (giv g1 T x) (giT gT1 T y) gc1 := by
  have f1 : Fr [16, 57, 58] g g1 := by
    rcases hg with h | h
    · rw [h]; exact Fr.refl _ _
    · rw [h]; exact r16_fr _ _ _
  have f2 : gIA (giv g1 T x) 16 = gIA g1 16 := ((giv_fr g1 T x) 16 (by decide)).2.2.2.1
  refine ⟨f1.trans ((giv_fr _ _ _).mono (by decide)), hT.trans (giT_fr _ _ _), hC, fun q hq => ?_, fun q hne => ⟨?_, hq q hne⟩⟩
  · rw [f2]
    rcases hg with h | h
    · rw [h]
    · rw [h]; exact r16_low hq
  · rw [f2]
    rcases hg with h | h
    · rw [h]
    · rw [h]; exact r16_ne (by omega)
theorem c23_ne {gc : Gs} {i s : Nat} {x : Int32} : ∀ q, q ≠ i → gIA (c2 (c3 gc i s) i x) 2 q = gIA gc 2 q ∧ gIA (c2 (c3 gc i s) i x) 3 q = gIA gc 3 q ∧ gIA (c2 (c3 gc i s) i x) 4 q = gIA gc 4 q := fun q hq => ⟨by show upd (gIA gc 2) i x q = _; rw [pk_un hq], by show upd (gIA gc 3) i (nI s) q = _; rw [pk_un hq], rfl⟩
theorem c3_ne {gc : Gs} {i s : Nat} : ∀ q, q ≠ i → gIA (c3 gc i s) 2 q = gIA gc 2 q ∧ gIA (c3 gc i s) 3 q = gIA gc 3 q ∧ gIA (c3 gc i s) 4 q = gIA gc 4 q := fun q hq => ⟨rfl, by show upd (gIA gc 3) i (nI s) q = _; rw [pk_un hq], rfl⟩
theorem c23_at {gc : Gs} {i s : Nat} {x : Int32} : gIA (c2 (c3 gc i s) i x) 2 i = x ∧ gIA (c2 (c3 gc i s) i x) 3 i = nI s := ⟨by show upd (gIA gc 2) i x i = _; rw [pk_us], by show upd (gIA gc 3) i (nI s) i = _; rw [pk_us]⟩
theorem nI_all (x : Int32) : ∃ r, x = nI r := ⟨x.toBitVec.toNat, by
  apply Int32.toBitVec_inj.mp
  show x.toBitVec = BitVec.ofNat 32 x.toBitVec.toNat
  simp⟩
theorem nI0 {s : Nat} (h : s ≤ 7) : (nI s = (0 : Int32)) ↔ s = 0 := ⟨fun z => (nI_eq (b := 0) (by omega) (by decide)).mp z, fun z => by rw [z]; rfl⟩
/-- the reference at an entry of one value -/
theorem ref_one {g : Gs} {T s l o : Nat} {K : Nat} {s0 a : Int32} (hK : K < 8000) (h58 : gI g 58 = nI (T + 1)) (hT : T < 400) (hs : s ≤ 7) (h14 : gIA g 14 K = nI (ro o)) (h15 : gIA g 15 K = a) :
    (o = 64 → b_X12_sorted_66 g (nI K) (nI s) (nI l) s0 = b_X12_sorted_666 (giv (r16 g K (nI s)) T 7) (nI K) (if 1 ≤ s ∧ s ≤ 4 then 1 else 0)) ∧
    (o = 65 → b_X12_sorted_66 g (nI K) (nI s) (nI l) s0 = b_X12_sorted_666 (giv (r16 g K (nI s)) T (nI (max 4 s))) (nI K) (if 1 ≤ s then 1 else 0)) ∧
    (o = 54 → b_X12_sorted_66 g (nI K) (nI s) (nI l) s0 = b_X12_sorted_666 (giv g T 0) (nI K) (if s = 0 then 1 else 0)) ∧
    (o = 66 → b_X12_sorted_66 g (nI K) (nI s) (nI l) s0 = b_X12_sorted_666 (giv (r16 g K (nI s)) T a) (nI K) (if (a = 0 ↔ s = 0) then 1 else 0)) ∧
    (19 ≤ o → o ≤ 22 → b_X12_sorted_66 g (nI K) (nI s) (nI l) s0 = b_X12_sorted_666 (giv (r16 g K (nI s)) T 7) (nI K) (if 1 ≤ s then 1 else 0)) := by
  have bK : inB (nI K) 8000 = true := inB_nI hK (by decide)
  have cK : (nI K).toNatClampNeg = K := nI_clamp (by omega)
  have gv : ∀ x, f_X12_gives g 1 x = some (giv g T x) := fun x => giv_ok (k := 1) rfl h58 hT
  have gw : ∀ v x, f_X12_gives (r16 g K v) 1 x = some (giv (r16 g K v) T x) := fun v x => giv_ok (k := 1) rfl h58 hT
  refine ⟨fun ho => ?_, fun ho => ?_, fun ho => ?_, fun ho => ?_, fun h1 h2 => ?_⟩
  · have e : b_X12_sorted_66 g (nI K) (nI s) (nI l) s0 = (if nI s < (1 : Int32) then (b_X12_sorted_234 g (nI K) (nI s) 0) else (if (4 : Int32) < nI s then (b_X12_sorted_234 g (nI K) (nI s) 0) else (b_X12_sorted_234 g (nI K) (nI s) (1 : Int32)))) := by
      unfold b_X12_sorted_66 b_X12_sorted_233
      rw [grd_t bK, cK, h14, ho]; rfl
    have e2 : ∀ v, b_X12_sorted_234 g (nI K) (nI s) v = b_X12_sorted_666 (giv (r16 g K (nI s)) T 7) (nI K) v := by
      intro v; unfold b_X12_sorted_234
      rw [grd_t bK, cK, bnd_s (gw (nI s) 7)]
    rw [e, e2, e2]
    by_cases z : s = 0
    · rw [z, if_pos (show nI 0 < (1 : Int32) by decide), if_neg (by omega)]
    · rw [if_neg (show ¬ nI s < (1 : Int32) from nI_nlt (b := 1) (by omega) (by omega))]
      by_cases y : s ≤ 4
      · rw [if_neg (show ¬ (4 : Int32) < nI s from nI_nlt (a := 4) y (by omega)), if_pos (by omega)]
      · rw [if_pos (show (4 : Int32) < nI s from nI_lt (a := 4) (by omega) (by omega)), if_neg (by omega)]
  · have e : b_X12_sorted_66 g (nI K) (nI s) (nI l) s0 = bnd (f_X12_isNumber (nI s)) (fun q_28 => (if (4 : Int32) ≤ nI s then (b_X12_sorted_278 (r16 g K (nI s)) (nI K) q_28 (nI s) (1 : Int32)) else (b_X12_sorted_278 (r16 g K (nI s)) (nI K) q_28 (4 : Int32) (1 : Int32)))) := by
      unfold b_X12_sorted_66
      rw [grd_t bK, cK, h14, ho]
      simp only [grd_t bK]; rfl
    have e1 : f_X12_isNumber (nI s) = some (if 1 ≤ s then 1 else 0) := by
      unfold f_X12_isNumber
      by_cases z : s = 0
      · rw [z]; rfl
      · rw [if_neg (fun y => z ((nI0 hs).mp y)), if_pos (by omega)]
    rw [e, bnd_s e1]
    unfold b_X12_sorted_278
    by_cases y : 4 ≤ s
    · rw [if_pos (show (4 : Int32) ≤ nI s from nI_le (a := 4) y (by omega)), bnd_s (gw (nI s) _), show max 4 s = s by omega]
    · rw [if_neg (show ¬ (4 : Int32) ≤ nI s from nI_ge (b := 4) (by omega) (by omega)), bnd_s (gw (nI s) _), show max 4 s = 4 by omega]; rfl
  · have e : b_X12_sorted_66 g (nI K) (nI s) (nI l) s0 = (if nI s = 0 then (b_X12_sorted_293 g (nI K) (1 : Int32)) else (b_X12_sorted_293 g (nI K) (0 : Int32))) := by
      unfold b_X12_sorted_66
      rw [grd_t bK, cK, h14, ho]; rfl
    rw [e]
    unfold b_X12_sorted_293
    by_cases z : s = 0
    · rw [if_pos ((nI0 hs).mpr z), if_pos z, bnd_s (gv 0)]
    · rw [if_neg (fun y => z ((nI0 hs).mp y)), if_neg z, bnd_s (gv 0)]
  · have e : b_X12_sorted_66 g (nI K) (nI s) (nI l) s0 = (if nI s = 0 then (b_X12_sorted_313 g (nI K) (nI s) (1 : Int32)) else (b_X12_sorted_313 g (nI K) (nI s) (0 : Int32))) := by
      unfold b_X12_sorted_66
      rw [grd_t bK, cK, h14, ho]; rfl
    have e2 : ∀ v, b_X12_sorted_335 g (nI K) (nI s) v = b_X12_sorted_666 (giv (r16 g K (nI s)) T a) (nI K) v := by
      intro v; unfold b_X12_sorted_335
      rw [grd_t bK, grd_t bK, cK, h15, bnd_s (gw (nI s) a)]
    rw [e]
    unfold b_X12_sorted_313 b_X12_sorted_327
    rw [grd_t bK, cK, h15, e2, e2]
    by_cases z : s = 0
    · rw [if_pos ((nI0 hs).mpr z)]
      by_cases y : a = 0
      · rw [if_pos y, if_pos rfl, if_pos ⟨fun _ => z, fun _ => y⟩]
      · rw [if_neg y, if_neg (show ¬ (1 : Int32) = 0 by decide), if_neg (fun w => y (w.mpr z))]
    · rw [if_neg (fun y => z ((nI0 hs).mp y)), grd_t bK]
      by_cases y : a = 0
      · rw [if_pos y, if_neg (show ¬ (0 : Int32) = 1 by decide), if_neg (fun w => z (w.mp y))]
      · rw [if_neg y, if_pos rfl, if_pos ⟨fun w => absurd w y, fun w => absurd w z⟩]
  · have e1 : f_X12_isNumber (nI s) = some (if 1 ≤ s then 1 else 0) := by
      unfold f_X12_isNumber
      by_cases z : s = 0
      · rw [z]; rfl
      · rw [if_neg (fun y => z ((nI0 hs).mp y)), if_pos (by omega)]
    have hro : ro o = 10 := by
      have : o = 19 ∨ o = 20 ∨ o = 21 ∨ o = 22 := by omega
      rcases this with rfl | rfl | rfl | rfl <;> rfl
    have e : b_X12_sorted_66 g (nI K) (nI s) (nI l) s0 = bnd (f_X12_isNumber (nI s)) (fun q_40 => (bnd (f_X12_gives (r16 g K (nI s)) (1 : Int32) (7 : Int32)) (fun q_43 => b_X12_sorted_666 q_43 (nI K) q_40))) := by
      unfold b_X12_sorted_66
      rw [grd_t bK, cK, h14, hro]
      simp only [grd_t bK]; rfl
    rw [e, bnd_s e1, bnd_s (gw (nI s) _)]
theorem one_list {o : Nat} (ho : o = 64 ∨ o = 65 ∨ o = 54 ∨ o = 66 ∨ (19 ≤ o ∧ o ≤ 22)) : o ∈ [19, 20, 21, 22, 54, 64, 65, 66] := by
  simp only [List.mem_cons, List.mem_nil_iff, or_false]; omega
/-- an entry of one value, both sides -/
theorem so_one {g gT gc gp : Gs} {many cams i T s : Nat} {X : Nat → Nat} {q : Nat × Nat × Nat} (h : St g gT (T + 1) X) (hT : T < 400) (hi : i < 840) (hs : X T = s) (hS : Sd g gc gp many cams i q) (ho : q.1 = 64 ∨ q.1 = 65 ∨ q.1 = 54 ∨ q.1 = 66 ∨ (19 ≤ q.1 ∧ q.1 ≤ 22)) : SoF g gT gc i (f_X12_sorted g (nI (2000 + i))) (f_X8_settle gT gp gc (nI i)) ∨ ∃ t g' gT' gc', t ≤ 7 ∧ f_X12_sorted g (nI (2000 + i)) = some (1, g') ∧ f_X8_settle gT gp gc (nI i) = some (1, gT', gc') ∧ St g' gT' (T + 1) (upX X T t) ∧ Ch (fun q => q = i) g gT gc g' gT' gc' ∧ Un g' gc' cams (2000 + i) i s t := by
  obtain ⟨h0, h14, h17, h3, h6, h64, hop, h66, _⟩ := hS
  have hT1 : gIA gT 0 T = nI s := by rw [(h.2.2 T (by omega)).2.2, hs]
  have s7 : s ≤ 7 := by rw [← hs]; exact (h.2.2 T (by omega)).1
  have st := so_start (v := nI (2000 + i)) h (by omega) rfl rfl
  rw [if_neg (show ¬ T + 1 = 0 by omega), show T + 1 - 1 = T by omega, hs] at st
  have ol := one_list ho
  have cl := one_set (gp := gp) hi h.2.1 hT hT1 h0 ol
  obtain ⟨r1, r2, r3, r4, r5⟩ := ref_one (l := if T + 1 ≤ 1 then 0 else X (T + 1 - 2)) (s0 := if 1 ≤ s ∧ 1 ≤ (if T + 1 ≤ 1 then 0 else X (T + 1 - 2)) then 1 else 0) (K := 2000 + i) (by omega) h.1 hT s7 h14 rfl
  have k66 := fun g => so_666 (g := g) (K := 2000 + i) (by omega)
  have z1 : ¬ (1 : Int32) = 0 := by decide
  have ff : ∀ v x, Fr [16, 57, 58] g (giv (r16 g (2000 + i) v) T x) := fun v x => (r16_fr _ _ _).trans ((giv_fr _ _ _).mono (by decide))
  have fl : ∀ v x, ∀ q, q < 2000 → gIA (giv (r16 g (2000 + i) v) T x) 16 q = gIA g 16 q := fun v x q hq => r16_low hq
  have fs := gT_fr gT T
  have sp : ∀ {g1 : Gs} {t : Nat}, gIA g1 57 = gIA g 57 → t ≤ 7 → St (giv g1 T (nI t)) (giT (sI gT 1 (nI T)) T (nI t)) (T + 1) (upX X T t) := fun e ht => St.put (k := 1) h e rfl ht
  have a14 : ∀ v x, gIA (giv (r16 g (2000 + i) v) T x) 14 (2000 + i) = nI (ro q.1) := fun v x => h14
  have a15 : ∀ v x, gIA (giv (r16 g (2000 + i) v) T x) 15 (2000 + i) = gIA g 15 (2000 + i) := fun v x => rfl
  have a16 : ∀ v x, gIA (giv (r16 g (2000 + i) v) T x) 16 (2000 + i) = v := fun v x => r16_at
  rcases ho with ho | ho | ho | ho | ho
  · rw [if_neg (by omega), if_pos ho] at cl
    have rf := st.trans (r1 ho)
    by_cases c : 1 ≤ s ∧ s ≤ 4
    · rw [if_pos c, (k66 _).1] at rf
      rw [if_neg (show ¬ nI s < (1 : Int32) from nI_nlt (b := 1) c.1 (by omega)), if_neg (show ¬ (4 : Int32) < nI s from nI_nlt (a := 4) c.2 (by omega)), bnd_s rfl, if_neg z1] at cl
      obtain ⟨a, a1, a2, a3⟩ := h64 ho
      refine .inr ⟨7, _, _, _, by decide, rf, cl, sp rfl (by decide), ch_mk (.inr rfl) fs ((c3_fr _ _ _).trans (c2_fr _ _ _)) c23_ne, s7, .inl ⟨?_, ?_, by omega, rfl, a, a1, a2, a3⟩⟩
      · show gIA gc 0 i = 64; rw [h0, ho]; rfl
      · rw [a14, ho]; rfl
    · rw [if_neg c, (k66 _).2] at rf
      refine .inl (soF_mk rf (gT' := sI gT 1 (nI T)) (gc' := c2 (c3 gc i s) i 7) ?_ (ff _ _) (fl _ _) fs ((c3_fr _ _ _).trans (c2_fr _ _ _)))
      rw [cl]
      by_cases z : s = 0
      · rw [z, if_pos (show nI 0 < (1 : Int32) by decide)]; rfl
      · rw [if_neg (show ¬ nI s < (1 : Int32) from nI_nlt (b := 1) (by omega) (by omega)), if_pos (show (4 : Int32) < nI s from nI_lt (a := 4) (by omega) (by omega))]; rfl
  · rw [if_neg (by omega), if_neg (by omega), if_pos ho] at cl
    have rf := st.trans (r2 ho)
    have e4 : (if (4 : Int32) < nI s then nI s else 4) = nI (max 4 s) := by
      by_cases y : 4 < s
      · rw [if_pos (show (4 : Int32) < nI s from nI_lt (a := 4) y (by omega)), show max 4 s = s by omega]
      · rw [if_neg (show ¬ (4 : Int32) < nI s from nI_nlt (a := 4) (by omega) (by omega)), show max 4 s = 4 by omega]; rfl
    rw [e4] at cl
    by_cases c : 1 ≤ s
    · rw [if_pos c, (k66 _).1] at rf
      rw [if_neg (fun y => by have := (nI0 s7).mp y; omega), bnd_s rfl, if_neg z1] at cl
      refine .inr ⟨max 4 s, _, _, _, by omega, rf, cl, sp rfl (by omega), ch_mk (.inr rfl) fs ((c3_fr _ _ _).trans (c2_fr _ _ _)) c23_ne, s7, .inr (.inl ⟨?_, ?_, c, rfl, a16 _ _, c23_at.2, c23_at.1⟩)⟩
      · show gIA gc 0 i = 65; rw [h0, ho]; rfl
      · rw [a14, ho]; rfl
    · rw [if_neg c, (k66 _).2] at rf
      refine .inl (soF_mk rf (gT' := sI gT 1 (nI T)) (gc' := c2 (c3 gc i s) i (nI (max 4 s))) ?_ (ff _ _) (fl _ _) fs ((c3_fr _ _ _).trans (c2_fr _ _ _)))
      rw [cl, if_pos ((nI0 s7).mpr (by omega))]; rfl
  · rw [if_pos ho] at cl
    have rf := st.trans (r3 ho)
    by_cases c : s = 0
    · rw [if_pos c, (k66 _).1] at rf
      rw [if_pos ((nI0 s7).mpr c), bnd_s rfl, if_neg z1] at cl
      refine .inr ⟨0, _, _, _, by decide, rf, cl, sp rfl (by decide), ch_mk (v := 0) (.inl rfl) fs (c3_fr _ _ _) c3_ne, s7, .inr (.inr (.inl ⟨?_, ?_, c, rfl, nI_all _, nI_all _⟩))⟩
      · show gIA gc 0 i = 54; rw [h0, ho]; rfl
      · show gIA g 14 (2000 + i) = 8; rw [h14, ho]; rfl
    · rw [if_neg c, (k66 _).2] at rf
      refine .inl (soF_mk rf (gT' := sI gT 1 (nI T)) (gc' := c3 gc i s) ?_ ((giv_fr _ _ _).mono (by decide)) (fun _ _ => rfl) fs (c3_fr _ _ _))
      rw [cl, if_neg (fun y => c ((nI0 s7).mp y))]; rfl
  · rw [if_neg (by omega), if_neg (by omega), if_neg (by omega), if_pos ho] at cl
    obtain ⟨b1, b2, b3⟩ := h66 ho
    have rf := st.trans (r4 ho)
    rw [b1] at rf
    have bi : inB (nI i) 840 = true := inB_nI hi (by decide)
    have ci : (nI i).toNatClampNeg = i := nI_clamp (by omega)
    have x2 : gIA (c3 gc i s) 2 i = nI q.2.2 := b2
    have e170 : ∀ v, b_X8_settleOne_170 (sI gT 1 (nI T)) (c3 gc i s) (nI i) v = if q.2.2 = 0 then (if v = 1 then some (1, giT (sI gT 1 (nI T)) T (nI q.2.2), c3 gc i s) else some (0, sI gT 1 (nI T), c3 gc i s)) else (if v = 0 then some (1, giT (sI gT 1 (nI T)) T (nI q.2.2), c3 gc i s) else some (0, sI gT 1 (nI T), c3 gc i s)) := by
      intro v
      have gv : f_X8_give (sI gT 1 (nI T)) (nI q.2.2) = some (1, giT (sI gT 1 (nI T)) T (nI q.2.2)) := giT_ok rfl hT
      have e184 : ∀ w, b_X8_settleOne_184 (sI gT 1 (nI T)) (c3 gc i s) (nI i) w v = if v = w then some (1, giT (sI gT 1 (nI T)) T (nI q.2.2), c3 gc i s) else some (0, sI gT 1 (nI T), c3 gc i s) := by
        intro w
        unfold b_X8_settleOne_184
        by_cases y : v = w
        · rw [if_pos y, if_pos y, grd_t bi, ci, x2, bnd_s gv]; rfl
        · rw [if_neg y, if_neg y]
      unfold b_X8_settleOne_170
      rw [grd_t bi, ci, x2, e184, e184]
      by_cases y : q.2.2 = 0
      · rw [if_pos ((nI0 b3).mpr y), if_pos y]
      · rw [if_neg (fun w => y ((nI0 b3).mp w)), if_neg y]
    rw [e170, e170] at cl
    have hiff : (nI q.2.2 = (0 : Int32) ↔ s = 0) ↔ (q.2.2 = 0 ↔ s = 0) := by rw [nI0 b3]
    by_cases c : (q.2.2 = 0 ↔ s = 0)
    · rw [if_pos (hiff.mpr c), (k66 _).1] at rf
      have cl' : f_X8_settle gT gp gc (nI i) = some (1, giT (sI gT 1 (nI T)) T (nI q.2.2), c3 gc i s) := by
        rw [cl]
        by_cases y : s = 0
        · rw [if_pos ((nI0 s7).mpr y), if_pos (c.mpr y), if_pos rfl]; rfl
        · rw [if_neg (fun w => y ((nI0 s7).mp w)), if_neg (fun w => y (c.mp w)), if_pos rfl]; rfl
      refine .inr ⟨q.2.2, _, _, _, b3, rf, cl', sp rfl b3, ch_mk (.inr rfl) fs (c3_fr _ _ _) c3_ne, s7, .inr (.inr (.inr (.inl ⟨?_, ?_, ?_, b3, ?_, a16 _ _, ?_, b2⟩)))⟩
      · show gIA gc 0 i = 66; rw [h0, ho]; rfl
      · rw [a14, ho]; rfl
      · by_cases y : s = 0
        · exact .inl ⟨y, c.mpr y⟩
        · exact .inr ⟨by omega, by have : ¬ q.2.2 = 0 := fun w => y (c.mp w); omega⟩
      · rw [a15]; exact b1
      · show upd (gIA gc 3) i (nI s) i = _; rw [pk_us]
    · rw [if_neg (fun w => c (hiff.mp w)), (k66 _).2] at rf
      refine .inl (soF_mk rf (gT' := sI gT 1 (nI T)) (gc' := c3 gc i s) ?_ (ff _ _) (fl _ _) fs (c3_fr _ _ _))
      rw [cl]
      by_cases y : s = 0
      · rw [if_pos ((nI0 s7).mpr y), if_neg (fun w => c ⟨fun _ => y, fun _ => w⟩), if_neg z1]; rfl
      · rw [if_neg (fun w => y ((nI0 s7).mp w)), if_pos (Decidable.byContradiction fun w => c ⟨fun v => absurd v w, fun v => absurd v y⟩), if_neg (show ¬ (0 : Int32) = 1 by decide)]; rfl
  · rw [if_neg (by omega), if_neg (by omega), if_neg (by omega), if_neg (by omega)] at cl
    have rf := st.trans (r5 ho.1 ho.2)
    by_cases c : 1 ≤ s
    · rw [if_pos c, (k66 _).1] at rf
      rw [if_neg (fun y => by have := (nI0 s7).mp y; omega), bnd_s rfl, if_neg z1] at cl
      obtain ⟨k, k1, k2, k3⟩ := hop (.inl (by omega))
      have hk : ∀ k ∈ KS, kc k = 19 ∨ kc k = 20 ∨ kc k = 21 ∨ kc k = 22 → k = 209 + (kc k - 19) := by decide
      have hk := hk k k1 (by omega)
      refine .inr ⟨7, _, _, _, by decide, rf, cl, sp rfl (by decide), ch_mk (.inr rfl) fs ((c3_fr _ _ _).trans (c2_fr _ _ _)) c23_ne, s7, .inr (.inr (.inr (.inr ⟨q.1 - 19, by omega, ?_, ?_, ?_, c, rfl, a16 _ _, c23_at.2, c23_at.1⟩)))⟩
      · show gIA gc 0 i = _; rw [h0, show 19 + (q.1 - 19) = q.1 by omega]
      · rw [a14]
        have : q.1 = 19 ∨ q.1 = 20 ∨ q.1 = 21 ∨ q.1 = 22 := by omega
        rcases this with w | w | w | w <;> rw [w] <;> rfl
      · rw [a15, k2, hk, k3]
    · rw [if_neg c, (k66 _).2] at rf
      refine .inl (soF_mk rf (gT' := sI gT 1 (nI T)) (gc' := c2 (c3 gc i s) i 7) ?_ (ff _ _) (fl _ _) fs ((c3_fr _ _ _).trans (c2_fr _ _ _)))
      rw [cl, if_pos ((nI0 s7).mpr (by omega))]; rfl
