/-! sorts: jumps and ? : -/
theorem so_jump {g gT gc gp : Gs} {many cams i T : Nat} {X : Nat → Nat} {q : Nat × Nat × Nat} (h : St g gT T X) (hT : T ≤ 400) (hi : i < 840) (hS : Sd g gc gp many cams i q) (ho : q.1 = 67 ∨ q.1 = 68 ∨ q.1 = 69 ∨ q.1 = 70) : f_X12_sorted g (nI (2000 + i)) = some (1, g) ∧ f_X8_settle gT gp gc (nI i) = some (1, gT, gc) := by
  obtain ⟨h0, h14, -⟩ := hS
  have st := so_start (v := nI (2000 + i)) h hT rfl rfl
  have k66 := (so_666 (g := g) (K := 2000 + i) (by omega)).1
  have bK : inB (nI (2000 + i)) 8000 = true := inB_nI (by omega) (by decide)
  have cK : (nI (2000 + i)).toNatClampNeg = 2000 + i := nI_clamp (by omega)
  refine ⟨?_, set_jump hi h0 (by rcases ho with ho | ho | ho | ho <;> rw [ho] <;> decide)⟩
  rw [st, ← k66]
  unfold b_X12_sorted_66
  rw [grd_t bK, cK, h14]
  rcases ho with ho | ho | ho | ho <;> rw [ho] <;> rfl
def askR (g : Gs) (p k a b t : Nat) : Gs := sIA (sIA g 16 (upd (gIA g 16) (2000 + k) (nI (8 * b + t)))) 16 (upd (upd (gIA g 16) (2000 + k) (nI (8 * b + t))) (2000 + p) (nI (8 * a + t)))
def askC (gc : Gs) (p k a b t : Nat) : Gs := sIA (sIA (sIA (sIA gc 4 (upd (gIA gc 4) k (nI b))) 2 (upd (gIA gc 2) k (nI t))) 3 (upd (gIA gc 3) p (nI a))) 2 (upd (upd (gIA gc 2) k (nI t)) p (nI t))
theorem ask_ref {g : Gs} {T c a b p k : Nat} {s0 : Int32} (hk : k < 840) (hp : p < k) (h58 : gI g 58 = nI (T + 3)) (hT : T + 3 ≤ 400) (hc : gIA g 57 T = nI c) (c7 : c ≤ 7) (a7 : a ≤ 7) (b7 : b ≤ 7) (h14 : gIA g 14 (2000 + k) = nI 19) (h15 : gIA g 15 (2000 + k) = nI (2000 + p)) (hs : s0 = if 1 ≤ b ∧ 1 ≤ a then 1 else 0) : b_X12_sorted_66 g (nI (2000 + k)) (nI b) (nI a) s0 = b_X12_sorted_666 (giv (askR g p k a b (if 1 ≤ b ∧ 1 ≤ a then jn a b else 0)) T (nI (if 1 ≤ b ∧ 1 ≤ a then jn a b else 0))) (nI (2000 + k)) (if c = 0 ∧ ((1 ≤ a ∧ 1 ≤ b) ∨ (a = 0 ∧ b = 0)) then 1 else 0) := by
  have bK : inB (nI (2000 + k)) 8000 = true := inB_nI (by omega) (by decide)
  have cK : (nI (2000 + k)).toNatClampNeg = 2000 + k := nI_clamp (by omega)
  have bP : inB (nI (2000 + p)) 8000 = true := inB_nI (by omega) (by decide)
  have cP : (nI (2000 + p)).toNatClampNeg = 2000 + p := nI_clamp (by omega)
  have z1 : ¬ (1 : Int32) = 0 := by decide
  have j7 : jn a b ≤ 7 := by unfold jn; omega
  have e8 : ∀ x t, x ≤ 7 → t ≤ 7 → (8 : Int32) * nI x + nI t = nI (8 * x + t) := fun x t hx ht => (jn_all hx ht).2.2
  have e623 : ∀ t ok, t ≤ 7 → b_X12_sorted_623 g (nI (2000 + k)) (nI b) (nI a) ok (nI t) = b_X12_sorted_666 (giv (askR g p k a b t) T (nI t)) (nI (2000 + k)) ok := by
    intro t ok ht
    have gw : f_X12_gives (askR g p k a b t) 3 (nI t) = some (giv (askR g p k a b t) T (nI t)) := giv_ok (k := 3) rfl h58 (by omega)
    unfold b_X12_sorted_623
    rw [grd_t bK, grd_t bK, cK, h15, grd_t bP, cP, e8 b t b7 ht, e8 a t a7 ht]
    exact bnd_s gw
  have e607 : ∀ ok, b_X12_sorted_607 g (nI (2000 + k)) (nI b) (nI a) s0 ok = b_X12_sorted_666 (giv (askR g p k a b (if 1 ≤ b ∧ 1 ≤ a then jn a b else 0)) T (nI (if 1 ≤ b ∧ 1 ≤ a then jn a b else 0))) (nI (2000 + k)) ok := by
    intro ok
    unfold b_X12_sorted_607
    rw [bnd_s (jn_all a7 b7).1, hs]
    by_cases d : 1 ≤ b ∧ 1 ≤ a
    · rw [if_pos d, if_pos d, if_neg z1, e623 _ _ j7]
    · rw [if_neg d, if_neg d, if_pos rfl, ← e623 _ _ (by decide)]; rfl
  have e : b_X12_sorted_66 g (nI (2000 + k)) (nI b) (nI a) s0 = (grd (inB ((gI g 58) - (3 : Int32)) 400) (if (gIA g 57 ((gI g 58) - (3 : Int32)).toNatClampNeg) = 0 then (if s0 = 0 then (if nI b = 0 then (if nI a = 0 then (b_X12_sorted_607 g (nI (2000 + k)) (nI b) (nI a) s0 1) else (b_X12_sorted_607 g (nI (2000 + k)) (nI b) (nI a) s0 0)) else (b_X12_sorted_607 g (nI (2000 + k)) (nI b) (nI a) s0 0)) else (b_X12_sorted_607 g (nI (2000 + k)) (nI b) (nI a) s0 1)) else (b_X12_sorted_607 g (nI (2000 + k)) (nI b) (nI a) s0 0))) := by
    unfold b_X12_sorted_66 b_X12_sorted_602 b_X12_sorted_606
    rw [grd_t bK, cK, h14]; rfl
  rw [e, h58, show (3 : Int32) = nI 3 from rfl, nI_sub (by omega), show T + 3 - 3 = T by omega, grd_t (inB_nI (by omega) (by decide)), nI_clamp (by omega), hc, e607, e607, hs]
  by_cases d : c = 0
  · rw [if_pos ((nI0 c7).mpr d)]
    by_cases f : 1 ≤ b ∧ 1 ≤ a
    · rw [if_pos f, if_neg z1, if_pos (show c = 0 ∧ ((1 ≤ a ∧ 1 ≤ b) ∨ (a = 0 ∧ b = 0)) from ⟨d, .inl ⟨f.2, f.1⟩⟩)]
    · rw [if_neg f, if_pos rfl]
      by_cases x : b = 0
      · rw [if_pos ((nI0 b7).mpr x)]
        by_cases y : a = 0
        · rw [if_pos ((nI0 a7).mpr y), if_pos (show c = 0 ∧ ((1 ≤ a ∧ 1 ≤ b) ∨ (a = 0 ∧ b = 0)) from ⟨d, .inr ⟨y, x⟩⟩)]
        · rw [if_neg (fun w => y ((nI0 a7).mp w)), if_neg (show ¬ (c = 0 ∧ ((1 ≤ a ∧ 1 ≤ b) ∨ (a = 0 ∧ b = 0))) by omega)]
      · rw [if_neg (fun w => x ((nI0 b7).mp w)), if_neg (show ¬ (c = 0 ∧ ((1 ≤ a ∧ 1 ≤ b) ∨ (a = 0 ∧ b = 0))) by omega)]
  · rw [if_neg (fun w => d ((nI0 c7).mp w)), if_neg (show ¬ (c = 0 ∧ ((1 ≤ a ∧ 1 ≤ b) ∨ (a = 0 ∧ b = 0))) by omega)]
theorem ask_cls {gT gp gc : Gs} {T c a b p k : Nat} (hk : k < 840) (hp : p < k) (h1 : gI gT 1 = nI (T + 3)) (hT : T + 3 ≤ 400) (hc : gIA gT 0 T = nI c) (ha : gIA gT 0 (T + 1) = nI a) (hb : gIA gT 0 (T + 2) = nI b) (c7 : c ≤ 7) (a7 : a ≤ 7) (b7 : b ≤ 7) (h0 : gIA gc 0 k = nI 44) (h5 : gIA gc 5 k = nI p) : f_X8_settle gT gp gc (nI k) = if c = 0 ∧ ((1 ≤ a ∧ 1 ≤ b) ∨ (a = 0 ∧ b = 0)) then some (1, giT (sI gT 1 (nI T)) T (nI (if 1 ≤ b ∧ 1 ≤ a then jn a b else 0)), askC gc p k a b (if 1 ≤ b ∧ 1 ≤ a then jn a b else 0)) else some (0, sI gT 1 (nI T), gc) := by
  have bi : inB (nI k) 840 = true := inB_nI hk (by decide)
  have ci : (nI k).toNatClampNeg = k := nI_clamp (by omega)
  have bp : inB (nI p) 840 = true := inB_nI (by omega) (by decide)
  have cp : (nI p).toNatClampNeg = p := nI_clamp (by omega)
  have z1 : ¬ (1 : Int32) = 0 := by decide
  have e : f_X8_settle gT gp gc (nI k) = (if (gI gT 1) < (3 : Int32) then (some ((0 : Int32), gT, gc)) else (bnd (f_X8_settleQuestion gT gc (nI k)) (fun q_21 => if q_21.1 = 0 then (some ((0 : Int32), q_21.2.1, q_21.2.2)) else (some ((1 : Int32), q_21.2.1, q_21.2.2))))) := by
    unfold f_X8_settle
    rw [grd_t bi, ci, h0]; rfl
  have e85 : ∀ t, b_X8_settleQuestion_85 (sI gT 1 (nI T)) gc (nI k) (nI a) (nI b) (nI t) = some (1, giT (sI gT 1 (nI T)) T (nI t), askC gc p k a b t) := by
    intro t
    have gv : f_X8_give (sI gT 1 (nI T)) (nI t) = some (1, giT (sI gT 1 (nI T)) T (nI t)) := giT_ok rfl (by omega)
    unfold b_X8_settleQuestion_85 b_X8_settleQuestion_139
    rw [grd_t bi, grd_t bi, grd_t bi, ci, h5, if_neg (show ¬ nI p < (0 : Int32) from nI_nlt (b := 0) (by omega) (by omega)), if_neg (show ¬ nI k ≤ nI p from nI_ge (b := k) hp (by omega)), grd_t bp, grd_t bp, cp, bnd_s gv]
    rfl
  have e66 : ∀ v w : Int32, b_X8_settleQuestion_66 (sI gT 1 (nI T)) gc (nI k) (nI a) (nI b) v w = if w = v then (if a = 0 then some (1, giT (sI gT 1 (nI T)) T (nI 0), askC gc p k a b 0) else some (1, giT (sI gT 1 (nI T)) T (nI (jn a b)), askC gc p k a b (jn a b))) else some (0, sI gT 1 (nI T), gc) := by
    intro v w
    unfold b_X8_settleQuestion_66
    rw [bnd_s (jn_all a7 b7).2.1, e85, show b_X8_settleQuestion_85 (sI gT 1 (nI T)) gc (nI k) (nI a) (nI b) (0 : Int32) = some (1, giT (sI gT 1 (nI T)) T (nI 0), askC gc p k a b 0) from e85 0]
    by_cases y : a = 0
    · rw [if_pos y, if_pos ((nI0 a7).mpr y)]
    · rw [if_neg y, if_neg (fun z => y ((nI0 a7).mp z))]
  have e56 : ∀ w : Int32, b_X8_settleQuestion_56 (sI gT 1 (nI T)) gc (nI k) (nI a) (nI b) w = if w = (if b = 0 then 1 else 0) then (if a = 0 then some (1, giT (sI gT 1 (nI T)) T (nI 0), askC gc p k a b 0) else some (1, giT (sI gT 1 (nI T)) T (nI (jn a b)), askC gc p k a b (jn a b))) else some (0, sI gT 1 (nI T), gc) := by
    intro w
    unfold b_X8_settleQuestion_56
    rw [e66, e66]
    by_cases y : b = 0
    · rw [if_pos ((nI0 b7).mpr y), if_pos y]
    · rw [if_neg (fun z => y ((nI0 b7).mp z)), if_neg y]
  have eT : nI (T + 3) - 3 = nI T := by rw [show (3 : Int32) = nI 3 from rfl, nI_sub (by omega), show T + 3 - 3 = T by omega]
  have eT2 : nI T + 2 = nI (T + 2) := by rw [← nI_1, ← nI_1]; exact (Int32.add_assoc _ 1 1).symm
  have eQ : f_X8_settleQuestion gT gc (nI k) = if c = 0 ∧ ((1 ≤ a ∧ 1 ≤ b) ∨ (a = 0 ∧ b = 0)) then some (1, giT (sI gT 1 (nI T)) T (nI (if 1 ≤ b ∧ 1 ≤ a then jn a b else 0)), askC gc p k a b (if 1 ≤ b ∧ 1 ≤ a then jn a b else 0)) else some (0, sI gT 1 (nI T), gc) := by
    unfold f_X8_settleQuestion
    rw [h1, eT, eT2, nI_1, grd_t (inB_nI (by omega) (by decide)), grd_t (inB_nI (by omega) (by decide)), grd_t (inB_nI (by omega) (by decide)), nI_clamp (show T < 2 ^ 31 by omega), nI_clamp (show T + 1 < 2 ^ 31 by omega), nI_clamp (show T + 2 < 2 ^ 31 by omega), hc, ha, hb, e56, e56]
    by_cases d : c = 0
    · rw [if_pos ((nI0 c7).mpr d)]
      by_cases y : a = 0
      · rw [if_pos ((nI0 a7).mpr y)]
        by_cases z : b = 0
        · rw [if_pos z, if_pos rfl, if_pos y, if_pos (show c = 0 ∧ ((1 ≤ a ∧ 1 ≤ b) ∨ (a = 0 ∧ b = 0)) from ⟨d, .inr ⟨y, z⟩⟩), if_neg (show ¬ (1 ≤ b ∧ 1 ≤ a) by omega)]
        · rw [if_neg z, if_neg z1, if_neg (show ¬ (c = 0 ∧ ((1 ≤ a ∧ 1 ≤ b) ∨ (a = 0 ∧ b = 0))) by omega)]
      · rw [if_neg (fun w => y ((nI0 a7).mp w))]
        by_cases z : b = 0
        · rw [if_pos z, if_neg (show ¬ (0 : Int32) = 1 by decide), if_neg (show ¬ (c = 0 ∧ ((1 ≤ a ∧ 1 ≤ b) ∨ (a = 0 ∧ b = 0))) by omega)]
        · rw [if_neg z, if_pos rfl, if_neg y, if_pos (show c = 0 ∧ ((1 ≤ a ∧ 1 ≤ b) ∨ (a = 0 ∧ b = 0)) from ⟨d, .inl ⟨by omega, by omega⟩⟩), if_pos (show 1 ≤ b ∧ 1 ≤ a by omega)]
    · rw [if_neg (fun w => d ((nI0 c7).mp w)), if_neg (show ¬ (c = 0 ∧ ((1 ≤ a ∧ 1 ≤ b) ∨ (a = 0 ∧ b = 0))) by omega)]
  rw [e, h1, if_neg (show ¬ nI (T + 3) < (3 : Int32) from nI_nlt (b := 3) (by omega) (by omega)), eQ]
  by_cases d : c = 0 ∧ ((1 ≤ a ∧ 1 ≤ b) ∨ (a = 0 ∧ b = 0))
  · simp only [if_pos d]; rfl
  · simp only [if_neg d]; rfl
theorem so_ask {g gT gc gp : Gs} {many cams k p T c a b : Nat} {X : Nat → Nat} {q : Nat × Nat × Nat} (h : St g gT (T + 3) X) (hT : T + 3 ≤ 400) (hk : k < 840) (hp : p < k) (hc : X T = c) (ha : X (T + 1) = a) (hb : X (T + 2) = b) (hS : Sd g gc gp many cams k q) (ho : q.1 = 44) (hq : q.2.2 = p) : SoF g gT gc k (f_X12_sorted g (nI (2000 + k))) (f_X8_settle gT gp gc (nI k)) ∨ (c = 0 ∧ ∃ t g' gT' gc', t ≤ 7 ∧ ((a = 0 ∧ b = 0 ∧ t = 0) ∨ (1 ≤ a ∧ 1 ≤ b ∧ a ≤ 7 ∧ b ≤ 7 ∧ t = jn a b)) ∧ f_X12_sorted g (nI (2000 + k)) = some (1, g') ∧ f_X8_settle gT gp gc (nI k) = some (1, gT', gc') ∧ St g' gT' (T + 1) (upX X T t) ∧ Ch (fun q => q = p ∨ q = k) g gT gc g' gT' gc' ∧ (gIA gc' 3 p = nI a ∧ gIA gc' 2 p = nI t ∧ gIA g' 16 (2000 + p) = nI (8 * a + t)) ∧ (gIA gc' 4 k = nI b ∧ gIA gc' 2 k = nI t ∧ gIA g' 16 (2000 + k) = nI (8 * b + t))) := by
  obtain ⟨h0, h14, _, _, _, _, _, _, _, h44⟩ := hS
  obtain ⟨h15, h5⟩ := h44 ho
  rw [hq] at h15 h5
  rw [ho] at h0 h14
  have x1 := h.2.2 T (by omega)
  have x2 := h.2.2 (T + 1) (by omega)
  have x3 := h.2.2 (T + 2) (by omega)
  rw [hc] at x1
  rw [ha] at x2
  rw [hb] at x3
  have st := so_start (v := nI (2000 + k)) h hT rfl rfl
  rw [if_neg (show ¬ T + 3 = 0 by omega), if_neg (show ¬ T + 3 ≤ 1 by omega), show T + 3 - 1 = T + 2 by omega, show T + 3 - 2 = T + 1 by omega, ha, hb] at st
  have cl := ask_cls (gp := gp) hk hp h.2.1 hT x1.2.2 x2.2.2 x3.2.2 x1.1 x2.1 x3.1 h0 h5
  have rf := st.trans (ask_ref hk hp h.1 hT x1.2.1 x1.1 x2.1 x3.1 h14 h15 rfl)
  have k66 := fun g => so_666 (g := g) (K := 2000 + k) (by omega)
  have j7 : jn a b ≤ 7 := by have := x2.1; have := x3.1; unfold jn; omega
  have fr : ∀ t, Fr [16, 57, 58] g (askR g p k a b t) := fun t => (Fr.sIA (by decide) _ _).trans (Fr.sIA (by decide) _ _)
  have fl : ∀ t q, q < 2000 → gIA (askR g p k a b t) 16 q = gIA g 16 q := fun t q hq => by
    show upd (upd (gIA g 16) (2000 + k) (nI (8 * b + t))) (2000 + p) (nI (8 * a + t)) q = _
    rw [pk_un (by omega), pk_un (by omega)]
  by_cases d : c = 0 ∧ ((1 ≤ a ∧ 1 ≤ b) ∨ (a = 0 ∧ b = 0))
  · rw [if_pos d, (k66 _).1] at rf
    rw [if_pos d] at cl
    refine .inr ⟨d.1, _, _, _, _, ?_, ?_, rf, cl, St.put (k := 3) h rfl rfl ?_, ⟨(fr _).trans ((giv_fr _ _ _).mono (by decide)), (gT_fr gT T).trans (giT_fr _ _ _), ((((Fr.sIA (by decide) _ _).trans (Fr.sIA (by decide) _ _)).trans (Fr.sIA (by decide) _ _)).trans (Fr.sIA (by decide) _ _)), fun q hq => fl _ q hq, fun q hq => ⟨?_, ?_, ?_, ?_⟩⟩, ⟨?_, ?_, ?_⟩, ⟨?_, ?_, ?_⟩⟩
    · split
      · exact j7
      · decide
    · rcases d.2 with w | w
      · exact .inr ⟨w.1, w.2, x2.1, x3.1, by rw [if_pos ⟨w.2, w.1⟩]⟩
      · exact .inl ⟨w.1, w.2, by rw [if_neg (by omega)]⟩
    · split
      · exact j7
      · decide
    · show upd (upd (gIA g 16) (2000 + k) _) (2000 + p) _ (2000 + q) = _
      rw [pk_un (by omega), pk_un (by omega)]
    · show upd (upd (gIA gc 2) k _) p _ q = _
      rw [pk_un (by omega), pk_un (by omega)]
    · show upd (gIA gc 3) p _ q = _
      rw [pk_un (by omega)]
    · show upd (gIA gc 4) k _ q = _
      rw [pk_un (by omega)]
    · show upd (gIA gc 3) p _ p = _; rw [pk_us]
    · show upd (upd (gIA gc 2) k _) p _ p = _; rw [pk_us]
    · show upd (upd (gIA g 16) (2000 + k) _) (2000 + p) _ (2000 + p) = _; rw [pk_us]
    · show upd (gIA gc 4) k _ k = _; rw [pk_us]
    · show upd (upd (gIA gc 2) k _) p _ k = _; rw [pk_un (by omega), pk_us]
    · show upd (upd (gIA g 16) (2000 + k) _) (2000 + p) _ (2000 + k) = _; rw [pk_un (by omega), pk_us]
  · rw [if_neg d, (k66 _).2] at rf
    rw [if_neg d] at cl
    exact .inl (soF_mk rf cl ((fr _).trans ((giv_fr _ _ _).mono (by decide))) (fun q hq => fl _ q hq) (gT_fr gT T) (Fr.refl _ _))
