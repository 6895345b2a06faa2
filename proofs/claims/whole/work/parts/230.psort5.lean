/-! sorts: entries of two values, both sides -/
theorem ref_two {g : Gs} {T l r o k K : Nat} {s0 : Int32} (hK : K < 8000) (h58 : gI g 58 = nI (T + 2)) (hT : T < 400) (hl : l ≤ 7) (hr : r ≤ 7) (h14 : gIA g 14 K = nI (ro o)) (h15 : gIA g 15 K = nI k) (hs : s0 = if 1 ≤ r ∧ 1 ≤ l then 1 else 0) :
    ((k = 213 ∨ k = 214) → ro o = 11 → b_X12_sorted_66 g (nI K) (nI r) (nI l) s0 = b_X12_sorted_666 (giv (r16 g K (nI (8 * l + r))) T (nI (jn l r))) (nI K) s0) ∧
    (k = 215 → ro o = 11 → b_X12_sorted_66 g (nI K) (nI r) (nI l) s0 = b_X12_sorted_666 (giv (r16 g K (nI (8 * l + r))) T 7) (nI K) s0) ∧
    ((k = 43 ∨ k = 45 ∨ k = 42 ∨ k = 47 ∨ k = 37) → ro o = 12 → b_X12_sorted_66 g (nI K) (nI r) (nI l) s0 = b_X12_sorted_666 (giv (r16 g K (nI (8 * l + r))) T (nI (jn l r))) (nI K) s0) ∧
    ((k = 60 ∨ k = 62 ∨ k = 188 ∨ k = 190) → ro o = 12 → b_X12_sorted_66 g (nI K) (nI r) (nI l) s0 = b_X12_sorted_666 (giv (r16 g K (nI (8 * l + r))) T 0) (nI K) s0) ∧
    ((k = 189 ∨ k = 161) → ro o = 12 → b_X12_sorted_66 g (nI K) (nI r) (nI l) s0 = b_X12_sorted_666 (giv (r16 g K (nI (8 * l + r))) T 0) (nI K) (if (1 ≤ l ∧ 1 ≤ r) ∨ (l = 0 ∧ r = 0) then 1 else 0)) ∧
    ((ro o = 14 ∨ ro o = 16) → b_X12_sorted_66 g (nI K) (nI r) (nI l) s0 = b_X12_sorted_666 (giv g T 0) (nI K) (if l = 0 ∧ r = 0 then 1 else 0)) := by
  have bK : inB (nI K) 8000 = true := inB_nI hK (by decide)
  have cK : (nI K).toNatClampNeg = K := nI_clamp (by omega)
  have gv : ∀ x, f_X12_gives g 2 x = some (giv g T x) := fun x => giv_ok (k := 2) rfl h58 hT
  have gw : ∀ v x, f_X12_gives (r16 g K v) 2 x = some (giv (r16 g K v) T x) := fun v x => giv_ok (k := 2) rfl h58 hT
  obtain ⟨j1, _, j3⟩ := jn_all hl hr
  have z1 : ¬ (1 : Int32) = 0 := by decide
  have g11 : ro o = 11 → b_X12_sorted_66 g (nI K) (nI r) (nI l) s0 = if nI k = 215 then (b_X12_sorted_421 (r16 g K ((8 : Int32) * nI l + nI r)) (nI K) s0 (7 : Int32) (2 : Int32)) else (bnd (f_X12_joined (nI l) (nI r)) (fun q_47 => b_X12_sorted_421 (r16 g K ((8 : Int32) * nI l + nI r)) (nI K) s0 q_47 (2 : Int32))) := by
    intro ho
    unfold b_X12_sorted_66
    rw [grd_t bK, cK, h14, ho]
    simp only [grd_t bK, h15]; rfl
  have g12 : ro o = 12 → b_X12_sorted_66 g (nI K) (nI r) (nI l) s0 = (if nI k = (189 : Int32) then (b_X12_sorted_456 g (nI K) (nI r) (nI l) s0 (nI k) 1) else (if nI k = (161 : Int32) then (b_X12_sorted_456 g (nI K) (nI r) (nI l) s0 (nI k) 1) else (b_X12_sorted_456 g (nI K) (nI r) (nI l) s0 (nI k) (0 : Int32)))) := by
    intro ho
    unfold b_X12_sorted_66 b_X12_sorted_451
    rw [grd_t bK, cK, h14, ho]
    simp only [grd_t bK, h15]; rfl
  have e421 : ∀ x, b_X12_sorted_421 (r16 g K (nI (8 * l + r))) (nI K) s0 x 2 = b_X12_sorted_666 (giv (r16 g K (nI (8 * l + r))) T x) (nI K) s0 := by
    intro x; unfold b_X12_sorted_421; rw [bnd_s (gw _ x)]
  have e541 : ∀ x ok, b_X12_sorted_541 (r16 g K (nI (8 * l + r))) (nI K) ok x 2 = b_X12_sorted_666 (giv (r16 g K (nI (8 * l + r))) T x) (nI K) ok := by
    intro x ok; unfold b_X12_sorted_541; rw [bnd_s (gw _ x)]
  have e481 : ∀ eq ok, b_X12_sorted_481 g (nI K) (nI r) (nI l) (nI k) eq ok = b_X12_sorted_666 (giv (r16 g K (nI (8 * l + r))) T (if eq = 0 then (if nI k = 60 then 0 else if nI k = 62 then 0 else if nI k = 188 then 0 else if nI k = 190 then 0 else nI (jn l r)) else 0)) (nI K) ok := by
    intro eq ok
    unfold b_X12_sorted_481 b_X12_sorted_532
    rw [grd_t bK, cK, j3, bnd_s j1]
    simp only [e541]
    split
    · split
      · rfl
      · split
        · rfl
        · split
          · rfl
          · split
            · rfl
            · rfl
    · rfl
  refine ⟨fun hk ho => ?_, fun hk ho => ?_, fun hk ho => ?_, fun hk ho => ?_, fun hk ho => ?_, fun ho => ?_⟩
  · rw [g11 ho, j3, bnd_s j1, e421, e421]
    rcases hk with rfl | rfl <;> rfl
  · rw [g11 ho, j3, bnd_s j1, e421, e421, hk]; rfl
  · rw [g12 ho]
    have e : (if nI k = (189 : Int32) then (b_X12_sorted_456 g (nI K) (nI r) (nI l) s0 (nI k) 1) else (if nI k = (161 : Int32) then (b_X12_sorted_456 g (nI K) (nI r) (nI l) s0 (nI k) 1) else (b_X12_sorted_456 g (nI K) (nI r) (nI l) s0 (nI k) (0 : Int32)))) = b_X12_sorted_456 g (nI K) (nI r) (nI l) s0 (nI k) 0 := by
      rcases hk with rfl | rfl | rfl | rfl | rfl <;> rfl
    rw [e]
    unfold b_X12_sorted_456 b_X12_sorted_476 b_X12_sorted_480
    rw [e481, e481, hs]
    have ek : (if (0 : Int32) = 0 then (if nI k = 60 then 0 else if nI k = 62 then 0 else if nI k = 188 then 0 else if nI k = 190 then 0 else nI (jn l r)) else 0) = nI (jn l r) := by
      rcases hk with rfl | rfl | rfl | rfl | rfl <;> rfl
    rw [ek]
    by_cases c : 1 ≤ r ∧ 1 ≤ l
    · rw [if_pos c, if_neg z1]
    · rw [if_neg c, if_pos rfl, if_pos rfl]
  · rw [g12 ho]
    have e : (if nI k = (189 : Int32) then (b_X12_sorted_456 g (nI K) (nI r) (nI l) s0 (nI k) 1) else (if nI k = (161 : Int32) then (b_X12_sorted_456 g (nI K) (nI r) (nI l) s0 (nI k) 1) else (b_X12_sorted_456 g (nI K) (nI r) (nI l) s0 (nI k) (0 : Int32)))) = b_X12_sorted_456 g (nI K) (nI r) (nI l) s0 (nI k) 0 := by
      rcases hk with rfl | rfl | rfl | rfl <;> rfl
    rw [e]
    unfold b_X12_sorted_456 b_X12_sorted_476 b_X12_sorted_480
    rw [e481, e481, hs]
    have ek : (if (0 : Int32) = 0 then (if nI k = 60 then 0 else if nI k = 62 then 0 else if nI k = 188 then 0 else if nI k = 190 then 0 else nI (jn l r)) else 0) = 0 := by
      rcases hk with rfl | rfl | rfl | rfl <;> rfl
    rw [ek]
    by_cases c : 1 ≤ r ∧ 1 ≤ l
    · rw [if_pos c, if_neg z1]
    · rw [if_neg c, if_pos rfl, if_pos rfl]
  · rw [g12 ho]
    have e : (if nI k = (189 : Int32) then (b_X12_sorted_456 g (nI K) (nI r) (nI l) s0 (nI k) 1) else (if nI k = (161 : Int32) then (b_X12_sorted_456 g (nI K) (nI r) (nI l) s0 (nI k) 1) else (b_X12_sorted_456 g (nI K) (nI r) (nI l) s0 (nI k) (0 : Int32)))) = b_X12_sorted_456 g (nI K) (nI r) (nI l) s0 (nI k) 1 := by
      rcases hk with rfl | rfl <;> rfl
    rw [e]
    unfold b_X12_sorted_456 b_X12_sorted_476 b_X12_sorted_480
    rw [e481, e481, hs]
    have P1 : ∀ {α : Type} {x y : α}, (1 ≤ l ∧ 1 ≤ r) ∨ (l = 0 ∧ r = 0) → (if (1 ≤ l ∧ 1 ≤ r) ∨ (l = 0 ∧ r = 0) then x else y) = x := fun h => if_pos h
    by_cases c : 1 ≤ r ∧ 1 ≤ l
    · rw [if_pos c, if_neg z1, P1 (.inl ⟨c.2, c.1⟩), if_neg z1]
    · rw [if_neg c, if_pos rfl, if_neg z1, if_neg z1]
      by_cases d : r = 0
      · rw [if_pos ((nI0 hr).mpr d)]
        by_cases f : l = 0
        · rw [if_pos ((nI0 hl).mpr f), P1 (.inr ⟨f, d⟩)]
        · rw [if_neg (fun y => f ((nI0 hl).mp y)), if_neg (show ¬ ((1 ≤ l ∧ 1 ≤ r) ∨ (l = 0 ∧ r = 0)) by omega)]
      · rw [if_neg (fun y => d ((nI0 hr).mp y)), if_neg (show ¬ ((1 ≤ l ∧ 1 ≤ r) ∨ (l = 0 ∧ r = 0)) by omega)]
  · have e : b_X12_sorted_66 g (nI K) (nI r) (nI l) s0 = (if nI r = 0 then (if nI l = 0 then (b_X12_sorted_560 g (nI K) (1 : Int32)) else (b_X12_sorted_560 g (nI K) 0)) else (b_X12_sorted_560 g (nI K) 0)) := by
      unfold b_X12_sorted_66 b_X12_sorted_559
      rw [grd_t bK, cK, h14]
      rcases ho with ho | ho <;> rw [ho] <;> rfl
    have e560 : ∀ v, b_X12_sorted_560 g (nI K) v = b_X12_sorted_666 (giv g T 0) (nI K) v := by
      intro v; unfold b_X12_sorted_560; rw [bnd_s (gv 0)]
    rw [e, e560, e560]
    by_cases d : r = 0
    · rw [if_pos ((nI0 hr).mpr d)]
      by_cases f : l = 0
      · rw [if_pos ((nI0 hl).mpr f), if_pos (show l = 0 ∧ r = 0 from ⟨f, d⟩)]
      · rw [if_neg (fun y => f ((nI0 hl).mp y)), if_neg (show ¬ (l = 0 ∧ r = 0) by omega)]
    · rw [if_neg (fun y => d ((nI0 hr).mp y)), if_neg (show ¬ (l = 0 ∧ r = 0) by omega)]
theorem two_list {o : Nat} (ho : opT o) (h : ¬ o ≤ 22) : o ∈ [23, 24, 25, 49, 50, 51, 52, 53, 55, 56, 57, 58, 59, 60, 61, 62] := by
  simp only [List.mem_cons, List.mem_nil_iff, or_false]; unfold opT at ho; omega
theorem c234_ne {gc : Gs} {i l r : Nat} {x : Int32} : ∀ q, q ≠ i → gIA (c2 (c34 gc i l r) i x) 2 q = gIA gc 2 q ∧ gIA (c2 (c34 gc i l r) i x) 3 q = gIA gc 3 q ∧ gIA (c2 (c34 gc i l r) i x) 4 q = gIA gc 4 q := fun q hq => ⟨by show upd (gIA gc 2) i x q = _; rw [pk_un hq], by show upd (gIA gc 3) i (nI l) q = _; rw [pk_un hq], by show upd (gIA gc 4) i (nI r) q = _; rw [pk_un hq]⟩
theorem c2234_ne {gc : Gs} {i l r : Nat} {x y : Int32} : ∀ q, q ≠ i → gIA (c2 (c2 (c34 gc i l r) i x) i y) 2 q = gIA gc 2 q ∧ gIA (c2 (c2 (c34 gc i l r) i x) i y) 3 q = gIA gc 3 q ∧ gIA (c2 (c2 (c34 gc i l r) i x) i y) 4 q = gIA gc 4 q := fun q hq => ⟨by show upd (upd (gIA gc 2) i x) i y q = _; rw [pk_un hq, pk_un hq], by show upd (gIA gc 3) i (nI l) q = _; rw [pk_un hq], by show upd (gIA gc 4) i (nI r) q = _; rw [pk_un hq]⟩
theorem c234_at {gc : Gs} {i l r : Nat} {x : Int32} : gIA (c2 (c34 gc i l r) i x) 2 i = x ∧ gIA (c2 (c34 gc i l r) i x) 3 i = nI l ∧ gIA (c2 (c34 gc i l r) i x) 4 i = nI r := ⟨by show upd (gIA gc 2) i x i = _; rw [pk_us], by show upd (gIA gc 3) i (nI l) i = _; rw [pk_us], by show upd (gIA gc 4) i (nI r) i = _; rw [pk_us]⟩
theorem c2234_at {gc : Gs} {i l r : Nat} {x y : Int32} : gIA (c2 (c2 (c34 gc i l r) i x) i y) 2 i = y ∧ gIA (c2 (c2 (c34 gc i l r) i x) i y) 3 i = nI l ∧ gIA (c2 (c2 (c34 gc i l r) i x) i y) 4 i = nI r := ⟨by show upd (upd (gIA gc 2) i x) i y i = _; rw [pk_us], by show upd (gIA gc 3) i (nI l) i = _; rw [pk_us], by show upd (gIA gc 4) i (nI r) i = _; rw [pk_us]⟩
