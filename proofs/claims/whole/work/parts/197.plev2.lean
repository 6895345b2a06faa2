/-! parsing: products, sums, comparisons, && and || -/
theorem tok9 {n L T : Nat} {g2 G : Gs} {B : Nat → Nat} {gA : Gs} {jA : Nat} (hS : ScR n g2 L B G T) (hf : Fr parA G gA) (h20 : gI gA 20 = nI jA) (hj : jA < T) : inB (gI gA 20) 3001 = true ∧ (gI gA 20).toNatClampNeg = jA ∧ gIA gA 9 jA = nI (tk G jA) ∧ gIA gA 10 jA = nI (ta G jA) ∧ tk G jA ∈ KS ∧ tk G jA < 256 := by
  have hT := hS.2.2.1
  obtain ⟨k1, k2, k3, k4, k5⟩ := hS.tok hj
  exact ⟨by rw [h20]; exact inB_nI (by omega) (by decide), by rw [h20]; exact nI_clamp (by omega), by rw [(hf 9 (by decide)).2.2.2.1, k1], by rw [(hf 10 (by decide)).2.2.2.1, k2], k3, k4⟩
theorem nIx {a b : Nat} (ha : a < 256) (hb : b < 256) : (nI a = nI b) ↔ a = b := nI_eq (by omega) (by omega)
theorem rk6 {K : Nat} (h : K ∈ KS) : rk (kc K) = 6 ↔ (K = 42 ∨ K = 47 ∨ K = 37) := by
  have : ∀ x ∈ KS, rk (kc x) = 6 ↔ (x = 42 ∨ x = 47 ∨ x = 37) := by decide
  exact this K h
theorem rk5 {K : Nat} (h : K ∈ KS) : rk (kc K) = 5 ↔ (K = 43 ∨ K = 45) := by
  have : ∀ x ∈ KS, rk (kc x) = 5 ↔ (x = 43 ∨ x = 45) := by decide
  exact this K h
theorem rk4 {K : Nat} (h : K ∈ KS) : rk (kc K) = 4 ↔ (K = 60 ∨ K = 62 ∨ K = 188 ∨ K = 190) := by
  have : ∀ x ∈ KS, rk (kc x) = 4 ↔ (x = 60 ∨ x = 62 ∨ x = 188 ∨ x = 190) := by decide
  exact this K h
theorem rk3 {K : Nat} (h : K ∈ KS) : rk (kc K) = 3 ↔ (K = 189 ∨ K = 161) := by
  have : ∀ x ∈ KS, rk (kc x) = 3 ↔ (x = 189 ∨ x = 161) := by decide
  exact this K h
theorem rk2 {K : Nat} (h : K ∈ KS) : (rk (kc K) = 2 ↔ K = 166) ∧ (rk (kc K) = 1 ↔ K = 252) ∧ (kc K = 61 ↔ K = 166) ∧ (kc K = 62 ↔ K = 252) := by
  have : ∀ x ∈ KS, (rk (kc x) = 2 ↔ x = 166) ∧ (rk (kc x) = 1 ↔ x = 252) ∧ (kc x = 61 ↔ x = 166) ∧ (kc x = 62 ↔ x = 252) := by decide
  exact this K h
theorem ifN {α : Type} {a b : Nat} {x y : α} {c : Int32} (hc : c = nI b) (ha : a < 256) (hb : b < 256) (hne : a ≠ b) : (if nI a = c then x else y) = y := if_neg (fun z => hne ((nIx ha hb).mp (z.trans hc)))
theorem ifP {α : Type} {a b : Nat} {x y : α} {c : Int32} (hc : c = nI b) (hne : a = b) : (if nI a = c then x else y) = x := if_pos (by rw [hne, hc])
theorem w9 {n L T : Nat} {g2 G : Gs} {B : Nat → Nat} (hS : ScR n g2 L B G T) : ∀ gC jA, Fr parA G gC → jA < T → gIA gC 9 jA = nI (tk G jA) := fun gC jA hf hj => by
  rw [(hf 9 (by decide)).2.2.2.1, (hS.tok hj).1]
theorem lv_product {n hP L T : Nat} {g2 G gt : Gs} {B : Nat → Nat} {D : Nat} {rc : RCT} (hS : ScR n g2 L B G T) (hn : 20000 ≤ n) (hF : LV n hP L T g2 G gt B 7 3 D rc.2.2.1) : LV n hP L T g2 G gt B 6 4 (D + 1) (f_X12_product n rc) := by
  refine lev_loop (w := fun g j => gIA g 9 j) (Lp := L_X12_product n rc) hS hn (.inr rfl) (w9 hS) hF (fun k gA jA hf h20 hj hr => ?_) (fun k gA jA hf h20 hj hr => ?_)
  · obtain ⟨t1, t2, t3, t4, t5, t6⟩ := tok9 hS hf h20 hj
    have hr2 := mt (rk6 t5).mpr hr
    show h_X12_product_9 n rc (L_X12_product n rc k) gA = _
    unfold h_X12_product_9
    rw [grd_t t1, t2, t3, ifN (c := 42) (b := 42) rfl t6 (by decide) (by omega), grd_t t1, ifN (c := 47) (b := 47) rfl t6 (by decide) (by omega), grd_t t1, ifN (c := 37) (b := 37) rfl t6 (by decide) (by omega)]
  · obtain ⟨t1, t2, t3, t4, t5, t6⟩ := tok9 hS hf h20 hj
    have e : b_X12_product_51 n rc (L_X12_product n rc k) gA = goP (fun g j => gIA g 9 j) rc.2.2.1 jA gA (L_X12_product n rc k) := by
      unfold b_X12_product_51 goP
      simp only [grd_t t1, t2]
      rw [h20]
    show h_X12_product_9 n rc (L_X12_product n rc k) gA = _
    unfold h_X12_product_9
    rw [grd_t t1, t2, t3, grd_t t1, grd_t t1, e]
    rcases (rk6 t5).mp hr with z | z | z
    · rw [ifP (c := 42) (b := 42) rfl z]
    · rw [ifN (c := 42) (b := 42) rfl t6 (by decide) (by omega), ifP (c := 47) (b := 47) rfl z]
    · rw [ifN (c := 42) (b := 42) rfl t6 (by decide) (by omega), ifN (c := 47) (b := 47) rfl t6 (by decide) (by omega), ifP (c := 37) (b := 37) rfl z]
theorem lv_sum {n hP L T : Nat} {g2 G gt : Gs} {B : Nat → Nat} {D : Nat} {rc : RCT} (hS : ScR n g2 L B G T) (hn : 20000 ≤ n) (hF : LV n hP L T g2 G gt B 6 4 D rc.2.2.2.1) : LV n hP L T g2 G gt B 5 5 (D + 1) (f_X12_sum n rc) := by
  refine lev_loop (w := fun g j => gIA g 9 j) (Lp := L_X12_sum n rc) hS hn (.inl rfl) (w9 hS) hF (fun k gA jA hf h20 hj hr => ?_) (fun k gA jA hf h20 hj hr => ?_)
  · obtain ⟨t1, t2, t3, t4, t5, t6⟩ := tok9 hS hf h20 hj
    have hr2 := mt (rk5 t5).mpr hr
    show h_X12_sum_9 n rc (L_X12_sum n rc k) gA = _
    unfold h_X12_sum_9
    rw [grd_t t1, t2, t3, ifN (c := 43) (b := 43) rfl t6 (by decide) (by omega), grd_t t1, ifN (c := 45) (b := 45) rfl t6 (by decide) (by omega)]
  · obtain ⟨t1, t2, t3, t4, t5, t6⟩ := tok9 hS hf h20 hj
    have e : b_X12_sum_37 n rc (L_X12_sum n rc k) gA = goP (fun g j => gIA g 9 j) rc.2.2.2.1 jA gA (L_X12_sum n rc k) := by
      unfold b_X12_sum_37 goP
      simp only [grd_t t1, t2]
      rw [h20]
    show h_X12_sum_9 n rc (L_X12_sum n rc k) gA = _
    unfold h_X12_sum_9
    rw [grd_t t1, t2, t3, grd_t t1, e]
    rcases (rk5 t5).mp hr with z | z
    · rw [ifP (c := 43) (b := 43) rfl z]
    · rw [ifN (c := 43) (b := 43) rfl t6 (by decide) (by omega), ifP (c := 45) (b := 45) rfl z]
theorem lv_compares {n hP L T : Nat} {g2 G gt : Gs} {B : Nat → Nat} {D : Nat} {rc : RCT} (hS : ScR n g2 L B G T) (hn : 20000 ≤ n) (hF : LV n hP L T g2 G gt B 5 5 D rc.2.2.2.2.1) : LV n hP L T g2 G gt B 4 6 (D + 1) (f_X12_compares n rc) := by
  refine lev_once (w := fun _ j => nI (tk G j)) (Cn := fun gA => grd (inB (gI gA 20) 3001) (if (gIA gA 9 (gI gA 20).toNatClampNeg) = (60 : Int32) then (b_X12_compares_47 n rc gA (gIA gA 9 (gI gA 20).toNatClampNeg)) else (if (gIA gA 9 (gI gA 20).toNatClampNeg) = (62 : Int32) then (b_X12_compares_47 n rc gA (gIA gA 9 (gI gA 20).toNatClampNeg)) else (if (gIA gA 9 (gI gA 20).toNatClampNeg) = (188 : Int32) then (b_X12_compares_47 n rc gA (gIA gA 9 (gI gA 20).toNatClampNeg)) else (if (gIA gA 9 (gI gA 20).toNatClampNeg) = (190 : Int32) then (b_X12_compares_47 n rc gA (gIA gA 9 (gI gA 20).toNatClampNeg)) else (some ((1 : Int32), gA))))))) hS hn (.inr rfl) (fun _ _ _ _ => rfl) hF (fun gA jA hf h20 hj hr => ?_) (fun gA jA hf h20 hj hr => ?_)
  · obtain ⟨t1, t2, t3, t4, t5, t6⟩ := tok9 hS hf h20 hj
    have hr2 := mt (rk4 t5).mpr hr
    show grd (inB (gI gA 20) 3001) _ = _
    rw [grd_t t1, t2, t3, ifN (c := 60) (b := 60) rfl t6 (by decide) (by omega), ifN (c := 62) (b := 62) rfl t6 (by decide) (by omega), ifN (c := 188) (b := 188) rfl t6 (by decide) (by omega), ifN (c := 190) (b := 190) rfl t6 (by decide) (by omega)]
  · obtain ⟨t1, t2, t3, t4, t5, t6⟩ := tok9 hS hf h20 hj
    have e : b_X12_compares_47 n rc gA (nI (tk G jA)) = goP (fun _ j => nI (tk G j)) rc.2.2.2.2.1 jA gA (fun g => some (1, g)) := by
      unfold b_X12_compares_47 goP
      simp only [grd_t t1, t2]
      rw [h20]
    show grd (inB (gI gA 20) 3001) _ = _
    rw [grd_t t1, t2, t3, e]
    rcases (rk4 t5).mp hr with z | z | z | z
    · rw [ifP (c := 60) (b := 60) rfl z]
    · rw [ifN (c := 60) (b := 60) rfl t6 (by decide) (by omega), ifP (c := 62) (b := 62) rfl z]
    · rw [ifN (c := 60) (b := 60) rfl t6 (by decide) (by omega), ifN (c := 62) (b := 62) rfl t6 (by decide) (by omega), ifP (c := 188) (b := 188) rfl z]
    · rw [ifN (c := 60) (b := 60) rfl t6 (by decide) (by omega), ifN (c := 62) (b := 62) rfl t6 (by decide) (by omega), ifN (c := 188) (b := 188) rfl t6 (by decide) (by omega), ifP (c := 190) (b := 190) rfl z]
theorem lv_equals {n hP L T : Nat} {g2 G gt : Gs} {B : Nat → Nat} {D : Nat} {rc : RCT} (hS : ScR n g2 L B G T) (hn : 20000 ≤ n) (hF : LV n hP L T g2 G gt B 4 6 D rc.2.2.2.2.2.1) : LV n hP L T g2 G gt B 3 7 (D + 1) (f_X12_equals n rc) := by
  refine lev_once (w := fun g j => gIA g 9 j) (Cn := fun gA => grd (inB (gI gA 20) 3001) (if (gIA gA 9 (gI gA 20).toNatClampNeg) = (189 : Int32) then (b_X12_equals_41 n rc gA) else (grd (inB (gI gA 20) 3001) (if (gIA gA 9 (gI gA 20).toNatClampNeg) = (161 : Int32) then (b_X12_equals_41 n rc gA) else (some ((1 : Int32), gA)))))) hS hn (.inl rfl) (w9 hS) hF (fun gA jA hf h20 hj hr => ?_) (fun gA jA hf h20 hj hr => ?_)
  · obtain ⟨t1, t2, t3, t4, t5, t6⟩ := tok9 hS hf h20 hj
    have hr2 := mt (rk3 t5).mpr hr
    show grd (inB (gI gA 20) 3001) _ = _
    rw [grd_t t1, t2, t3, ifN (c := 189) (b := 189) rfl t6 (by decide) (by omega), grd_t t1, ifN (c := 161) (b := 161) rfl t6 (by decide) (by omega)]
  · obtain ⟨t1, t2, t3, t4, t5, t6⟩ := tok9 hS hf h20 hj
    have e : b_X12_equals_41 n rc gA = goP (fun g j => gIA g 9 j) rc.2.2.2.2.2.1 jA gA (fun g => some (1, g)) := by
      unfold b_X12_equals_41 goP
      simp only [grd_t t1, t2]
      rw [h20]
    show grd (inB (gI gA 20) 3001) _ = _
    rw [grd_t t1, t2, t3, grd_t t1, e]
    rcases (rk3 t5).mp hr with z | z
    · rw [ifP (c := 189) (b := 189) rfl z]
    · rw [ifN (c := 189) (b := 189) rfl t6 (by decide) (by omega), ifP (c := 161) (b := 161) rfl z]
theorem lv_and {n hP L T : Nat} {g2 G gt : Gs} {B : Nat → Nat} {D : Nat} {rc : RCT} (hS : ScR n g2 L B G T) (hn : 20000 ≤ n) (hF : LV n hP L T g2 G gt B 3 7 D rc.2.2.2.2.2.2.1) : LV n hP L T g2 G gt B 2 8 (D + 1) (fun g => f_X12_choice n rc g 166) := by
  have h := lev_skip (ρ := 2) (so := 67) (ko := 61) (Lp := fun k g => L_X12_choice n rc k g 166 0) hS hn (by omega) hF (fun k gA jA hf h20 hj hr => by
    obtain ⟨t1, t2, t3, t4, t5, t6⟩ := tok9 hS hf h20 hj
    have hr' := fun z => hr ((rk2 t5).1.mpr z)
    show h_X12_choice_39 n rc (L_X12_choice n rc k) gA 166 0 = _
    unfold h_X12_choice_39
    rw [grd_t t1, t2, t3, ifN (c := 166) (b := 166) rfl t6 (by decide) hr']) (fun k gA jA hf h20 hj hr => by
    obtain ⟨t1, t2, t3, t4, t5, t6⟩ := tok9 hS hf h20 hj
    have hr' := (rk2 t5).2.2.1.mp hr
    show h_X12_choice_39 n rc (L_X12_choice n rc k) gA 166 0 = _
    unfold h_X12_choice_39 b_X12_choice_87 b_X12_choice_125 b_X12_choice_137
    rw [grd_t t1, t2, t3, ifP (c := 166) (b := 166) rfl hr']
    unfold goS
    simp only [grd_t t1, t2]
    rw [h20]
    rfl)
  exact h
theorem lv_or {n hP L T : Nat} {g2 G gt : Gs} {B : Nat → Nat} {D : Nat} {rc : RCT} (hS : ScR n g2 L B G T) (hn : 20000 ≤ n) (hF : LV n hP L T g2 G gt B 2 8 D (fun g => rc.2.2.2.2.2.2.2.1 g 166)) : LV n hP L T g2 G gt B 1 9 (D + 1) (fun g => f_X12_choice n rc g 252) := by
  have h := lev_skip (ρ := 1) (so := 68) (ko := 62) (Lp := fun k g => L_X12_choice n rc k g 252 1) hS hn (by omega) hF (fun k gA jA hf h20 hj hr => by
    obtain ⟨t1, t2, t3, t4, t5, t6⟩ := tok9 hS hf h20 hj
    have hr' := fun z => hr ((rk2 t5).2.1.mpr z)
    show h_X12_choice_39 n rc (L_X12_choice n rc k) gA 252 1 = _
    unfold h_X12_choice_39
    rw [grd_t t1, t2, t3, ifN (c := 252) (b := 252) rfl t6 (by decide) hr']) (fun k gA jA hf h20 hj hr => by
    obtain ⟨t1, t2, t3, t4, t5, t6⟩ := tok9 hS hf h20 hj
    have hr' := (rk2 t5).2.2.2.mp hr
    show h_X12_choice_39 n rc (L_X12_choice n rc k) gA 252 1 = _
    unfold h_X12_choice_39 b_X12_choice_87 b_X12_choice_125 b_X12_choice_137
    rw [grd_t t1, t2, t3, ifP (c := 252) (b := 252) rfl hr']
    unfold goS
    simp only [grd_t t1, t2]
    rw [h20]
    rfl)
  exact h
