/-! date: years and months by counting, and by formulas -/
theorem jrem {x d : Int32} {z D : Int} (hz : x.toInt = z) (hd : d.toInt = D) (h0 : 0 < D) (h1 : -1000000000 ≤ z) (h2 : z ≤ 1000000000) : (x - x / d * d).toInt = z.tmod D ∧ (x / d).toInt = z.tdiv D := by
  have a1 := Int.tmod_add_mul_tdiv z D
  have b : -1000000000 ≤ z.tdiv D ∧ z.tdiv D ≤ 1000000000 ∧ -1000000000 ≤ D * z.tdiv D ∧ D * z.tdiv D ≤ 1000000000 := by
    rcases Int.le_total 0 z with h | h
    · have t1 := Int.tmod_nonneg D h
      have t2 : 0 ≤ z.tdiv D := Int.tdiv_nonneg h (Int.le_of_lt h0)
      have t3 : z.tdiv D ≤ D * z.tdiv D := by
        have := Int.mul_le_mul_of_nonneg_right (show 1 ≤ D by omega) t2
        rw [Int.one_mul] at this; exact this
      omega
    · have e : z.tdiv D = -((-z).tdiv D) := by rw [Int.neg_tdiv, Int.neg_neg]
      have e2 : z.tmod D = -((-z).tmod D) := by rw [Int.neg_tmod, Int.neg_neg]
      have t1 := Int.tmod_nonneg D (show 0 ≤ -z by omega)
      have t2 : 0 ≤ (-z).tdiv D := Int.tdiv_nonneg (by omega) (Int.le_of_lt h0)
      have t3 : (-z).tdiv D ≤ D * (-z).tdiv D := by
        have := Int.mul_le_mul_of_nonneg_right (show 1 ≤ D by omega) t2
        rw [Int.one_mul] at this; exact this
      have t4 : D * z.tdiv D = -(D * (-z).tdiv D) := by rw [e, Int.mul_neg]
      omega
  have e1 : (x / d).toInt = z.tdiv D := by
    rw [Int32.toInt_div, hz, hd]
    exact Int.bmod_eq_of_le (by omega) (by omega)
  have e2 : (x / d * d).toInt = D * z.tdiv D := by
    rw [Int32.toInt_mul, e1, hd, Int.mul_comm]
    exact Int.bmod_eq_of_le (by omega) (by omega)
  refine ⟨?_, e1⟩
  rw [i32_sub (by rw [hz, e2]; omega) (by rw [hz, e2]; omega), hz, e2]
  omega
theorem tmod_zero {z D : Int} : z.tmod D = 0 ↔ z % D = 0 := by
  rw [← Int.dvd_iff_tmod_eq_zero, ← Int.dvd_iff_emod_eq_zero]
theorem i32_zero {x : Int32} : x = 0 ↔ x.toInt = 0 := by
  rw [← Int32.toInt_inj]; rfl
def leapZ (z : Int) : Bool := decide (z % 4 = 0 ∧ (z % 100 ≠ 0 ∨ z % 400 = 0))
theorem isLeap12 {y : Int32} {z : Int} (h : y.toInt = z) (h1 : -1000000000 ≤ z) (h2 : z ≤ 1000000000) : f_X12_isLeap y = some (sgB (leapZ z)) ∧ f_X11_isLeap y = some (sgB (leapZ z)) := by
  have a1 := (jrem h (show (4 : Int32).toInt = 4 by decide) (by decide) h1 h2).1
  have a2 := (jrem h (show (100 : Int32).toInt = 100 by decide) (by decide) h1 h2).1
  have a3 := (jrem h (show (400 : Int32).toInt = 400 by decide) (by decide) h1 h2).1
  have key : (if (y - y / (4 : Int32) * (4 : Int32)) = 0 then (if (y - y / (100 : Int32) * (100 : Int32)) = 0 then (if (y - y / (400 : Int32) * (400 : Int32)) = 0 then (some (1 : Int32)) else (some (0 : Int32))) else (some (1 : Int32))) else (some (0 : Int32))) = some (sgB (leapZ z)) := by
    simp only [i32_zero, a1, a2, a3, tmod_zero]
    unfold leapZ
    by_cases c1 : z % 4 = 0
    · by_cases c2 : z % 100 = 0
      · by_cases c3 : z % 400 = 0
        · rw [if_pos c1, if_pos c2, if_pos c3, decide_eq_true ⟨c1, .inr c3⟩]; rfl
        · rw [if_pos c1, if_pos c2, if_neg c3, decide_eq_false (fun q => by rcases q.2 with h | h <;> contradiction)]; rfl
      · rw [if_pos c1, if_neg c2, decide_eq_true ⟨c1, .inl c2⟩]; rfl
    · rw [if_neg c1, decide_eq_false (fun q => c1 q.1)]; rfl
  exact ⟨key, key⟩
/-! years of 400, counted from 0 -/
def lpN (j : Nat) : Bool := decide ((j + 1) % 4 = 0 ∧ ((j + 1) % 100 ≠ 0 ∨ (j + 1) % 400 = 0))
def ylen (j : Nat) : Nat := if lpN j = true then 366 else 365
def cum (j : Nat) : Nat := 365 * j + j / 4 - j / 100 + j / 400
theorem cum_succ (j : Nat) : cum (j + 1) = cum j + ylen j := by
  unfold cum ylen lpN
  by_cases h : (j + 1) % 4 = 0 ∧ ((j + 1) % 100 ≠ 0 ∨ (j + 1) % 400 = 0)
  · rw [decide_eq_true h, if_pos rfl]
    omega
  · rw [decide_eq_false h, if_neg (by decide)]
    omega
theorem cum_400 : cum 400 = 146097 := by decide
theorem leap_cyc {k : Int} {j : Nat} : leapZ (400 * k + 1 + (j : Int)) = lpN j := by
  unfold leapZ lpN
  apply decide_eq_decide.mpr
  omega
def dfin (rec : (Gs → Int32 → Int32 → Int32 → Option (Int32 × Gs)) × (Gs → Int32 → Int32 → Int32 → Int32 → Int32 → Option (Int32 × Gs))) (g : Gs) (v3 v8 v9 : Int32) : Option (Int32 × Gs) := if v3 = 0 then (some (v9, g)) else (if v3 = (4 : Int32) then (some (v8 + (1 : Int32), g)) else (rec.2 g v3 v8 v9 (1 : Int32) (31 : Int32)))
theorem year_loop {n : Nat} {g : Gs} {w : Int32} {k : Int} {R : Nat} (hk1 : -1000000 ≤ k) (hk2 : k ≤ 1000000) (hR : R < 146097) : ∀ (d f j : Nat) (yr : Int32), j + d = 400 → d + 20 < f → yr.toInt = 400 * k + 1 + (j : Int) → cum j ≤ R → ∃ (j' f' : Nat) (yr' : Int32), j' < 400 ∧ cum j' ≤ R ∧ R < cum (j' + 1) ∧ yr'.toInt = 400 * k + 1 + (j' : Int) ∧ 18 < f' ∧ (L_X12_date n f).1 g w (nI (R - cum j)) yr = dfin (L_X12_date n f') g w (nI (R - cum j')) yr'
  | _, 0, _, _, _, h, _, _ => absurd h (Nat.not_lt_zero _)
  | 0, f + 1, j, yr, hj, _, _, hc => by
    have : j = 400 := by omega
    subst this
    rw [cum_400] at hc
    omega
  | d + 1, f + 1, j, yr, hj, hf, hy, hc => by
    have hl := (isLeap12 hy (by omega) (by omega)).1
    rw [leap_cyc] at hl
    have hcs := cum_succ j
    have hyl : ylen j = 366 ∨ ylen j = 365 := by unfold ylen; split <;> simp
    have step : (L_X12_date n (f + 1)).1 g w (nI (R - cum j)) yr = if nI (R - cum j) < nI (ylen j) then dfin (L_X12_date n f) g w (nI (R - cum j)) yr else (L_X12_date n f).1 g w (nI (R - cum j) - nI (ylen j)) (yr + 1) := by
      show h_X12_date_118 n (L_X12_date n f) g w (nI (R - cum j)) yr = _
      unfold h_X12_date_118 b_X12_date_137 b_X12_date_159 dfin ylen
      rw [bnd_s hl, bnd_s hl]
      cases lpN j <;> rfl
    rw [step]
    by_cases c : R - cum j < ylen j
    · rw [if_pos (nI_lt c (by omega))]
      exact ⟨j, f, yr, by omega, hc, by omega, hy, by omega, rfl⟩
    · rw [if_neg (nI_nlt (by omega) (by omega)), pk_sub (by omega), show R - cum j - ylen j = R - cum (j + 1) by omega]
      have t1 : (1 : Int32).toInt = 1 := by decide
      exact year_loop hk1 hk2 hR d f (j + 1) (yr + 1) (by omega) (by omega) (by rw [i32_add (by rw [hy, t1]; omega) (by rw [hy, t1]; omega), hy, t1]; omega) (by omega)
/-! months -/
def ml (lp : Bool) (m : Nat) : Nat := if m = 2 then (if lp = true then 29 else 28) else if m = 4 ∨ m = 6 ∨ m = 9 ∨ m = 11 then 30 else 31
def mo (lp : Bool) : Nat → Nat → Nat → Nat × Nat
  | 0, m, r => (m, r)
  | k + 1, m, r => if r < ml lp m then (m, r) else mo lp k (m + 1) (r - ml lp m)
theorem ml_bound (lp : Bool) (m : Nat) : 28 ≤ ml lp m ∧ ml lp m ≤ 31 := by
  unfold ml
  split
  · split <;> omega
  · split <;> omega
theorem month_loop {n : Nat} {g : Gs} {w : Nat} {yr : Int32} {Y : Int} (hw : w < 10) (hy : yr.toInt = Y) (h1 : -1000000000 ≤ Y) (h2 : Y ≤ 1000000000) : ∀ (k f m r : Nat), k < f → m + k ≤ 20 → r < 400 → (mo (leapZ Y) k m r).2 < ml (leapZ Y) (mo (leapZ Y) k m r).1 → (L_X12_date n f).2 g (nI w) (nI r) yr (nI m) (nI (ml (leapZ Y) m)) = some (if w = 1 then nI (mo (leapZ Y) k m r).1 else nI ((mo (leapZ Y) k m r).2 + 1), g)
  | _, 0, _, _, h, _, _, _ => absurd h (Nat.not_lt_zero _)
  | k, f + 1, m, r, hf, hm, hr, hfin => by
    have hb := ml_bound (leapZ Y) m
    show h_X12_date_192 n (L_X12_date n f) g (nI w) (nI r) yr (nI m) (nI (ml (leapZ Y) m)) = _
    have done : ∀ (m r : Nat), (if nI w = (1 : Int32) then (some (nI m, g)) else (some (nI r + (1 : Int32), g))) = some (if w = 1 then nI m else nI (r + 1), g) := by
      intro m r
      rw [nI_1]
      by_cases c : w = 1
      · rw [if_pos c, c]; rfl
      · rw [if_neg c, if_neg (show ¬ nI w = (1 : Int32) from fun z => c ((nI_eq (b := 1) (by omega) (by decide)).mp z))]
    by_cases c : r < ml (leapZ Y) m
    · unfold h_X12_date_192
      rw [if_pos (nI_lt c (by omega))]
      have e : mo (leapZ Y) k m r = (m, r) := by
        cases k with
        | zero => rfl
        | succ k => exact if_pos c
      rw [e]
      exact done m r
    · cases k with
      | zero => exact absurd hfin c
      | succ k =>
        have e : mo (leapZ Y) (k + 1) m r = mo (leapZ Y) k (m + 1) (r - ml (leapZ Y) m) := if_neg c
        rw [e] at hfin ⊢
        have step : h_X12_date_192 n (L_X12_date n f) g (nI w) (nI r) yr (nI m) (nI (ml (leapZ Y) m)) = (L_X12_date n f).2 g (nI w) (nI r - nI (ml (leapZ Y) m)) yr (nI (m + 1)) (nI (ml (leapZ Y) (m + 1))) := by
          unfold h_X12_date_192 b_X12_date_260 b_X12_date_267
          rw [if_neg (nI_nlt (by omega) (by omega)), nI_1, bnd_s (isLeap12 hy h1 h2).1]
          have q2 : (nI (m + 1) = (2 : Int32)) ↔ m + 1 = 2 := nI_eq (b := 2) (by omega) (by decide)
          have q4 : (nI (m + 1) = (4 : Int32)) ↔ m + 1 = 4 := nI_eq (b := 4) (by omega) (by decide)
          have q6 : (nI (m + 1) = (6 : Int32)) ↔ m + 1 = 6 := nI_eq (b := 6) (by omega) (by decide)
          have q9 : (nI (m + 1) = (9 : Int32)) ↔ m + 1 = 9 := nI_eq (b := 9) (by omega) (by decide)
          have q11 : (nI (m + 1) = (11 : Int32)) ↔ m + 1 = 11 := nI_eq (b := 11) (by omega) (by decide)
          simp only [q2, q4, q6, q9, q11]
          generalize nI r - nI (ml (leapZ Y) m) = A
          unfold ml
          by_cases k2 : m + 1 = 2
          · rw [if_pos k2, if_pos k2]
            cases leapZ Y <;> rfl
          · rw [if_neg k2, if_neg k2]
            by_cases k4 : m + 1 = 4
            · rw [if_pos k4, if_pos (.inl k4)]; rfl
            · rw [if_neg k4]
              by_cases k6 : m + 1 = 6
              · rw [if_pos k6, if_pos (.inr (.inl k6))]; rfl
              · rw [if_neg k6]
                by_cases k9 : m + 1 = 9
                · rw [if_pos k9, if_pos (.inr (.inr (.inl k9)))]; rfl
                · rw [if_neg k9]
                  by_cases k11 : m + 1 = 11
                  · rw [if_pos k11, if_pos (.inr (.inr (.inr k11)))]; rfl
                  · rw [if_neg k11, if_neg (by omega)]; rfl
        rw [step, pk_sub (by omega)]
        exact month_loop hw hy h1 h2 k f (m + 1) (r - ml (leapZ Y) m) (by omega) (by omega) (by omega) hfin
