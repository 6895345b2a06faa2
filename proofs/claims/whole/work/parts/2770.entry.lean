theorem entry_cl {args : Array Value} {s : State} (hts : ∀ w ∈ lw_tbl, w.before args s = true) : ∃ G : va_G, ∀ (k : Nat) (q : vw_C), vwCl[k]? = some q → u_Kn s q.1 q.2.1 q.2.2 (G.1 k) (G.2 k) := by
  have ha : ∀ w ∈ lw_all, w.before args s = true := fun w hw => hts w (lw_all_tbl hw)
  have h : ∀ k : Nat, ∃ G : ClassId × (Nat → Nat), ∀ q : vw_C, vwCl[k]? = some q → u_Kn s q.1 q.2.1 q.2.2 G.1 G.2 := by
    intro k
    obtain ⟨a0, b0, h0⟩ := u_known (C := RX0) (T := TX0) (N := 19) (n := 19) ha wi_X0 (hts _ (by decide +kernel))
    match k with
    | 0 =>
      obtain ⟨a, b, h⟩ := u_known (C := RX0) (T := TX0) (N := 19) (n := 19) ha wi_X0 (hts _ (by decide +kernel))
      exact ⟨(a, b), fun q hq => by cases hq; exact h⟩
    | 1 =>
      obtain ⟨a, b, h⟩ := u_known (C := RX1) (T := TX1) (N := 7) (n := 7) ha wi_X1 (hts _ (by decide +kernel))
      exact ⟨(a, b), fun q hq => by cases hq; exact h⟩
    | 2 =>
      obtain ⟨a, b, h⟩ := u_known (C := RX2) (T := TX2) (N := 2) (n := 2) ha wi_X2 (hts _ (by decide +kernel))
      exact ⟨(a, b), fun q hq => by cases hq; exact h⟩
    | 3 =>
      obtain ⟨a, b, h⟩ := u_known (C := RX3) (T := TX3) (N := 3) (n := 3) ha wi_X3 (hts _ (by decide +kernel))
      exact ⟨(a, b), fun q hq => by cases hq; exact h⟩
    | 4 =>
      obtain ⟨a, b, h⟩ := u_known (C := RX4) (T := TX4) (N := 14) (n := 14) ha wi_X4 (hts _ (by decide +kernel))
      exact ⟨(a, b), fun q hq => by cases hq; exact h⟩
    | 5 =>
      obtain ⟨a, b, h⟩ := u_known (C := RX5) (T := TX5) (N := 18) (n := 18) ha wi_X5 (hts _ (by decide +kernel))
      exact ⟨(a, b), fun q hq => by cases hq; exact h⟩
    | 6 =>
      obtain ⟨a, b, h⟩ := u_known (C := RX6) (T := TX6) (N := 1) (n := 1) ha wi_X6 (hts _ (by decide +kernel))
      exact ⟨(a, b), fun q hq => by cases hq; exact h⟩
    | 7 =>
      obtain ⟨a, b, h⟩ := u_known (C := RX7) (T := TX7) (N := 12) (n := 12) ha wi_X7 (hts _ (by decide +kernel))
      exact ⟨(a, b), fun q hq => by cases hq; exact h⟩
    | 8 =>
      obtain ⟨a, b, h⟩ := u_known (C := RX8) (T := TX8) (N := 2) (n := 2) ha wi_X8 (hts _ (by decide +kernel))
      exact ⟨(a, b), fun q hq => by cases hq; exact h⟩
    | 9 =>
      obtain ⟨a, b, h⟩ := u_known (C := RX9) (T := TX9) (N := 17) (n := 17) ha wi_X9 (hts _ (by decide +kernel))
      exact ⟨(a, b), fun q hq => by cases hq; exact h⟩
    | 10 =>
      obtain ⟨a, b, h⟩ := u_known (C := RX10) (T := TX10) (N := 2) (n := 2) ha wi_X10 (hts _ (by decide +kernel))
      exact ⟨(a, b), fun q hq => by cases hq; exact h⟩
    | 11 =>
      obtain ⟨a, b, h⟩ := u_known (C := RX11) (T := TX11) (N := 14) (n := 14) ha wi_X11 (hts _ (by decide +kernel))
      exact ⟨(a, b), fun q hq => by cases hq; exact h⟩
    | 12 =>
      obtain ⟨a, b, h⟩ := u_known (C := RX12) (T := TX12) (N := 114) (n := 114) ha wi_X12 (hts _ (by decide +kernel))
      exact ⟨(a, b), fun q hq => by cases hq; exact h⟩
    | k + 13 => exact ⟨(a0, b0), fun q hq => by cases hq⟩
  obtain ⟨f, hf⟩ := Classical.axiomOfChoice h
  exact ⟨(fun k => (f k).1, fun k => (f k).2), fun k q hq => hf k q hq⟩
theorem el90_0 {args : Array Value} {s : State} (hgv : (Jvm.Cond.and given_1 narrow_1).before args s = true) : ∀ j : Nat, j < 13 → (Cond.eq (.elem (.field (.string "TurningHall$Scanner" 90) "java/lang/String" "value" "[B") (.int (Int32.ofNat (0 + j)))) (.int (wordsB.getD (0 + j) 0))).before args s = true := by
  intro j hj
  refine flat_of_before _ hgv _ ?_
  revert hj; revert j
  decide +kernel
theorem el90_1 {args : Array Value} {s : State} (hgv : (Jvm.Cond.and given_1 narrow_1).before args s = true) : ∀ j : Nat, j < 13 → (Cond.eq (.elem (.field (.string "TurningHall$Scanner" 90) "java/lang/String" "value" "[B") (.int (Int32.ofNat (13 + j)))) (.int (wordsB.getD (13 + j) 0))).before args s = true := by
  intro j hj
  refine flat_of_before _ hgv _ ?_
  revert hj; revert j
  decide +kernel
theorem el90_2 {args : Array Value} {s : State} (hgv : (Jvm.Cond.and given_1 narrow_1).before args s = true) : ∀ j : Nat, j < 13 → (Cond.eq (.elem (.field (.string "TurningHall$Scanner" 90) "java/lang/String" "value" "[B") (.int (Int32.ofNat (26 + j)))) (.int (wordsB.getD (26 + j) 0))).before args s = true := by
  intro j hj
  refine flat_of_before _ hgv _ ?_
  revert hj; revert j
  decide +kernel
theorem el90_3 {args : Array Value} {s : State} (hgv : (Jvm.Cond.and given_1 narrow_1).before args s = true) : ∀ j : Nat, j < 13 → (Cond.eq (.elem (.field (.string "TurningHall$Scanner" 90) "java/lang/String" "value" "[B") (.int (Int32.ofNat (39 + j)))) (.int (wordsB.getD (39 + j) 0))).before args s = true := by
  intro j hj
  refine flat_of_before _ hgv _ ?_
  revert hj; revert j
  decide +kernel
theorem el90_4 {args : Array Value} {s : State} (hgv : (Jvm.Cond.and given_1 narrow_1).before args s = true) : ∀ j : Nat, j < 13 → (Cond.eq (.elem (.field (.string "TurningHall$Scanner" 90) "java/lang/String" "value" "[B") (.int (Int32.ofNat (52 + j)))) (.int (wordsB.getD (52 + j) 0))).before args s = true := by
  intro j hj
  refine flat_of_before _ hgv _ ?_
  revert hj; revert j
  decide +kernel
theorem el90_5 {args : Array Value} {s : State} (hgv : (Jvm.Cond.and given_1 narrow_1).before args s = true) : ∀ j : Nat, j < 13 → (Cond.eq (.elem (.field (.string "TurningHall$Scanner" 90) "java/lang/String" "value" "[B") (.int (Int32.ofNat (65 + j)))) (.int (wordsB.getD (65 + j) 0))).before args s = true := by
  intro j hj
  refine flat_of_before _ hgv _ ?_
  revert hj; revert j
  decide +kernel
theorem el90_6 {args : Array Value} {s : State} (hgv : (Jvm.Cond.and given_1 narrow_1).before args s = true) : ∀ j : Nat, j < 13 → (Cond.eq (.elem (.field (.string "TurningHall$Scanner" 90) "java/lang/String" "value" "[B") (.int (Int32.ofNat (78 + j)))) (.int (wordsB.getD (78 + j) 0))).before args s = true := by
  intro j hj
  refine flat_of_before _ hgv _ ?_
  revert hj; revert j
  decide +kernel
theorem el90_7 {args : Array Value} {s : State} (hgv : (Jvm.Cond.and given_1 narrow_1).before args s = true) : ∀ j : Nat, j < 13 → (Cond.eq (.elem (.field (.string "TurningHall$Scanner" 90) "java/lang/String" "value" "[B") (.int (Int32.ofNat (91 + j)))) (.int (wordsB.getD (91 + j) 0))).before args s = true := by
  intro j hj
  refine flat_of_before _ hgv _ ?_
  revert hj; revert j
  decide +kernel
theorem el90_8 {args : Array Value} {s : State} (hgv : (Jvm.Cond.and given_1 narrow_1).before args s = true) : ∀ j : Nat, j < 13 → (Cond.eq (.elem (.field (.string "TurningHall$Scanner" 90) "java/lang/String" "value" "[B") (.int (Int32.ofNat (104 + j)))) (.int (wordsB.getD (104 + j) 0))).before args s = true := by
  intro j hj
  refine flat_of_before _ hgv _ ?_
  revert hj; revert j
  decide +kernel
theorem el90_9 {args : Array Value} {s : State} (hgv : (Jvm.Cond.and given_1 narrow_1).before args s = true) : ∀ j : Nat, j < 13 → (Cond.eq (.elem (.field (.string "TurningHall$Scanner" 90) "java/lang/String" "value" "[B") (.int (Int32.ofNat (117 + j)))) (.int (wordsB.getD (117 + j) 0))).before args s = true := by
  intro j hj
  refine flat_of_before _ hgv _ ?_
  revert hj; revert j
  decide +kernel
theorem el90_10 {args : Array Value} {s : State} (hgv : (Jvm.Cond.and given_1 narrow_1).before args s = true) : ∀ j : Nat, j < 13 → (Cond.eq (.elem (.field (.string "TurningHall$Scanner" 90) "java/lang/String" "value" "[B") (.int (Int32.ofNat (130 + j)))) (.int (wordsB.getD (130 + j) 0))).before args s = true := by
  intro j hj
  refine flat_of_before _ hgv _ ?_
  revert hj; revert j
  decide +kernel
theorem el90_11 {args : Array Value} {s : State} (hgv : (Jvm.Cond.and given_1 narrow_1).before args s = true) : ∀ j : Nat, j < 13 → (Cond.eq (.elem (.field (.string "TurningHall$Scanner" 90) "java/lang/String" "value" "[B") (.int (Int32.ofNat (143 + j)))) (.int (wordsB.getD (143 + j) 0))).before args s = true := by
  intro j hj
  refine flat_of_before _ hgv _ ?_
  revert hj; revert j
  decide +kernel
theorem el98 {args : Array Value} {s : State} (hgv : (Jvm.Cond.and given_1 narrow_1).before args s = true) : ∀ j : Nat, j < 17 → (Cond.eq (.elem (.field (.string "TurningHall$Scanner" 98) "java/lang/String" "value" "[B") (.int (Int32.ofNat j))) (.int (signsB.getD j 0))).before args s = true := by
  intro j hj
  refine flat_of_before _ hgv _ ?_
  revert hj; revert j
  decide +kernel
theorem el90 {args : Array Value} {s : State} (hgv : (Jvm.Cond.and given_1 narrow_1).before args s = true) (j : Nat) (hj : j < 156) : (Cond.eq (.elem (.field (.string "TurningHall$Scanner" 90) "java/lang/String" "value" "[B") (.int (Int32.ofNat j))) (.int (wordsB.getD j 0))).before args s = true := by
  rcases Nat.lt_or_ge j 13 with h0 | h0
  · have := el90_0 hgv (j - 0) (by omega)
    rw [show 0 + (j - 0) = j by omega] at this
    exact this
  rcases Nat.lt_or_ge j 26 with h1 | h1
  · have := el90_1 hgv (j - 13) (by omega)
    rw [show 13 + (j - 13) = j by omega] at this
    exact this
  rcases Nat.lt_or_ge j 39 with h2 | h2
  · have := el90_2 hgv (j - 26) (by omega)
    rw [show 26 + (j - 26) = j by omega] at this
    exact this
  rcases Nat.lt_or_ge j 52 with h3 | h3
  · have := el90_3 hgv (j - 39) (by omega)
    rw [show 39 + (j - 39) = j by omega] at this
    exact this
  rcases Nat.lt_or_ge j 65 with h4 | h4
  · have := el90_4 hgv (j - 52) (by omega)
    rw [show 52 + (j - 52) = j by omega] at this
    exact this
  rcases Nat.lt_or_ge j 78 with h5 | h5
  · have := el90_5 hgv (j - 65) (by omega)
    rw [show 65 + (j - 65) = j by omega] at this
    exact this
  rcases Nat.lt_or_ge j 91 with h6 | h6
  · have := el90_6 hgv (j - 78) (by omega)
    rw [show 78 + (j - 78) = j by omega] at this
    exact this
  rcases Nat.lt_or_ge j 104 with h7 | h7
  · have := el90_7 hgv (j - 91) (by omega)
    rw [show 91 + (j - 91) = j by omega] at this
    exact this
  rcases Nat.lt_or_ge j 117 with h8 | h8
  · have := el90_8 hgv (j - 104) (by omega)
    rw [show 104 + (j - 104) = j by omega] at this
    exact this
  rcases Nat.lt_or_ge j 130 with h9 | h9
  · have := el90_9 hgv (j - 117) (by omega)
    rw [show 117 + (j - 117) = j by omega] at this
    exact this
  rcases Nat.lt_or_ge j 143 with h10 | h10
  · have := el90_10 hgv (j - 130) (by omega)
    rw [show 130 + (j - 130) = j by omega] at this
    exact this
  rcases Nat.lt_or_ge j 156 with h11 | h11
  · have := el90_11 hgv (j - 143) (by omega)
    rw [show 143 + (j - 143) = j by omega] at this
    exact this
  omega
theorem entry_k {args : Array Value} {s : State} (hts : ∀ w ∈ lw_tbl, w.before args s = true) (hgv : (Jvm.Cond.and given_1 narrow_1).before args s = true) : ∃ (t : Nat) (adK adV : Nat → Nat), Kc t adK adV (fun q : Nat => s.heap.size ≤ q) s s.heap := by
  have hs := flat_of_before _ hgv
  have hA : ∀ a : Nat, a < s.heap.size → ¬ (fun q : Nat => s.heap.size ≤ q) a := fun a h => Nat.not_le.mpr h
  obtain ⟨t, ht, hT⟩ := va_Tof (tm := .static "TurningHall" "DAYS_AHEAD" "[I") (ty := .int) (N := 12) (f := fun j => .int (daysL.getD j 0)) (A := fun q : Nat => s.heap.size ≤ q) (by decide) (hs _ (by decide +kernel)) (va_eqt (hs _ (by decide +kernel))) (fun j hj => va_eqt (hs _ (by revert hj; revert j; decide +kernel))) hA
  obtain ⟨adK, adV, hS, hE⟩ := vk_Sof (N := 2) (tm := fun i => if i = 0 then .string "TurningHall$Scanner" 90 else .string "TurningHall$Scanner" 98) (len := [156, 17]) (byt := [wordsB, signsB]) (A := fun q : Nat => s.heap.size ≤ q) (by decide) (fun i hi => hs _ (by revert hi; revert i; decide +kernel)) (fun i hi => hs _ (by revert hi; revert i; decide +kernel)) (fun i hi => hs _ (by revert hi; revert i; decide +kernel)) (fun i hi => hs _ (by revert hi; revert i; decide +kernel)) (fun i hi j hj => by
    match i, hi, hj with
    | 0, _, hj => exact el90 hgv j hj
    | 1, _, hj => exact el98 hgv j hj) (fun i j hi hj hij => by
    match i, j, hi, hj, hij with
    | 0, 0, _, _, h => exact absurd rfl h
    | 1, 1, _, _, h => exact absurd rfl h
    | 0, 1, _, _, _ => first | exact Or.inl (hs _ (by decide +kernel)) | exact Or.inr (hs _ (by decide +kernel))
    | 1, 0, _, _, _ => first | exact Or.inl (hs _ (by decide +kernel)) | exact Or.inr (hs _ (by decide +kernel))) hA
  exact ⟨t, adK, adV, va_Zof (hts _ (by decide +kernel)) (hts _ (by decide +kernel)) ht hA, hT, hS, vk_R.of (hts _ (by decide +kernel)) (hE 0 (by decide)), vk_R.of (hts _ (by decide +kernel)) (hE 1 (by decide)), va_Zof (hts _ (by decide +kernel)) (hts _ (by decide +kernel)) (va_eqt (hs _ (by decide +kernel))) hA, va_Zqof (hts _ (by decide +kernel)) (hts _ (by decide +kernel)) (hs _ (by decide +kernel)) hA⟩
theorem entry_hx {args : Array Value} {s : State} (hts : ∀ w ∈ lw_tbl, w.before args s = true) (hgv : (Jvm.Cond.and given_1 narrow_1).before args s = true) : ∃ D : Dx, Hx D [] (fun q : Nat => s.heap.size ≤ q) s s.heap [] [] := by
  obtain ⟨G, hG⟩ := entry_cl hts
  obtain ⟨t, adK, adV, hk⟩ := entry_k hts hgv
  exact ⟨(G, t, adK, adV), ⟨hG, fun k q h => by simp at h⟩, fun k q h => by simp at h, ⟨fun i j p q h => by simp at h, fun k q h => by simp at h⟩, va_S.rf, fun _ h => h, Nx.of hts, hk⟩
