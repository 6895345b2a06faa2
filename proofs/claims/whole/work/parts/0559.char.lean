def cB (v : Int32) : Bool := decide (¬ v < 0 ∧ v ≤ 65535)
theorem cB_n {v : Int32} (h : cB v = true) : narrow .char (.int v) = .int v := by
  have h1 := of_decide_eq_true h
  obtain ⟨j, hj, rfl⟩ := nI_of2 (x := v) (M := 65535) (n := 65535) (by decide) h1.1 h1.2
  exact (pk_charN (by omega)).1
