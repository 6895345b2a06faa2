/-! both sides at the beginning -/
theorem wr_start {h8 : Nat} {g2 : Gs} (hT : Tb g2) : WR 0 h8 g0X12 (g0X11 h8) g00 g2 (sD g0X9 15 FP.dconst1) g0X3 g0X10 g0X4 g0X0 (fun _ => none) := by
  refine ⟨0, fun _ => 0, 0, 0, 0, 0, 0, 0, ⟨by omega, rfl, rfl, fun p hp => absurd hp (Nat.not_lt_zero _)⟩, hT, ⟨?_, rfl, ?_, ?_, rfl, rfl, rfl, Nat.le_refl _, ?_, ?_⟩, ?_, by omega, by omega, rfl, rfl, ⟨[], tx_nil rfl rfl⟩, ⟨0, by omega, rfl, rfl, fun i hi => absurd hi (Nat.not_lt_zero _)⟩, rfl⟩
  · intro k hk
    exact (show ∀ k, k < 26 → w26 k = lN (Wl.getD k 0) by decide +kernel) k hk
  · refine ⟨by omega, by omega, rfl, rfl, rfl, rfl, rfl, fun k hk => absurd hk (by omega), fun i hi => absurd hi (Nat.not_lt_zero _), fun b hb => absurd hb (Nat.not_lt_zero _), ⟨by omega, rfl⟩, fun a ha => absurd ha (Nat.not_lt_zero _)⟩
  · exact ⟨fun r hr => absurd hr (by omega), fun i hi => absurd hi (Nat.not_lt_zero _), by omega, rfl, rfl⟩
  · exact fun p _ => Or.inl ⟨rfl, rfl⟩
  · exact fun p _ gk q h => absurd h (by simp)
  · refine ⟨⟨by omega, rfl, ?_, fun a ha => absurd ha (Nat.not_lt_zero _)⟩, fun r _ => ⟨rfl, rfl, rfl⟩, fun b hb => absurd hb (Nat.not_lt_zero _), ⟨rfl, rfl, rfl⟩, fun k _ => ⟨rfl, rfl⟩, rfl, fun a _ _ ha => absurd ha (by omega)⟩
    exact VR.seven.mpr ⟨by decide, false, _, dv_one⟩
