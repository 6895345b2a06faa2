/-! works of one part -/
/-- what a step comes to on both sides: a value of sort t in row T, or a jam -/
def Out (g gm : Gs) (T K t : Nat) (ref : Option (Int32 × Gs)) (cls : Option Gs) : Prop :=
  (∃ g' gm' : Gs, ref = some (1, g') ∧ cls = some gm' ∧ Fr [0, 1, 2, 92, 93, 95, 96] g g' ∧ Fr [2, 3, 4, 5] gm gm' ∧ gI g' 93 = nI (T + 1) ∧ gI gm' 4 = nI (T + 1) ∧ (∀ j, j < T → gLA g' 92 j = gLA g 92 j) ∧ (∀ j, j < T → gLA gm' 2 j = gLA gm 2 j ∧ gDA gm' 3 j = gDA gm 3 j) ∧ VR t (gLA g' 92 T) (gLA gm' 2 T) (gDA gm' 3 T) ∧ VI t (gLA g' 92 T) ∧ gI gm' 5 = gI gm 5) ∨
  (∃ g' gm' : Gs, ref = some (0, g') ∧ cls = some gm' ∧ Fr [0, 1, 2, 92, 93, 95, 96] g g' ∧ Fr [2, 3, 4, 5] gm gm' ∧ gI gm' 5 ≠ 0 ∧ gI g' 95 = gI gm' 5 ∧ gI g' 96 = gIA g 17 K)
theorem Out2.out {g gm : Gs} {T K t : Nat} {ref : Option (Int32 × Gs)} {cls : Option Gs} (h : Out2 g gm T K t ref cls) : Out g gm T K t ref cls := by
  have fr : ∀ g', Sc (sI g 93 (nI (T + 1))) g' → Fr [0, 1, 2, 92, 93, 95, 96] g g' := fun g' hs => (Fr.sI (by decide) g (nI (T + 1))).trans (hs.fr.mono (by decide))
  rcases h with ⟨r, g', gm', h1, h2, h3, h4, h5, h6, h7, h8, h9⟩ | ⟨kind, g', gm', h0, h1, h2, h3, h4, h5⟩
  · left
    have eL : gLA g' 92 = gLA g 92 := congrFun h2.2.2.2.2.1 92
    have e92 : gLA (sLA g' 92 (vp_updL (gLA g' 92) T r)) 92 T = r := by
      show vp_updL (gLA g' 92) T r T = r
      exact pk_uLs
    refine ⟨_, gm', h1, h3, (fr g' h2).trans (Fr.sLA (by decide) _ _), h9, ?_, h6, ?_, h8, ?_, ?_, h7⟩
    · show gI g' 93 = _
      rw [h2.1 93 (by decide) (by decide)]
      rfl
    · intro j hj
      show vp_updL (gLA g' 92) T r j = _
      rw [pk_uLn (by omega), eL]
    · rw [e92]; exact h4
    · rw [e92]; exact h5
  · right
    refine ⟨_, gm', h1, h3, ((fr g' h2).trans (Fr.sI (by decide) _ _)).trans (Fr.sI (by decide) _ _), h5, ?_, ?_, rfl⟩
    · rw [h4]; exact h0
    · rw [h4]; rfl
/-- the reference's last part of done, by the kind of work -/
theorem done_7 {n : Nat} {g : Gs} {T K : Nat} (hK : K < 8000) (hT : gI g 93 = nI (T + 1)) (hT2 : T + 1 ≤ 400) (h14 : gIA g 14 K = 7) : f_X12_done n g (nI K) = (if (gIA g 16 K) = (7 : Int32) then (b_X12_done_403 n g ((gLA g 92 T) ^^^ (-9223372036854775808 : Int64))) else (if (gIA g 16 K) = (6 : Int32) then (b_X12_done_403 n g ((((gLA g 92 T).toInt32) ^^^ (-2147483648 : Int32)).toInt64)) else (if (4 : Int32) ≤ (gIA g 16 K) then (b_X12_done_294 n g (gIA g 16 K) (-(gLA g 92 T))) else (b_X12_done_294 n g (4 : Int32) (-(gLA g 92 T)))))) := by
  have bK : inB (nI K) 8000 = true := inB_nI hK (by decide)
  have cK : (nI K).toNatClampNeg = K := nI_clamp (by omega)
  have e1 : gI g 93 - (1 : Int32) = nI T := by rw [hT]; exact nI_pred T
  unfold f_X12_done
  rw [grd_t bK, grd_t bK, cK, e1, h14]
  rw [if_neg (by decide), if_neg (by decide), if_neg (by decide), if_neg (by decide), if_neg (by decide), if_neg (by decide), if_pos rfl]
  rw [grd_t (inB_nI (by omega) (by decide)), grd_t bK, grd_t bK, nI_clamp (by omega)]
  rw [if_neg (by decide), if_pos rfl]
theorem done_8 {n : Nat} {g : Gs} {T K : Nat} (hK : K < 8000) (hT : gI g 93 = nI (T + 1)) (hT2 : T + 1 ≤ 400) (h14 : gIA g 14 K = 8) : f_X12_done n g (nI K) = b_X12_done_403 n g ((1 : Int64) - (gLA g 92 T)) := by
  have bK : inB (nI K) 8000 = true := inB_nI hK (by decide)
  have cK : (nI K).toNatClampNeg = K := nI_clamp (by omega)
  have e1 : gI g 93 - (1 : Int32) = nI T := by rw [hT]; exact nI_pred T
  unfold f_X12_done
  rw [grd_t bK, grd_t bK, cK, e1, h14]
  rw [if_neg (by decide), if_neg (by decide), if_neg (by decide), if_neg (by decide), if_neg (by decide), if_neg (by decide), if_neg (by decide), if_pos rfl]
  rw [grd_t (inB_nI (by omega) (by decide)), grd_t bK, grd_t bK, nI_clamp (by omega)]
  rw [if_neg (by decide), if_neg (by decide), if_pos rfl]
theorem done_9 {n : Nat} {g : Gs} {T K : Nat} (hK : K < 8000) (hT : gI g 93 = nI (T + 1)) (hT2 : T + 1 ≤ 400) (h14 : gIA g 14 K = 9) : f_X12_done n g (nI K) = bnd (f_X12_become n g (gLA g 92 T) (gIA g 16 K) (gIA g 15 K)) (fun q => if (gIA g 15 K) = (6 : Int32) then (if (gIA g 16 K) = (7 : Int32) then (if q.1 = (9223372036854775807 : Int64) then (some (0, sI (sI q.2 95 3) 96 (gIA q.2 17 K))) else (b_X12_done_403 n q.2 q.1)) else (b_X12_done_403 n q.2 q.1)) else (b_X12_done_403 n q.2 q.1)) := by
  have bK : inB (nI K) 8000 = true := inB_nI hK (by decide)
  have cK : (nI K).toNatClampNeg = K := nI_clamp (by omega)
  have e1 : gI g 93 - (1 : Int32) = nI T := by rw [hT]; exact nI_pred T
  unfold f_X12_done
  rw [grd_t bK, grd_t bK, cK, e1, h14]
  rw [if_neg (by decide), if_neg (by decide), if_neg (by decide), if_neg (by decide), if_neg (by decide), if_neg (by decide), if_neg (by decide), if_neg (by decide), if_pos rfl]
  rw [grd_t (inB_nI (by omega) (by decide)), grd_t bK, grd_t bK, nI_clamp (by omega)]
  rw [if_neg (by decide), if_neg (by decide), if_neg (by decide), if_pos rfl]
  rw [bK]
  rfl
theorem done_10 {n : Nat} {g : Gs} {T K : Nat} (hK : K < 8000) (hT : gI g 93 = nI (T + 1)) (hT2 : T + 1 ≤ 400) (h14 : gIA g 14 K = 10) : f_X12_done n g (nI K) = bnd (f_X12_become n g (gLA g 92 T) (gIA g 16 K) (7 : Int32)) (fun q => if (gIA g 15 K) = (212 : Int32) then (b_X12_done_403 n q.2 (q.1 &&& (9223372036854775807 : Int64))) else (bnd (f_X12_evened n q.2 q.1 ((gIA g 15 K) - (209 : Int32))) (fun q => b_X12_done_403 n q.2 q.1))) := by
  have bK : inB (nI K) 8000 = true := inB_nI hK (by decide)
  have cK : (nI K).toNatClampNeg = K := nI_clamp (by omega)
  have e1 : gI g 93 - (1 : Int32) = nI T := by rw [hT]; exact nI_pred T
  unfold f_X12_done
  rw [grd_t bK, grd_t bK, cK, e1, h14]
  rw [if_neg (by decide), if_neg (by decide), if_neg (by decide), if_neg (by decide), if_neg (by decide), if_neg (by decide), if_neg (by decide), if_neg (by decide), if_neg (by decide), if_pos rfl]
  rw [grd_t (inB_nI (by omega) (by decide)), grd_t bK, grd_t bK, nI_clamp (by omega)]
  rw [if_neg (by decide), if_neg (by decide), if_neg (by decide), if_neg (by decide), if_pos rfl]
  rfl
theorem done_19 {n : Nat} {g : Gs} {T K l r : Nat} (hK : K < 8000) (hT : gI g 93 = nI (T + 1)) (hT2 : T + 1 ≤ 400) (h14 : gIA g 14 K = 19) (h16 : gIA g 16 K = nI (8 * l + r)) (hl : l ≤ 7) (hr : r ≤ 7) : f_X12_done n g (nI K) = bnd (f_X12_become n g (gLA g 92 T) (nI l) (nI r)) (fun q => b_X12_done_403 n q.2 q.1) := by
  have bK : inB (nI K) 8000 = true := inB_nI hK (by decide)
  have cK : (nI K).toNatClampNeg = K := nI_clamp (by omega)
  have e1 : gI g 93 - (1 : Int32) = nI T := by rw [hT]; exact nI_pred T
  have e3 : nI (8 * l + r) >>> ((3 : Int32) &&& 31) = nI l := by
    rw [pk_shrN (by omega) _ 3 (by decide)]
    congr 1; omega
  have e4 : nI (8 * l + r) &&& (7 : Int32) = nI r := by
    rw [pk_andN (by omega) 3 (by decide)]
    congr 1; omega
  unfold f_X12_done
  rw [grd_t bK, grd_t bK, cK, e1, h14]
  rw [if_neg (by decide), if_neg (by decide), if_neg (by decide), if_neg (by decide), if_neg (by decide), if_neg (by decide), if_neg (by decide), if_neg (by decide), if_neg (by decide), if_neg (by decide), if_neg (by decide), if_neg (by decide)]
  rw [grd_t (inB_nI (by omega) (by decide)), grd_t bK, grd_t bK, nI_clamp (by omega)]
  rw [if_neg (by decide), if_neg (by decide), if_neg (by decide), if_neg (by decide), if_neg (by decide), h16, e3, e4]
theorem done_6 {n : Nat} {g : Gs} {T K A : Nat} (hK : K < 8000) (hT : gI g 93 = nI (T + 1)) (hT2 : T + 1 ≤ 400) (h14 : gIA g 14 K = 6) (h15 : gIA g 15 K = nI A) (hA : A < 8) : f_X12_done n g (nI K) = if gLA g 92 T < (0 : Int64) then some (0, sI (sI g 95 4) 96 (gIA g 17 K)) else (if (gLA g 92 T) < ((gIA g 78 A).toInt64) then (grd (inB (((24 : Int32) * nI A) + ((gLA g 92 T).toInt32)) 192) (b_X12_done_403 n g (gLA g 79 (((24 : Int32) * nI A) + ((gLA g 92 T).toInt32)).toNatClampNeg))) else some (0, sI (sI g 95 4) 96 (gIA g 17 K))) := by
  have bK : inB (nI K) 8000 = true := inB_nI hK (by decide)
  have cK : (nI K).toNatClampNeg = K := nI_clamp (by omega)
  have e1 : gI g 93 - (1 : Int32) = nI T := by rw [hT]; exact nI_pred T
  have e218 : b_X12_done_218 n g (nI K) = some (0, sI (sI g 95 4) 96 (gIA g 17 K)) := by
    unfold b_X12_done_218
    rw [grd_t bK, cK]
    rfl
  unfold f_X12_done
  rw [grd_t bK, grd_t bK, cK, e1, h14]
  rw [if_neg (by decide), if_neg (by decide), if_neg (by decide), if_neg (by decide), if_neg (by decide), if_pos rfl]
  rw [grd_t (inB_nI (by omega) (by decide)), grd_t bK, grd_t bK, nI_clamp (by omega)]
  rw [if_pos rfl, e218, h15, grd_t (inB_nI (by omega) (by decide)), nI_clamp (n := A) (by omega)]
theorem xor31 {t : Nat} (ht : t < 2 ^ 31) : t ^^^ 2 ^ 31 = t + 2 ^ 31 ∧ (t + 2 ^ 31) ^^^ 2 ^ 31 = t ∧ t ||| 2 ^ 31 = t + 2 ^ 31 := by
  have m : ∀ a, (a ^^^ 2 ^ 31) % 2 ^ 31 = a % 2 ^ 31 := fun a => by rw [Nat.xor_mod_two_pow, Nat.mod_self, Nat.xor_zero]
  have d : ∀ a, (a ^^^ 2 ^ 31) / 2 ^ 31 = (a / 2 ^ 31) ^^^ 1 := fun a => by rw [Nat.xor_div_two_pow]
  have d0 : t / 2 ^ 31 = 0 := by omega
  have d1 : (t + 2 ^ 31) / 2 ^ 31 = 1 := by omega
  have a1 := m t
  have a2 := m (t + 2 ^ 31)
  have b1 := d t
  have b2 := d (t + 2 ^ 31)
  rw [d0, show (0 ^^^ 1 : Nat) = 1 by decide] at b1
  rw [d1, show (1 ^^^ 1 : Nat) = 0 by decide] at b2
  have o := Nat.two_pow_add_eq_or_of_lt ht 1
  rw [Nat.mul_one, Nat.or_comm] at o
  exact ⟨by omega, by omega, by omega⟩
/-- a FLOAT with the other sign -/
theorem fl_neg {x : Int64} {s : Bool} {u : Nat} (h : Fl x s u) : Fl ((x.toInt32 ^^^ (-2147483648 : Int32)).toInt64) (!s) u := by
  obtain ⟨c, k, h1, h2, h3, h4, h5⟩ := h
  refine ⟨c, k, h1, h2, h3, h4, ?_⟩
  have ht : k * 2 ^ 23 + c < 2 ^ 31 := by omega
  generalize k * 2 ^ 23 + c = t at *
  obtain ⟨x1, x2, x3⟩ := xor31 ht
  obtain ⟨e1, e2⟩ := sign32 ht
  have eb : (x.toInt32 ^^^ (-2147483648 : Int32)).toBitVec.toNat = (uL x % 2 ^ 32) ^^^ 2 ^ 31 := by
    show (x.toInt32.toBitVec ^^^ (-2147483648 : Int32).toBitVec).toNat = _
    rw [BitVec.toNat_xor, toI32_nat]; rfl
  have el : ∀ b : Int64, (lN t ||| b).toInt32.toBitVec.toNat = (t ||| uL b) % 2 ^ 32 := by
    intro b
    rw [toI32_nat, uL_or, uL_lN (by omega)]
  cases s with
  | false =>
    rw [if_neg (by decide), Nat.zero_add] at h5
    have : x.toInt32 ^^^ (-2147483648 : Int32) = (lN t ||| (2147483648 : Int64)).toInt32 := by
      apply Int32.toBitVec_inj.mp
      apply BitVec.eq_of_toNat_eq
      rw [eb, el, h5, Nat.mod_eq_of_lt (by omega), x1, show uL (2147483648 : Int64) = 2 ^ 31 by decide, x3, Nat.mod_eq_of_lt (by omega)]
    rw [this, e2, uL_lN (by omega)]
    rfl
  | true =>
    rw [if_pos rfl] at h5
    have : x.toInt32 ^^^ (-2147483648 : Int32) = (lN t ||| (0 : Int64)).toInt32 := by
      apply Int32.toBitVec_inj.mp
      apply BitVec.eq_of_toNat_eq
      rw [eb, el, h5, show (18446744071562067968 + t) % 2 ^ 32 = t + 2 ^ 31 by omega, x2, show uL (0 : Int64) = 0 by decide, Nat.or_zero, Nat.mod_eq_of_lt (by omega)]
    rw [this, e1, uL_lN (by omega)]
    exact (Nat.zero_add t).symm
