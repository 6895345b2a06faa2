/-! the reference's train: four wheels in order -/
def cd4 (n m x y : Nat) : Nat := 1000 * (1000 * (1000 * n + m) + x) + y
def S4 (lo hi la c : Nat) : Prop := (lo ≤ c / 1000 / 1000 / 1000 ∧ c / 1000 / 1000 / 1000 ≤ hi) ∧ (lo ≤ c / 1000 / 1000 % 1000 ∧ c / 1000 / 1000 % 1000 ≤ hi) ∧ (lo ≤ c / 1000 % 1000 ∧ c / 1000 % 1000 ≤ la) ∧ lo ≤ c % 1000 ∧ c % 1000 ≤ la
def F4v (s G n m x y : Nat) : Nat := if s = 2 then Dd (Pv (Qv n m) (Qv x y)) G else Dd (Qv n m) G
def F4 (s G c : Nat) : Nat := F4v s G (c / 1000 / 1000 / 1000) (c / 1000 / 1000 % 1000) (c / 1000 % 1000) (c % 1000)
def PW4 (s : Nat) (g : Gs) (b : Nat) : Prop := gIA g 102 0 = nI (b / 1000 / 1000 / 1000) ∧ gIA g 102 1 = nI (b / 1000 / 1000 % 1000) ∧ gIA g 102 2 = (if s = 2 then nI (b / 1000 % 1000) else 0) ∧ gIA g 102 3 = (if s = 2 then nI (b % 1000) else 0)
theorem cd4_y {n m x y : Nat} (hy : y < 1000) : cd4 n m x y % 1000 = y := by unfold cd4; omega
theorem cd4_x {n m x y : Nat} (hy : y < 1000) (hx : x < 1000) : cd4 n m x y / 1000 % 1000 = x := by unfold cd4; omega
theorem cd4_m {n m x y : Nat} (hy : y < 1000) (hx : x < 1000) (hm : m < 1000) : cd4 n m x y / 1000 / 1000 % 1000 = m := by unfold cd4; omega
theorem cd4_n {n m x y : Nat} (hy : y < 1000) (hx : x < 1000) (hm : m < 1000) : cd4 n m x y / 1000 / 1000 / 1000 = n := by unfold cd4; omega
theorem ref_far {w goal : UInt64} {v G : Nat} (hw : Dv w false v) (hG : Dv goal false G) : (0 ≤ (Op.cmpValue (FP.dcmp w goal) .g) ∧ Dv (FP.dsub w goal) false (Dd v G)) ∨ (¬ 0 ≤ (Op.cmpValue (FP.dcmp w goal) .g) ∧ Dv (FP.dsub goal w) false (Dd v G)) := by
  by_cases c : v < G
  · right
    refine ⟨by rw [cv_ge hw.dz hG.dz, sg_f, sg_f]; omega, ?_⟩
    unfold Dd
    rw [if_pos c]
    exact dv_of_rr (val_diff hG hw c).1 (rr_diff_lt hG).2
  · left
    refine ⟨by rw [cv_ge hw.dz hG.dz, sg_f, sg_f]; omega, ?_⟩
    unfold Dd
    rw [if_neg c]
    by_cases c2 : G < v
    · exact dv_of_rr (val_diff hw hG c2).1 (rr_diff_lt hw).2
    · have e : v = G := by omega
      subst e
      have e2 := hw.inj hG
      subst e2
      rw [Nat.sub_self, rr_zero]
      have hs : FP.dsub w w = FP.dconst0 := by
        obtain ⟨c, q, h1, -⟩ := hw
        exact Jvm.FP.Core.dsub_self h1
      rw [hs]
      exact dv_zero
theorem tr_take {N f n m x y s lo hi la : Nat} {g : Gs} {v6 v13 far : UInt64} (hs : s = 1 ∨ s = 2) (hn : n < 1000) (hm : m < 1000) (hx : x < 1000) (hy : y < 1000) : ∃ g1 : Gs, b_X12_train_223 N (L_X12_train N f) g (nI s) (nI lo) (nI hi) v6 (nI la) (nI n) (nI m) v13 (nI x) (nI y) far = (L_X12_train N f).2.2.2.2 g1 (nI s) (nI lo) (nI hi) v6 far (nI la) (nI n) (nI m) v13 (nI x) (nI (y + 1)) ∧ PW4 s g1 (cd4 n m x y) ∧ Fr [102] g g1 := by
  have k0 : (0 : Int32).toNatClampNeg = 0 := by decide
  have k1 : (1 : Int32).toNatClampNeg = 1 := by decide
  have k2 : (2 : Int32).toNatClampNeg = 2 := by decide
  have k3 : (3 : Int32).toNatClampNeg = 3 := by decide
  have b0 : inB (0 : Int32) 4 = true := by decide
  have b1 : inB (1 : Int32) 4 = true := by decide
  have b2 : inB (2 : Int32) 4 = true := by decide
  have b3 : inB (3 : Int32) 4 = true := by decide
  unfold b_X12_train_223 b_X12_train_259 b_X12_train_276 b_X12_train_277 PW4
  rw [cd4_y hy, cd4_x hy hx, cd4_m hy hx hm, cd4_n hy hx hm]
  rcases hs with rfl | rfl
  · have c : ¬ nI 1 = (2 : Int32) := by decide
    simp only [b0, b1, b2, b3, k0, k1, k2, k3, nI_1, if_neg c]
    refine ⟨_, rfl, ⟨rfl, rfl, rfl, rfl⟩, ?_⟩
    exact (((Fr.sIA (by decide) _ _).trans (Fr.sIA (by decide) _ _)).trans (Fr.sIA (by decide) _ _)).trans (Fr.sIA (by decide) _ _)
  · have c : nI 2 = (2 : Int32) := rfl
    simp only [b0, b1, b2, b3, k0, k1, k2, k3, nI_1, if_pos c]
    refine ⟨_, rfl, ⟨rfl, rfl, rfl, rfl⟩, ?_⟩
    exact (((Fr.sIA (by decide) _ _).trans (Fr.sIA (by decide) _ _)).trans (Fr.sIA (by decide) _ _)).trans (Fr.sIA (by decide) _ _)
theorem tr_y {N s lo hi la G n m x : Nat} {v6 v13 : UInt64} (hs : s = 1 ∨ s = 2) (hlo : 4 ≤ lo) (hhi : hi ≤ 200) (hla : la ≤ 200) (d6 : Dv v6 false G) (hn : lo ≤ n ∧ n ≤ hi) (hm : lo ≤ m ∧ m ≤ hi) (hx : lo ≤ x ∧ x ≤ la) (d13 : Dv v13 false (Qv n m)) : ∀ (d f y : Nat) (g : Gs) (v8 : UInt64), y + d = la + 1 → d < f → lo ≤ y → BS (S4 lo hi la) (F4 s G) (cd4 n m x y) v8 (PW4 s g) → ∃ (g' : Gs) (v8' : UInt64) (f' : Nat), f ≤ f' + d + 1 ∧ (L_X12_train N f).2.2.2.2 g (nI s) (nI lo) (nI hi) v6 v8 (nI la) (nI n) (nI m) v13 (nI x) (nI y) = (L_X12_train N f').2.2.2.1 g' (nI s) (nI lo) (nI hi) v6 v8' (nI la) (nI n) (nI m) v13 (nI (x + 1)) ∧ BS (S4 lo hi la) (F4 s G) (cd4 n m x (la + 1)) v8' (PW4 s g') ∧ Fr [102] g g'
  | _, 0, _, _, _, _, h, _, _ => absurd h (Nat.not_lt_zero _)
  | 0, f + 1, y, g, v8, hy, _, _, hB => by
    refine ⟨g, v8, f, by omega, ?_, ?_, Fr.refl _ _⟩
    · show h_X12_train_153 N (L_X12_train N f) g (nI s) (nI lo) (nI hi) v6 v8 (nI la) (nI n) (nI m) v13 (nI x) (nI y) = _
      unfold h_X12_train_153
      rw [if_pos (nI_lt (by omega) (by omega)), nI_1]
    · rw [show la + 1 = y by omega]; exact hB
  | d + 1, f + 1, y, g, v8, hy, hf, hyl, hB => by
    have ey : cd4 n m x y % 1000 = y := cd4_y (by omega)
    have ex : cd4 n m x y / 1000 % 1000 = x := cd4_x (by omega) (by omega)
    have em : cd4 n m x y / 1000 / 1000 % 1000 = m := cd4_m (by omega) (by omega) (by omega)
    have en : cd4 n m x y / 1000 / 1000 / 1000 = n := cd4_n (by omega) (by omega) (by omega)
    have hS : S4 lo hi la (cd4 n m x y) := by
      unfold S4
      rw [ey, ex, em, en]; omega
    have hF : F4 s G (cd4 n m x y) = F4v s G n m x y := by
      unfold F4
      rw [ey, ex, em, en]
    -- the value, and how far it is
    have val : ∃ far, (L_X12_train N (f + 1)).2.2.2.2 g (nI s) (nI lo) (nI hi) v6 v8 (nI la) (nI n) (nI m) v13 (nI x) (nI y) = b_X12_train_203 N (L_X12_train N f) g (nI s) (nI lo) (nI hi) v6 v8 (nI la) (nI n) (nI m) v13 (nI x) (nI y) far ∧ Dv far false (F4v s G n m x y) := by
      have b180 : ∀ (w : UInt64) (v : Nat), Dv w false v → ∃ far, b_X12_train_180 N (L_X12_train N f) g (nI s) (nI lo) (nI hi) v6 v8 (nI la) (nI n) (nI m) v13 (nI x) (nI y) w = b_X12_train_203 N (L_X12_train N f) g (nI s) (nI lo) (nI hi) v6 v8 (nI la) (nI n) (nI m) v13 (nI x) (nI y) far ∧ Dv far false (Dd v G) := by
        intro w v hw
        unfold b_X12_train_180
        rcases ref_far hw d6 with ⟨c, hd⟩ | ⟨c, hd⟩
        · rw [if_pos c, grd_t hd.n64]; exact ⟨_, rfl, hd⟩
        · rw [if_neg c, grd_t hd.n64]; exact ⟨_, rfl, hd⟩
      have top : (L_X12_train N (f + 1)).2.2.2.2 g (nI s) (nI lo) (nI hi) v6 v8 (nI la) (nI n) (nI m) v13 (nI x) (nI y) = (if (nI s) = (2 : Int32) then (grd (n64 (FP.ddiv (FP.i2d (nI x)) (FP.i2d (nI y)))) (grd (n64 (FP.dmul v13 (FP.ddiv (FP.i2d (nI x)) (FP.i2d (nI y))))) (b_X12_train_180 N (L_X12_train N f) g (nI s) (nI lo) (nI hi) v6 v8 (nI la) (nI n) (nI m) v13 (nI x) (nI y) (FP.dmul v13 (FP.ddiv (FP.i2d (nI x)) (FP.i2d (nI y))))))) else (b_X12_train_180 N (L_X12_train N f) g (nI s) (nI lo) (nI hi) v6 v8 (nI la) (nI n) (nI m) v13 (nI x) (nI y) v13)) := by
        show h_X12_train_153 N (L_X12_train N f) g (nI s) (nI lo) (nI hi) v6 v8 (nI la) (nI n) (nI m) v13 (nI x) (nI y) = _
        unfold h_X12_train_153
        rw [if_neg (nI_nlt (by omega) (by omega))]
      rw [top]
      unfold F4v
      rcases hs with rfl | rfl
      · rw [if_neg (show ¬ nI 1 = (2 : Int32) by decide), if_neg (show ¬ (1 : Nat) = 2 by decide)]
        exact b180 _ _ d13
      · have dq := dv_quot (n := x) (m := y) (by omega) (by omega) (by omega)
        have dp := dv_prod d13 dq (qv_le (by omega) (by omega)) (qv_le (by omega) (by omega))
        rw [if_pos (show nI 2 = (2 : Int32) from rfl), if_pos (show (2 : Nat) = 2 from rfl), grd_t dq.n64, grd_t dp.n64]
        exact b180 _ _ dp
    obtain ⟨far, r1, r2⟩ := val
    rw [← hF] at r2
    rw [r1]
    unfold b_X12_train_203
    have succ : cd4 n m x y + 1 = cd4 n m x (y + 1) := by unfold cd4; omega
    have hmore := hB.more hS r2
    rw [succ] at hmore
    rcases hmore with ⟨hd, hP⟩ | ⟨⟨k1, k2, k3⟩, hP⟩
    · obtain ⟨g1, t1, t2, t3⟩ := tr_take (N := N) (f := f) (n := n) (m := m) (x := x) (y := y) (s := s) (lo := lo) (hi := hi) (la := la) (g := g) (v6 := v6) (v13 := v13) (far := far) hs (by omega) (by omega) (by omega) (by omega)
      have hsel : (if (Op.cmpValue (FP.dcmp v8 FP.dconst0) .l) < 0 then (b_X12_train_223 N (L_X12_train N f) g (nI s) (nI lo) (nI hi) v6 (nI la) (nI n) (nI m) v13 (nI x) (nI y) far) else (if (Op.cmpValue (FP.dcmp far v8) .l) < 0 then (b_X12_train_223 N (L_X12_train N f) g (nI s) (nI lo) (nI hi) v6 (nI la) (nI n) (nI m) v13 (nI x) (nI y) far) else (b_X12_train_277 N (L_X12_train N f) g (nI s) (nI lo) (nI hi) v6 v8 (nI la) (nI n) (nI m) v13 (nI x) (nI y)))) = b_X12_train_223 N (L_X12_train N f) g (nI s) (nI lo) (nI hi) v6 (nI la) (nI n) (nI m) v13 (nI x) (nI y) far := by
        rcases hd with hd | ⟨e1, -, e3⟩
        · rw [if_pos (hd _)]
        · rw [if_neg (e1 _), if_pos (e3 _)]
      rw [hsel, t1]
      obtain ⟨g2, x2, f2, u1, u2, u3, u4⟩ := tr_y (N := N) hs hlo hhi hla d6 hn hm hx d13 d f (y + 1) g1 far (by omega) (by omega) (by omega) (hP _ t2)
      exact ⟨g2, x2, f2, by omega, u2, u3, t3.trans u4⟩
    · rw [if_neg (k1 _), if_neg (k3 _)]
      unfold b_X12_train_277
      rw [nI_1]
      obtain ⟨g2, x2, f2, u1, u2, u3, u4⟩ := tr_y (N := N) hs hlo hhi hla d6 hn hm hx d13 d f (y + 1) g v8 (by omega) (by omega) (by omega) hP
      exact ⟨g2, x2, f2, by omega, u2, u3, u4⟩
theorem tr_x {N s lo hi la G n m : Nat} {v6 v13 : UInt64} (hs : s = 1 ∨ s = 2) (hlo : 4 ≤ lo) (hhi : hi ≤ 200) (hla : la ≤ 200) (hll : lo ≤ la) (hgap : la - lo ≤ 30) (d6 : Dv v6 false G) (hn : lo ≤ n ∧ n ≤ hi) (hm : lo ≤ m ∧ m ≤ hi) (d13 : Dv v13 false (Qv n m)) : ∀ (d f x : Nat) (g : Gs) (v8 : UInt64), x + d = la + 1 → d * 40 < f → lo ≤ x → BS (S4 lo hi la) (F4 s G) (cd4 n m x lo) v8 (PW4 s g) → ∃ (g' : Gs) (v8' : UInt64) (f' : Nat), f ≤ f' + d * 33 + 1 ∧ (L_X12_train N f).2.2.2.1 g (nI s) (nI lo) (nI hi) v6 v8 (nI la) (nI n) (nI m) v13 (nI x) = (L_X12_train N f').2.2.1 g' (nI s) (nI lo) (nI hi) v6 v8' (nI la) (nI n) (nI (m + 1)) ∧ BS (S4 lo hi la) (F4 s G) (cd4 n m (la + 1) lo) v8' (PW4 s g') ∧ Fr [102] g g'
  | _, 0, _, _, _, _, h, _, _ => absurd h (Nat.not_lt_zero _)
  | 0, f + 1, x, g, v8, hx, _, _, hB => by
    refine ⟨g, v8, f, by omega, ?_, ?_, Fr.refl _ _⟩
    · show h_X12_train_142 N (L_X12_train N f) g (nI s) (nI lo) (nI hi) v6 v8 (nI la) (nI n) (nI m) v13 (nI x) = _
      unfold h_X12_train_142
      rw [if_pos (nI_lt (by omega) (by omega)), nI_1]
    · rw [show la + 1 = x by omega]; exact hB
  | d + 1, f + 1, x, g, v8, hx, hf, hxl, hB => by
    have e1 : (L_X12_train N (f + 1)).2.2.2.1 g (nI s) (nI lo) (nI hi) v6 v8 (nI la) (nI n) (nI m) v13 (nI x) = (L_X12_train N f).2.2.2.2 g (nI s) (nI lo) (nI hi) v6 v8 (nI la) (nI n) (nI m) v13 (nI x) (nI lo) := by
      show h_X12_train_142 N (L_X12_train N f) g (nI s) (nI lo) (nI hi) v6 v8 (nI la) (nI n) (nI m) v13 (nI x) = _
      unfold h_X12_train_142
      rw [if_neg (nI_nlt (by omega) (by omega))]
    obtain ⟨g1, x1, f1, u1, u2, u3, u4⟩ := tr_y (N := N) (x := x) hs hlo hhi hla d6 hn hm ⟨hxl, by omega⟩ d13 (la + 1 - lo) f lo g v8 (by omega) (by omega) (Nat.le_refl _) hB
    have sk : BS (S4 lo hi la) (F4 s G) (cd4 n m (x + 1) lo) x1 (PW4 s g1) := by
      refine u3.skip (by unfold cd4; omega) (fun c' h h1 h2 => ?_)
      unfold S4 at h
      unfold cd4 at h1 h2
      omega
    obtain ⟨g2, x2, f2, w1, w2, w3, w4⟩ := tr_x (N := N) hs hlo hhi hla hll hgap d6 hn hm d13 d f1 (x + 1) g1 x1 (by omega) (by omega) (by omega) sk
    exact ⟨g2, x2, f2, by omega, by rw [e1, u2, w2], w3, u4.trans w4⟩
/-! how much they cost -/
theorem lin_succ (K d : Nat) : (d + 1) * K + 1 = d * K + 1 + K := by
  rw [Nat.succ_mul, Nat.add_right_comm]
theorem gap_down {lo A B c : Nat} (h1 : 1000 * A + lo ≤ c) (h2 : c < 1000 * B + lo) (hr : lo ≤ c % 1000) : A ≤ c / 1000 ∧ c / 1000 < B := by omega
def cm (d : Nat) : Nat := d * 1025 + 1
theorem cm_succ (d : Nat) : cm (d + 1) = cm d + 1025 := by
  unfold cm
  exact lin_succ 1025 d
theorem cm_le {d : Nat} (h : d ≤ 31) : cm d ≤ 31776 := Nat.succ_le_succ (Nat.mul_le_mul_right 1025 h)
theorem cm_pos (d : Nat) : 1 ≤ cm d := Nat.succ_le_succ (Nat.zero_le _)
def cn (d : Nat) : Nat := d * 31777 + 1
theorem cn_succ (d : Nat) : cn (d + 1) = cn d + 31777 := by
  unfold cn
  exact lin_succ 31777 d
theorem cn_le {d : Nat} (h : d ≤ 31) : cn d ≤ 985088 := Nat.succ_le_succ (Nat.mul_le_mul_right 31777 h)
theorem cn_pos (d : Nat) : 1 ≤ cn d := Nat.succ_le_succ (Nat.zero_le _)
theorem tr_m {N s lo hi la G n : Nat} {v6 : UInt64} (hs : s = 1 ∨ s = 2) (hlo : 4 ≤ lo) (hhi : hi ≤ 200) (hla : la ≤ 200) (hll : lo ≤ la) (hgap : la - lo ≤ 30) (hlh : lo ≤ hi) (d6 : Dv v6 false G) (hn : lo ≤ n ∧ n ≤ hi) : ∀ (d f m : Nat) (g : Gs) (v8 : UInt64), m + d = hi + 1 → cm d + 300 < f → lo ≤ m → BS (S4 lo hi la) (F4 s G) (cd4 n m lo lo) v8 (PW4 s g) → ∃ (g' : Gs) (v8' : UInt64) (f' : Nat), f ≤ f' + cm d ∧ (L_X12_train N f).2.2.1 g (nI s) (nI lo) (nI hi) v6 v8 (nI la) (nI n) (nI m) = (L_X12_train N f').2.1 g' (nI s) (nI lo) (nI hi) v6 v8' (nI la) (nI (n + 1)) ∧ BS (S4 lo hi la) (F4 s G) (cd4 n (hi + 1) lo lo) v8' (PW4 s g') ∧ Fr [102] g g' := by
  intro d
  induction d with
  | zero =>
    intro f m g v8 hm hf _ hB
    obtain ⟨f, rfl⟩ : ∃ k, f = k + 1 := ⟨f - 1, by omega⟩
    have cp := cm_pos 0
    refine ⟨g, v8, f, by omega, ?_, ?_, Fr.refl _ _⟩
    · show h_X12_train_122 N (L_X12_train N f) g (nI s) (nI lo) (nI hi) v6 v8 (nI la) (nI n) (nI m) = _
      unfold h_X12_train_122
      rw [if_pos (nI_lt (by omega) (by omega)), nI_1]
    · rw [show hi + 1 = m by omega]; exact hB
  | succ d ih =>
    intro f m g v8 hm hf hml hB
    obtain ⟨f, rfl⟩ : ∃ k, f = k + 1 := ⟨f - 1, by omega⟩
    have cs := cm_succ d
    have cp := cm_pos d
    have dq := dv_quot (n := n) (m := m) (by omega) (by omega) (by omega)
    have e1 : (L_X12_train N (f + 1)).2.2.1 g (nI s) (nI lo) (nI hi) v6 v8 (nI la) (nI n) (nI m) = (L_X12_train N f).2.2.2.1 g (nI s) (nI lo) (nI hi) v6 v8 (nI la) (nI n) (nI m) (FP.ddiv (FP.i2d (nI n)) (FP.i2d (nI m))) (nI lo) := by
      show h_X12_train_122 N (L_X12_train N f) g (nI s) (nI lo) (nI hi) v6 v8 (nI la) (nI n) (nI m) = _
      unfold h_X12_train_122
      rw [if_neg (nI_nlt (by omega) (by omega)), grd_t dq.n64]
    obtain ⟨g1, x1, f1, u1, u2, u3, u4⟩ := tr_x (N := N) (m := m) hs hlo hhi hla hll hgap d6 hn ⟨hml, by omega⟩ dq (la + 1 - lo) f lo g v8 (by omega) (by omega) (Nat.le_refl _) hB
    have sk : BS (S4 lo hi la) (F4 s G) (cd4 n (m + 1) lo lo) x1 (PW4 s g1) := by
      refine u3.skip (by unfold cd4; omega) (fun c' h h1 h2 => ?_)
      unfold S4 at h
      unfold cd4 at h1 h2
      omega
    obtain ⟨g2, x2, f2, w1, w2, w3, w4⟩ := ih f1 (m + 1) g1 x1 (by omega) (by omega) (by omega) sk
    exact ⟨g2, x2, f2, by omega, by rw [e1, u2, w2], w3, u4.trans w4⟩
theorem tr_n {N s lo hi la G : Nat} {v6 : UInt64} (hs : s = 1 ∨ s = 2) (hlo : 4 ≤ lo) (hhi : hi ≤ 200) (hla : la ≤ 200) (hll : lo ≤ la) (hgap : la - lo ≤ 30) (hlh : lo ≤ hi) (hgap2 : hi - lo ≤ 30) (d6 : Dv v6 false G) : ∀ (d f n : Nat) (g : Gs) (v8 : UInt64), n + d = hi + 1 → cn d + 400 < f → lo ≤ n → BS (S4 lo hi la) (F4 s G) (cd4 n lo lo lo) v8 (PW4 s g) → ∃ (g' : Gs) (v8' : UInt64) (w b : Nat), (L_X12_train N f).2.1 g (nI s) (nI lo) (nI hi) v6 v8 (nI la) (nI n) = some (v8'.toInt64, g') ∧ Dv v8' false w ∧ FA (S4 lo hi la) (F4 s G) (cd4 (hi + 1) lo lo lo) w b ∧ PW4 s g' b ∧ Fr [102] g g' := by
  intro d
  induction d with
  | zero =>
    intro f n g v8 hn hf _ hB
    obtain ⟨f, rfl⟩ : ∃ k, f = k + 1 := ⟨f - 1, by omega⟩
    rw [show n = hi + 1 by omega] at hB
    rcases hB with ⟨-, q⟩ | ⟨w, b, h1, h2, h3⟩
    · exfalso
      refine q (cd4 lo lo lo lo) ?_ (by unfold cd4; omega)
      unfold S4
      rw [cd4_y (by omega), cd4_x (by omega) (by omega), cd4_m (by omega) (by omega) (by omega), cd4_n (by omega) (by omega) (by omega)]
      omega
    · refine ⟨g, v8, w, b, ?_, h1, h2, h3, Fr.refl _ _⟩
      show h_X12_train_111 N (L_X12_train N f) g (nI s) (nI lo) (nI hi) v6 v8 (nI la) (nI n) = _
      unfold h_X12_train_111
      rw [if_pos (nI_lt (by omega) (by omega)), bnd_s (bitsOfD h1.ne_nan)]
  | succ d ih =>
    intro f n g v8 hn hf hnl hB
    have cs := cn_succ d
    have cp := cn_pos d
    have cl := cm_le (d := hi + 1 - lo) (by omega)
    obtain ⟨f, rfl⟩ : ∃ k, f = k + 1 := ⟨f - 1, by omega⟩
    have e1 : (L_X12_train N (f + 1)).2.1 g (nI s) (nI lo) (nI hi) v6 v8 (nI la) (nI n) = (L_X12_train N f).2.2.1 g (nI s) (nI lo) (nI hi) v6 v8 (nI la) (nI n) (nI lo) := by
      show h_X12_train_111 N (L_X12_train N f) g (nI s) (nI lo) (nI hi) v6 v8 (nI la) (nI n) = _
      unfold h_X12_train_111
      rw [if_neg (nI_nlt (by omega) (by omega))]
    obtain ⟨g1, x1, f1, u1, u2, u3, u4⟩ := tr_m (N := N) (n := n) hs hlo hhi hla hll hgap hlh d6 ⟨hnl, by omega⟩ (hi + 1 - lo) f lo g v8 (by omega) (by omega) (Nat.le_refl _) hB
    have sk : BS (S4 lo hi la) (F4 s G) (cd4 (n + 1) lo lo lo) x1 (PW4 s g1) := by
      refine u3.skip (by unfold cd4; omega) (fun c' h h1 h2 => ?_)
      unfold S4 at h
      unfold cd4 at h1 h2
      obtain ⟨⟨a1, a2⟩, ⟨a3, a4⟩, ⟨a5, a6⟩, a7, a8⟩ := h
      obtain ⟨k1, k2⟩ := gap_down h1 h2 a7
      obtain ⟨k3, k4⟩ := gap_down k1 k2 a5
      clear h1 h2 k1 k2 a5 a6 a7 a8 cs cp cl hB u1
      omega
    obtain ⟨g2, x2, w, b, w1, w2, w3, w4, w5⟩ := ih f1 (n + 1) g1 x1 (by omega) (by omega) (by omega) sk
    exact ⟨g2, x2, w, b, by rw [e1, u2, w1], w2, w3, w4, u4.trans w5⟩
