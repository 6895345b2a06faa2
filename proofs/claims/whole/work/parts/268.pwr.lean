/-! the whole relation of both sides, and one call of it -/
theorem Sc.three {g g' : Gs} (h : Sc g g') : Fr [0, 1, 2] g g' := h.fr.mono (by decide)
/-- what no call but plan changes, and keep and back in their own way -/
def BR (N : Nat) (g gs gp gc : Gs) (kk : Nat → Option Gs) (srt : Nat → Nat) (th be ca P : Nat) : Prop := (∀ k, k < 26 → gLA g 7 k = lN (Wl.getD k 0)) ∧ gI g 59 = 0 ∧ PlR g gp gc srt th be ca ∧ NmR g gp th be ca ∧ gI g 63 = gI gc 9 ∧ gI g 64 = nI P ∧ gI gs 16 = nI P ∧ P ≤ N ∧ KpR g gs kk srt th be (500 * N) ∧ ∀ p, p < 4 → ∀ gk q, kk p = some gk → gI gk 16 = nI q → q < 2 ^ 30 → q ≤ P
abbrev baseX : List Nat := [7, 59, 60, 61, 62, 63, 64, 65, 66, 67, 68, 69, 70, 71, 72, 73, 74, 75, 76, 77, 78, 79, 103, 104, 105, 106, 107, 108, 109, 110, 111, 112, 113]
theorem sub_of {X Y A : List Nat} (h : ∀ k, k ∈ Y → k ∉ A) (hs : ∀ k, k ∈ X → k ∈ Y) : ∀ k, k ∈ X → k ∉ A := fun k hk => h k (hs k hk)
theorem BR.fr {N : Nat} {g g' gs gs' gp gc : Gs} {kk : Nat → Option Gs} {srt : Nat → Nat} {th be ca P : Nat} {A : List Nat} (h : BR N g gs gp gc kk srt th be ca P) (hf : Fr A g g') (hl : Lw g g') (hA : ∀ k, k ∈ baseX → k ∉ A) (h15 : gI gs' 16 = gI gs 16) : BR (N + 1) g' gs' gp gc kk srt th be ca P := by
  obtain ⟨x1, x2, x3, x4, x5, x6, x7, x8, x9, x10⟩ := h
  refine ⟨fun k hk => by rw [(hf 7 (hA 7 (by decide))).2.2.2.2.1]; exact x1 k hk, by rw [(hf 59 (hA 59 (by decide))).1]; exact x2, x3.low hf hl (sub_of hA (by decide)), x4.fr hf (sub_of hA (by decide)), by rw [(hf 63 (hA 63 (by decide))).1]; exact x5, by rw [(hf 64 (hA 64 (by decide))).1]; exact x6, h15.trans x7, by omega, x9.fr hf (sub_of hA (by decide)) h15 (by omega) x3.2.1, x10⟩
def WR (N h8 : Nat) (g gT gt g2 gs gpg gtr gp gc : Gs) (kk : Nat → Option Gs) : Prop := ∃ L srt th be ca S t P, TpR g gT gt L ∧ Tb g2 ∧ BR N g gs gp gc kk srt th be ca P ∧ StR g gs srt th be S t ∧ S ≤ 52 * t ∧ t ≤ 500 * N ∧ gI g 21 = gI gT 12 ∧ gL g 97 = gL gT 13 ∧ Dk g gpg ∧ Wr g gtr ∧ gR gT 8 = some h8
theorem Lw.rf (g : Gs) : Lw g g := fun _ _ => ⟨rfl, rfl, rfl, rfl, rfl⟩
theorem lw_of {X : List Nat} {a b : Gs} (hf : Fr X a b) (hX : 14 ∉ X ∧ 15 ∉ X ∧ 16 ∉ X ∧ 17 ∉ X ∧ 18 ∉ X) : Lw a b := (Lw.rf a).fr hf hX
theorem TpR.fr {g g' gT gt : Gs} {L : Nat} {A : List Nat} (h : TpR g gT gt L) (hf : Fr A g g') (hA : 3 ∉ A ∧ 4 ∉ A) : TpR g' gT gt L := by
  unfold TpR at *
  rw [(hf 3 hA.1).2.2.2.1, (hf 4 hA.2).1]
  exact h
theorem TpR.frT {g gT gT' gt : Gs} {L : Nat} {A : List Nat} (h : TpR g gT gt L) (hf : Fr A gT gT') (hA : 1 ∉ A) : TpR g gT' gt L := by
  unfold TpR at *
  rw [(hf 1 hA).1]
  exact h
theorem Dk.fr {g g' gpg : Gs} {A : List Nat} (h : Dk g gpg) (hf : Fr A g g') (hA : 98 ∉ A ∧ 99 ∉ A) : Dk g' gpg := by
  unfold Dk Tx at *
  rw [(hf 98 hA.1).2.2.2.1, (hf 99 hA.2).1]
  exact h
theorem Wr.fr {g g' gtr : Gs} {A : List Nat} (h : Wr g gtr) (hf : Fr A g g') (hA : 101 ∉ A ∧ 102 ∉ A) : Wr g' gtr := by
  unfold Wr at *
  rw [(hf 102 hA.2).2.2.2.1, (hf 101 hA.1).1]
  exact h
/-- the reference changed alone, outside all that is looked at -/
theorem WR.same {N h8 : Nat} {g g' gT gt g2 gs gpg gtr gp gc : Gs} {kk : Nat → Option Gs} {A : List Nat} (h : WR N h8 g gT gt g2 gs gpg gtr gp gc kk) (hf : Fr A g g') (hA : ∀ k, k ∈ baseX ++ [3, 4, 14, 15, 16, 17, 18, 21, 80, 81, 82, 83, 84, 85, 86, 87, 88, 89, 90, 91, 97, 98, 99, 101, 102] → k ∉ A) : WR (N + 1) h8 g' gT gt g2 gs gpg gtr gp gc kk := by
  obtain ⟨L, srt, th, be, ca, S, t, P, h1, h2, h3, h4, h5, h6, h7, h8', h9, h10, h11⟩ := h
  exact ⟨L, srt, th, be, ca, S, t, P, h1.fr hf ⟨hA 3 (by decide), hA 4 (by decide)⟩, h2, h3.fr hf (lw_of hf ⟨hA 14 (by decide), hA 15 (by decide), hA 16 (by decide), hA 17 (by decide), hA 18 (by decide)⟩) (sub_of hA (by decide)) rfl, h4.fr hf (sub_of hA (by decide)), h5, by omega, by rw [(hf 21 (hA 21 (by decide))).1]; exact h7, by rw [(hf 97 (hA 97 (by decide))).2.1]; exact h8', h9.fr hf ⟨hA 98 (by decide), hA 99 (by decide)⟩, h10.fr hf ⟨hA 101 (by decide), hA 102 (by decide)⟩, h11⟩
/-- a hall whose other references changed -/
theorem WR.hall {N h8 : Nat} {g gT gT' gt g2 gs gpg gtr gp gc : Gs} {kk : Nat → Option Gs} {A : List Nat} (h : WR N h8 g gT gt g2 gs gpg gtr gp gc kk) (hf : Fr A gT gT') (hA : 1 ∉ A ∧ 8 ∉ A ∧ 12 ∉ A ∧ 13 ∉ A) : WR N h8 g gT' gt g2 gs gpg gtr gp gc kk := by
  obtain ⟨L, srt, th, be, ca, S, t, P, h1, h2, h3, h4, h5, h6, h7, h8', h9, h10, h11⟩ := h
  exact ⟨L, srt, th, be, ca, S, t, P, h1.frT hf hA.1, h2, h3, h4, h5, h6, by rw [(hf 12 hA.2.2.1).1]; exact h7, by rw [(hf 13 hA.2.2.2).2.1]; exact h8', h9, h10, by rw [(hf 8 hA.2.1).2.2.2.2.2.2]; exact h11⟩
section Steps
variable {n N h8 : Nat} {g gT gt g2 gs gpg gtr gp gc : Gs} {kk : Nat → Option Gs}
theorem st_feed (hn : 2000000 ≤ n) (h : WR N h8 g gT gt g2 gs gpg gtr gp gc kk) (a b c d e : Int32) : ∃ r g' gT' gt', f_X12_feed n g a b c d e = some (r, g') ∧ f_X11_feed n gT gt a b c d e = some (r, gT', gt') ∧ WR (N + 1) h8 g' gT' gt' g2 gs gpg gtr gp gc kk ∧ Fr [1, 12, 13] gT gT' := by
  obtain ⟨L, srt, th, be, ca, S, t, P, h1, h2, h3, h4, h5, h6, h7, h8', h9, h10, h11⟩ := h
  obtain ⟨r, g', gT', gt', L', x1, x2, x3, x4, x5⟩ := feed_eq (n := n) (a := a) (b := b) (c := c) (d := d) (e := e) (by omega) h1
  exact ⟨r, g', gT', gt', x1, x2, ⟨L', srt, th, be, ca, S, t, P, x3, h2, h3.fr x4 (lw_of x4 (by decide)) (by decide) rfl, h4.fr x4 (by decide), h5, by omega, by rw [(x4 21 (by decide)).1, (x5 12 (by decide)).1]; exact h7, by rw [(x4 97 (by decide)).2.1, (x5 13 (by decide)).2.1]; exact h8', h9.fr x4 (by decide), h10.fr x4 (by decide), by rw [(x5 8 (by decide)).2.2.2.2.2.2]; exact h11⟩, x5.mono (by decide)⟩
theorem st_end (h : WR N h8 g gT gt g2 gs gpg gtr gp gc kk) (x : Int32) : ∃ r g' gT', f_X12_end g x = some (r, g') ∧ f_X11_end gT gt x = some (r, gT') ∧ WR (N + 1) h8 g' gT' gt g2 gs gpg gtr gp gc kk ∧ Fr [1, 12, 13] gT gT' := by
  obtain ⟨L, srt, th, be, ca, S, t, P, h1, h2, h3, h4, h5, h6, h7, h8', h9, h10, h11⟩ := h
  obtain ⟨r, g', gT', L', x1, x2, x3, x4, x5⟩ := end_eq (x := x) h1
  exact ⟨r, g', gT', x1, x2, ⟨L', srt, th, be, ca, S, t, P, x3, h2, h3.fr x4 (lw_of x4 (by decide)) (by decide) rfl, h4.fr x4 (by decide), h5, by omega, by rw [(x4 21 (by decide)).1, (x5 12 (by decide)).1]; exact h7, by rw [(x4 97 (by decide)).2.1, (x5 13 (by decide)).2.1]; exact h8', h9.fr x4 (by decide), h10.fr x4 (by decide), by rw [(x5 8 (by decide)).2.2.2.2.2.2]; exact h11⟩, x5.mono (by decide)⟩
theorem WR.rEq (h : WR N h8 g gT gt g2 gs gpg gtr gp gc kk) : rEq (gR gT 8) h8 = true := by
  obtain ⟨L, srt, th, be, ca, S, t, P, h1, h2, h3, h4, h5, h6, h7, h8', h9, h10, h11⟩ := h
  exact decide_eq_true h11
theorem WR.idle (h : WR N h8 g gT gt g2 gs gpg gtr gp gc kk) : WR (N + 1) h8 g gT gt g2 gs gpg gtr gp gc kk := h.same (Fr.refl [] g) (fun _ _ h => by cases h)
theorem st_fault (h : WR N h8 g gT gt g2 gs gpg gtr gp gc kk) : ∃ r, f_X12_fault_ g = some r ∧ f_X11_fault gT = some r := by
  obtain ⟨L, srt, th, be, ca, S, t, P, h1, h2, h3, h4, h5, h6, h7, _⟩ := h
  exact ⟨_, rfl, congrArg some h7.symm⟩
theorem st_told (h : WR N h8 g gT gt g2 gs gpg gtr gp gc kk) : ∃ r, f_X12_told_ g = some r ∧ f_X11_told gT = some r := by
  obtain ⟨L, srt, th, be, ca, S, t, P, h1, h2, h3, h4, h5, h6, h7, h8', _⟩ := h
  exact ⟨_, rfl, congrArg some h8'.symm⟩
theorem st_count (hN : N ≤ 1000) (h : WR N h8 g gT gt g2 gs gpg gtr gp gc kk) (x : Int32) : ∃ r, f_X12_count g x = some r ∧ f_X11_count h8 gT gs gpg gtr gp gc x = some r := by
  have hR := h.rEq
  obtain ⟨L, srt, th, be, ca, S, t, P, h1, h2, h3, h4, h5, h6, h7, h8', h9, h10, h11⟩ := h
  exact count_eq h1 h3.2.2.1 h3.2.2.2.1 h4 (by omega) h9 h10 h3.2.2.2.2.1 hR
theorem st_thing (h : WR N h8 g gT gt g2 gs gpg gtr gp gc kk) (x y : Int32) : ∃ r, f_X12_thing_ g x y = some r ∧ f_X11_thing h8 gT gs gp x y = some r := by
  have hR := h.rEq
  obtain ⟨L, srt, th, be, ca, S, t, P, h1, h2, h3, h4, h5, h6, h7, h8', h9, h10, h11⟩ := h
  exact thing_eq h4 h3.2.2.1 h3.2.2.2.1 hR x y
theorem st_letter (h : WR N h8 g gT gt g2 gs gpg gtr gp gc kk) (x y : Int32) : ∃ r, f_X12_letter g x y = some r ∧ f_X11_letter h8 gT gp x y = some r := by
  have hR := h.rEq
  obtain ⟨L, srt, th, be, ca, S, t, P, h1, h2, h3, h4, h5, h6, h7, h8', h9, h10, h11⟩ := h
  exact letter_eq h3.2.2.1 h3.2.2.2.1 hR x y
theorem st_value (hn : 2000000 ≤ n) (hN : N ≤ 1000) (h : WR N h8 g gT gt g2 gs gpg gtr gp gc kk) (x y : Int32) : ∃ r, f_X12_value g x y = some r ∧ f_X11_value n h8 gT g2 gs gp x y = some r := by
  have hR := h.rEq
  obtain ⟨L, srt, th, be, ca, S, t, P, h1, h2, h3, h4, h5, h6, h7, h8', h9, h10, h11⟩ := h
  exact value_eq (by omega) h2 h4 h3.2.2.1 hR (by omega) x y
theorem st_strike (hN : N ≤ 1000) (h : WR N h8 g gT gt g2 gs gpg gtr gp gc kk) (x y : Int32) : ∃ r, f_X12_strike g x y = some r ∧ f_X11_strike gT gs x y = some r := by
  obtain ⟨L, srt, th, be, ca, S, t, P, h1, h2, h3, h4, h5, h6, h7, h8', h9, h10, h11⟩ := h
  exact strike_eq h4 (by omega) x y
theorem st_octet (h : WR N h8 g gT gt g2 gs gpg gtr gp gc kk) (x : Int32) : ∃ r, f_X11_octet gT gpg x = some r ∧ f_X12_octet g x = some r := by
  obtain ⟨L, srt, th, be, ca, S, t, P, h1, h2, h3, h4, h5, h6, h7, h8', h9, h10, h11⟩ := h
  exact octet_eq h9
theorem st_wheel (h : WR N h8 g gT gt g2 gs gpg gtr gp gc kk) (x : Int32) : ∃ r, f_X11_wheel gT gtr x = some r ∧ f_X12_wheel g x = some r := by
  obtain ⟨L, srt, th, be, ca, S, t, P, h1, h2, h3, h4, h5, h6, h7, h8', h9, h10, h11⟩ := h
  exact wheel_eq h10
theorem WR.tb (h : WR N h8 g gT gt g2 gs gpg gtr gp gc kk) : Tb g2 := by
  obtain ⟨L, srt, th, be, ca, S, t, P, h1, h2, _⟩ := h
  exact h2
theorem st_measure (hn : 2000000 ≤ n) (h : WR N h8 g gT gt g2 gs gpg gtr gp gc kk) (x y : Int64) : ∃ r g', f_X11_measure n gT g2 x y = some r ∧ f_X12_measure n g x y = some (r, g') ∧ WR (N + 1) h8 g' gT gt g2 gs gpg gtr gp gc kk := by
  obtain ⟨r, g', x1, x2, x3⟩ := measure_eq (g := g) (gT := gT) (x := x) (y := y) (show 3000 ≤ n by omega) h.tb
  exact ⟨r, g', x1, x2, h.same x3.three (by decide)⟩
theorem st_together (hn : 2000000 ≤ n) (h : WR N h8 g gT gt g2 gs gpg gtr gp gc kk) (x y : Int64) : ∃ r g', f_X11_together n gT g2 x y = some r ∧ f_X12_together n g x y = some (r, g') ∧ WR (N + 1) h8 g' gT gt g2 gs gpg gtr gp gc kk := by
  obtain ⟨r, g', x1, x2, x3⟩ := together_eq (g := g) (gT := gT) (x := x) (y := y) (show 3000 ≤ n by omega) h.tb
  exact ⟨r, g', x1, x2, h.same x3.three (by decide)⟩
theorem st_date (hn : 2000000 ≤ n) (h : WR N h8 g gT gt g2 gs gpg gtr gp gc kk) (x : Int64) (w : Int32) : ∃ r g', f_X11_date gT g2 x w = some r ∧ f_X12_date n g x w = some (r, g') ∧ WR (N + 1) h8 g' gT gt g2 gs gpg gtr gp gc kk := by
  obtain ⟨r, g', x1, x2, x3⟩ := date_eq (g := g) (gT := gT) (x := x) (wi := w) (show 3000 ≤ n by omega) h.tb
  exact ⟨r, g', x1, x2, h.same x3.three (by decide)⟩
theorem st_dial (hn : 2000000 ≤ n) (h : WR N h8 g gT gt g2 gs gpg gtr gp gc kk) (x : Int64) (y : Int32) : ∃ r g' gpg', f_X11_dial n gT g2 gpg x y = some (r, gpg') ∧ f_X12_dial n g x y = some (r, g') ∧ WR (N + 1) h8 g' gT gt g2 gs gpg' gtr gp gc kk := by
  obtain ⟨L, srt, th, be, ca, S, t, P, h1, h2, h3, h4, h5, h6, h7, h8', h9, h10, h11⟩ := h
  obtain ⟨r, g', gpg', x1, x2, x3, x4, x5⟩ := dial_eq (gT := gT) (x := x) (y := y) (show 3000 ≤ n by omega) h2 h9
  exact ⟨r, g', gpg', x1, x2, ⟨L, srt, th, be, ca, S, t, P, h1.fr x4 (by decide), h2, h3.fr x4 (lw_of x4 (by decide)) (by decide) rfl, h4.fr x4 (by decide), h5, by omega, by rw [(x4 21 (by decide)).1]; exact h7, by rw [(x4 97 (by decide)).2.1]; exact h8', x3, h10.fr x4 (by decide), h11⟩⟩
theorem st_clock (hn : 2000000 ≤ n) (h : WR N h8 g gT gt g2 gs gpg gtr gp gc kk) (x : Int64) : ∃ r g' gpg', f_X11_clock n gT g2 gpg x = some (r, gpg') ∧ f_X12_clock n g x = some (r, g') ∧ WR (N + 1) h8 g' gT gt g2 gs gpg' gtr gp gc kk := by
  obtain ⟨L, srt, th, be, ca, S, t, P, h1, h2, h3, h4, h5, h6, h7, h8', h9, h10, h11⟩ := h
  obtain ⟨r, g', gpg', x1, x2, x3, x4, x5⟩ := clock_eq (gT := gT) (x := x) (show 3000 ≤ n by omega) h2 h9
  exact ⟨r, g', gpg', x1, x2, ⟨L, srt, th, be, ca, S, t, P, h1.fr x4 (by decide), h2, h3.fr x4 (lw_of x4 (by decide)) (by decide) rfl, h4.fr x4 (by decide), h5, by omega, by rw [(x4 21 (by decide)).1]; exact h7, by rw [(x4 97 (by decide)).2.1]; exact h8', x3, h10.fr x4 (by decide), h11⟩⟩
theorem st_train (hn : 2000000 ≤ n) (h : WR N h8 g gT gt g2 gs gpg gtr gp gc kk) (x : Int64) (s lo hi : Int32) : ∃ r g' gtr', f_X11_train n gT g2 gtr x s lo hi = some (r, gtr') ∧ f_X12_train n g x s lo hi = some (r, g') ∧ WR (N + 1) h8 g' gT gt g2 gs gpg gtr' gp gc kk := by
  obtain ⟨L, srt, th, be, ca, S, t, P, h1, h2, h3, h4, h5, h6, h7, h8', h9, h10, h11⟩ := h
  obtain ⟨r, g', gtr', x1, x2, x3, x4, x5⟩ := train_eq (gT := gT) (x := x) (s := s) (lo := lo) (hi := hi) hn h2 h10
  exact ⟨r, g', gtr', x1, x2, ⟨L, srt, th, be, ca, S, t, P, h1.fr x4 (by decide), h2, h3.fr x4 (lw_of x4 (by decide)) (by decide) rfl, h4.fr x4 (by decide), h5, by omega, by rw [(x4 21 (by decide)).1]; exact h7, by rw [(x4 97 (by decide)).2.1]; exact h8', h9.fr x4 (by decide), x3, h11⟩⟩
theorem st_tick (hn : 2000000 ≤ n) (hN : N ≤ 1000) (gm : Gs) (h : WR N h8 g gT gt g2 gs gpg gtr gp gc kk) (x : Int32) : ∃ r g' gs' gm', f_X12_tick n g x = some (r, g') ∧ f_X11_tick n h8 gT g2 gs gm gp gc x = some (r, gs', gm') ∧ WR (N + 1) h8 g' gT gt g2 gs' gpg gtr gp gc kk := by
  have hR := h.rEq
  obtain ⟨L, srt, th, be, ca, S, t, P, h1, h2, h3, h4, h5, h6, h7, h8', h9, h10, h11⟩ := h
  obtain ⟨r, g', gs', gm', S', t', x1, x2, x3, x4, x5, x6, x7⟩ := tick_eq (n := n) (gm := gm) (by omega) h2 hR h4 h3.2.2.1 h5 (by omega) x
  exact ⟨r, g', gs', gm', x1, x2, ⟨L, srt, th, be, ca, S', t', P, h1.fr x6 (by decide), h2, h3.fr x6 (lw_of x6 (by decide)) (by decide) (tick15' x2), x3, x4, by omega, by rw [(x6 21 (by decide)).1]; exact h7, by rw [(x6 97 (by decide)).2.1]; exact h8', h9.fr x6 (by decide), h10.fr x6 (by decide), h11⟩⟩
theorem st_set (h : WR N h8 g gT gt g2 gs gpg gtr gp gc kk) (x : Int32) (y : Int64) : ∃ r g' gs', f_X12_set g x y = some (r, g') ∧ f_X11_set h8 gT g2 gs gp x y = some (r, gs') ∧ WR (N + 1) h8 g' gT gt g2 gs' gpg gtr gp gc kk := by
  have hR := h.rEq
  obtain ⟨L, srt, th, be, ca, S, t, P, h1, h2, h3, h4, h5, h6, h7, h8', h9, h10, h11⟩ := h
  obtain ⟨r, g', gs', x1, x2, x3, x4⟩ := set_eq h2 h4 h3.2.2.1 h3.2.2.2.1 hR x y
  exact ⟨r, g', gs', x1, x2, ⟨L, srt, th, be, ca, S, t, P, h1.fr x4 (by decide), h2, h3.fr x4 (lw_of x4 (by decide)) (by decide) (set15 x2), x3, h5, by omega, by rw [(x4 21 (by decide)).1]; exact h7, by rw [(x4 97 (by decide)).2.1]; exact h8', h9.fr x4 (by decide), h10.fr x4 (by decide), h11⟩⟩
theorem st_step (h : WR N h8 g gT gt g2 gs gpg gtr gp gc kk) (y : Int64) : ∃ r g' gs', f_X12_step g y = some (r, g') ∧ f_X11_step gT g2 gs y = some (r, gs') ∧ WR (N + 1) h8 g' gT gt g2 gs' gpg gtr gp gc kk := by
  obtain ⟨L, srt, th, be, ca, S, t, P, h1, h2, h3, h4, h5, h6, h7, h8', h9, h10, h11⟩ := h
  obtain ⟨r, g', gs', x1, x2, x3, x4⟩ := step_eq (gT := gT) h2 h4 y
  exact ⟨r, g', gs', x1, x2, ⟨L, srt, th, be, ca, S, t, P, h1.fr x4 (by decide), h2, h3.fr x4 (lw_of x4 (by decide)) (by decide) (step15 x2), x3, h5, by omega, by rw [(x4 21 (by decide)).1]; exact h7, by rw [(x4 97 (by decide)).2.1]; exact h8', h9.fr x4 (by decide), h10.fr x4 (by decide), h11⟩⟩
theorem st_ask {h10 h11 : Nat} {gr gsc gN gS ca' gm : Gs} (hn : 2000000 ≤ n) (h : WR N h8 g gT gt g2 gs gpg gtr gp gc kk) (hR10 : gR gT 10 = some h10) (hR11 : gR gT 11 = some h11) : ∃ r g' gT' gm' gc' gr' gs' gN' gS', f_X12_ask n g = some (r, g') ∧ f_X11_ask n h8 h10 h11 gT gt g2 gs gm gp ca' gr gsc gN gS = some (r, gT', gm', gc', gr', gs', gN', gS') ∧ WR (N + 1) h8 g' gT' gt g2 gs gpg gtr gp gc kk ∧ Fr [1, 12, 13] gT gT' := by
  obtain ⟨L, srt, th, be, ca, S, t, P, h1, h2, h3, h4, h5, h6, h7, h8', h9, h10', h11'⟩ := h
  obtain ⟨r, g', gT', gm', gc', gr', gs', gN', gS', x1, x2, x3, x4, x5, x6, x7, x8⟩ := ask_eq (gm := gm) (gc := ca') (gr := gr) (gsc := gsc) (gN := gN) (gS := gS) (show 20000 ≤ n by omega) h2 h1 h3.1 h3.2.1 h3.2.2.1 h3.2.2.2.1 h4 h11' hR10 hR11 h8'
  exact ⟨r, g', gT', gm', gc', gr', gs', gN', gS', x1, x2, ⟨0, srt, th, be, ca, S, t, P, x5, h2, h3.fr x3 x4 (by decide) rfl, h4.fr x3 (by decide), h5, by omega, x6, x7, h9.fr x3 (by decide), h10'.fr x3 (by decide), by rw [(x8 8 (by decide)).2.2.2.2.2.2]; exact h11'⟩, x8⟩
theorem st_await {h10 h11 : Nat} {gr gsc gN gS ca' gm : Gs} (hn : 2000000 ≤ n) (hN : N ≤ 1000) (h : WR N h8 g gT gt g2 gs gpg gtr gp gc kk) (hR10 : gR gT 10 = some h10) (hR11 : gR gT 11 = some h11) (x : Int32) : ∃ r g' gT' gs' gm' gc' gr' gsc' gN' gS', f_X12_await n g x = some (r, g') ∧ f_X11_await n h8 h10 h11 gT gt g2 gs gm gp gc ca' gr gsc gN gS x = some (r, gT', gs', gm', gc', gr', gsc', gN', gS') ∧ WR (N + 1) h8 g' gT' gt g2 gs' gpg gtr gp gc kk ∧ Fr [1, 12, 13] gT gT' ∧ (x < 0 ∨ (500 : Int32) < x → gc' = ca' ∧ gr' = gr ∧ gsc' = gsc ∧ gN' = gN ∧ gS' = gS) := by
  obtain ⟨L, srt, th, be, ca, S, t, P, h1, h2, h3, h4, h5, h6, h7, h8', h9, h10', h11'⟩ := h
  obtain ⟨r, g', gT', gs', gm', gc', gr', gsc', gN', gS', S', t', x1, x2, x3, x4, x5, x6, x7, x8, x9, x10, x11, x12⟩ := await_eq (gm := gm) (gc := ca') (gr := gr) (gsc := gsc) (gN := gN) (gS := gS) (show 20000 ≤ n by omega) h2 h1 h3.1 h3.2.1 h3.2.2.1 h3.2.2.2.1 h4 h11' hR10 hR11 h8' h7 h5 (by omega) x
  exact ⟨r, g', gT', gs', gm', gc', gr', gsc', gN', gS', x1, x2, ⟨0, srt, th, be, ca, S', t', P, x5, h2, h3.fr x3 x4 (by decide) (await15' x2), x9, x10, by omega, x6, x7, h9.fr x3 (by decide), h10'.fr x3 (by decide), by rw [(x8 8 (by decide)).2.2.2.2.2.2]; exact h11'⟩, x8, x12⟩
theorem st_plan {h9 h11 : Nat} {aT : Nat → Nat} {g9 c9 gr gsc gN gS gm : Gs} (hn : 2000000 ≤ n) (hN : N ≤ 1000) (h : WR N h8 g gT gt g2 gs gpg gtr gp gc kk) (hR9 : gR gT 9 = some h9) (hR11 : gR gT 11 = some h11) : ∃ r g' gT' gs' gm' gp' gc' gr' gsc' gN' gS', f_X12_plan n g = some (r, g') ∧ f_X11_plan n h8 h9 aT h11 gT gt g2 gs gm gp gc g9 c9 gr gsc gN gS = some (r, gT', gs', gm', gp', gc', gr', gsc', gN', gS') ∧ Fr [1, 8, 9, 12] gT gT' ∧ ((gR gT' 8 = some h8 ∧ gR gT' 9 = some h9 ∧ WR (N + 1) h8 g' gT' gt g2 gs' gpg gtr gp gc kk) ∨ (gR gT' 8 = some h9 ∧ gR gT' 9 = some h8 ∧ WR (N + 1) h9 g' gT' gt g2 gs' gpg gtr gp' gc' kk)) := by
  obtain ⟨L, srt, th, be, ca, S, t, P, h1, h2, h3, h4, h5, h6, h7, h8', h9', h10', h11'⟩ := h
  obtain ⟨r, g', gT', gs', gm', gp', gc', gr', gsc', gN', gS', x1, x2, x3, x4, x5, x6, x7, x8⟩ := plan_eq (ca := ca) (gm := gm) (gq := gc) (gp := gp) (g9 := g9) (c9 := c9) (gr := gr) (gsc := gsc) (gN := gN) (gS := gS) (aT := aT) (show 20000 ≤ n by omega) h2 h1 h3.1 h3.2.1 h4 h11' hR9 hR11
  have q97 : gL g' 97 = gL gT' 13 := by rw [(x6 97 (by decide)).2.1, (x7 13 (by decide)).2.1]; exact h8'
  refine ⟨r, g', gT', gs', gm', gp', gc', gr', gsc', gN', gS', x1, x2, x7, ?_⟩
  rcases x8 with ⟨y1, y2, y3, y4, y5⟩ | ⟨y1, y2, th', be', ca', srt', y3, y4, y5, y6, y7, y8⟩
  · subst y3
    exact .inl ⟨y1, y2, 0, srt, th, be, ca, S, t, P, x3, h2, by
      obtain ⟨b1, b2, b3, b4, b5, b6, b7, b8, b9, b10⟩ := h3
      exact ⟨fun k hk => by rw [(y5 7 (by decide)).2.2.2.2.1]; exact b1 k hk, x4, b3.low y5 y4 (by decide), b4.fr y5 (by decide), by rw [(y5 63 (by decide)).1]; exact b5, by rw [(y5 64 (by decide)).1]; exact b6, b7, by omega, b9.fr y5 (by decide) rfl (by omega) b3.2.1, b10⟩, h4.fr y5 (by decide), h5, by omega, x5, q97, h9'.fr y5 (by decide), h10'.fr y5 (by decide), y1⟩
  · obtain ⟨b1, b2, b3, b4, b5, b6, b7, b8, b9, b10⟩ := h3
    refine .inr ⟨y1, y2, 0, srt', th', be', ca', 0, 0, P + 1, x3, h2, ⟨fun k hk => by rw [(x6 7 (by decide)).2.2.2.2.1]; exact b1 k hk, x4, y3, y4, y7, by rw [y6, b6, nI_1], by rw [y8, b7, nI_1], by omega, ?_, fun p hp gk q z1 z2 z3 => Nat.le_succ_of_le (b10 p hp gk q z1 z2 z3)⟩, y5, by omega, by omega, x5, q97, h9'.fr x6 (by decide), h10'.fr x6 (by decide), y1⟩
    exact b9.newplan (P := P) b10 x6 (by decide) (by rw [y8, b7, nI_1]) (by omega)
theorem st_keep {h9 : Nat} {gK gk : Gs} (hn : 2000000 ≤ n) (hN : N ≤ 1000) (h : WR N h8 g gT gt g2 gs gpg gtr gp gc kk) {p : Nat} (hp : p < 4) (hR : gR gK p = some h9) : ∃ g' gk', f_X12_keep n g (nI p) = some (1, g') ∧ f_X11_keep h9 gT gs gK gk (nI p) = some (1, gk') ∧ b_X11_keep_37 h9 gT gs gK gk = some (1, gk') ∧ WR (N + 1) h8 g' gT gt g2 gs gpg gtr gp gc (fun q => if q = p then some gk' else kk q) := by
  obtain ⟨L, srt, th, be, ca, S, t, P, h1, h2, h3, h4, h5, h6, h7, h8', h9', h10', h11'⟩ := h
  obtain ⟨b1, b2, b3, b4, b5, b6, b7, b8, b9, b10⟩ := h3
  obtain ⟨g', gk', x1, x2, x3, x4, x5, x6⟩ := keep_eq (n := n) (gT := gT) (gK := gK) (gk := gk) (gp := gp) (gq := gc) (ca := ca) (by omega) h4 h5 h6 b3.2.1 b6 b7 (by omega) b9 hp hR
  refine ⟨g', gk', x1, x2, x3, L, srt, th, be, ca, S, t, P, h1.fr x4 (by decide), h2, ⟨fun k hk => by rw [(x4 7 (by decide)).2.2.2.2.1]; exact b1 k hk, by rw [(x4 59 (by decide)).1]; exact b2, b3.fr x4 (by decide), b4.fr x4 (by decide), by rw [(x4 63 (by decide)).1]; exact b5, by rw [(x4 64 (by decide)).1]; exact b6, b7, by omega, x6.fr (Fr.refl [] g') (fun _ _ h => by cases h) rfl (by omega) b3.2.1, fun p' hp' gX q z1 z2 z3 => ?_⟩, h4.fr x4 (by decide), h5, by omega, by rw [(x4 21 (by decide)).1]; exact h7, by rw [(x4 97 (by decide)).2.1]; exact h8', h9'.fr x4 (by decide), h10'.fr x4 (by decide), h11'⟩
  by_cases c : p' = p
  · have z1 : (if p' = p then some gk' else kk p') = some gX := z1
    rw [if_pos c] at z1
    rw [← Option.some.inj z1, x5] at z2
    have := (nI_eq (by omega) (by omega)).mp z2
    omega
  · have z1 : (if p' = p then some gk' else kk p') = some gX := z1
    rw [if_neg c] at z1
    exact b10 p' hp' gX q z1 z2 z3
theorem st_back (hn : 2000000 ≤ n) (hN : N ≤ 1000) (h : WR N h8 g gT gt g2 gs gpg gtr gp gc kk) {p : Nat} (hp : p < 4) : (kk p = none ∧ f_X12_back n g (nI p) = some (0, g)) ∨ ∃ gk, kk p = some gk ∧ ∀ h9 gK, gR gK p = some h9 → ∃ r g' gs', f_X12_back n g (nI p) = some (r, g') ∧ f_X11_back h9 gT gs gK gk (nI p) = some (r, gs') ∧ WR (N + 1) h8 g' gT gt g2 gs' gpg gtr gp gc kk := by
  obtain ⟨L, srt, th, be, ca, S, t, P, h1, h2, h3, h4, h5, h6, h7, h8', h9', h10', h11'⟩ := h
  obtain ⟨b1, b2, b3, b4, b5, b6, b7, b8, b9, b10⟩ := id h3
  rcases back_eq (n := n) (h9 := 0) (gT := gT) (gK := gT) (gk := gT) (gp := gp) (gq := gc) (ca := ca) (by omega) h4 h5 h6 b3.2.1 b6 b7 (by omega) b9 hp with hn | ⟨gk, x1, x2⟩
  · exact .inl hn
  · refine .inr ⟨gk, x1, fun h9 gK hR => ?_⟩
    obtain ⟨r, g', gs', S', t', y1, y2, y3, y4, y5, y6, y7⟩ := x2 h9 gK gT hR
    exact ⟨r, g', gs', y1, y2, L, srt, th, be, ca, S', t', P, h1.fr y3 (by decide), h2, h3.fr y3 (lw_of y3 (by decide)) (by decide) (y7.trans b7.symm), y4, y5, by omega, by rw [(y3 21 (by decide)).1]; exact h7, by rw [(y3 97 (by decide)).2.1]; exact h8', h9'.fr y3 (by decide), h10'.fr y3 (by decide), h11'⟩
theorem st_out (h : WR N h8 g gT gt g2 gs gpg gtr gp gc kk) (hK : 0 = 0) {x : Int32} (hx : x < 0 ∨ nI 4 ≤ x) (h9 : Nat) (gK gk : Gs) : f_X12_keep n g x = some (0, g) ∧ f_X11_keep h9 gT gs gK gk x = some (0, gk) ∧ f_X12_back n g x = some (0, g) ∧ f_X11_back h9 gT gs gK gk x = some (0, gs) := by
  unfold f_X12_keep f_X11_keep f_X12_back f_X11_back
  by_cases z : x < 0
  · rw [if_pos z, if_pos z, if_pos z, if_pos z]; exact ⟨rfl, rfl, rfl, rfl⟩
  · have h4 : nI 4 ≤ x := hx.elim (fun y => absurd y z) id
    have a1 : ¬ x ≤ (3 : Int32) := fun y => nI_ge (a := 3) (b := 4) (by omega) (by omega) (Int32.le_trans h4 y)
    have a2 : ¬ x < (4 : Int32) := Int32.not_lt.mpr h4
    have a3 : (3 : Int32) < x := Int32.not_le.mp a1
    rw [if_neg z, if_neg z, if_neg z, if_neg z, if_neg a1, if_neg a2, if_pos a3, if_neg a2]; exact ⟨rfl, rfl, rfl, rfl⟩
end Steps
