/-! works against run: entries, then whole parts -/
theorem ps_res {n : Nat} {g0 gm0 g2 gs gp gc : Gs} {off last T t i many : Nat} {srt : Nat → Nat} {g gm : Gs} {fr fm : Nat} (hp : Ps g0 gc srt many (off + i) i t) (hD : Dyn g0 gs srt many) (h : RS g0 gm0 T g gm) (hT : T + 1 ≤ 400) (hi : i < last) (hl : last ≤ 840) (hl8 : off + last ≤ 8000) (hfm : 1 ≤ fm) (hk : n ≤ fm + 1 + i ∧ fm + 1 ≤ n) : Res n g0 gm0 g2 gs gp gc off last T t (i + 1) g gm (fr + 1) (fm + 1) 1 (L_X12_works n (fr + 1) g (nI (off + last)) (nI (off + i))) (LX n (fm + 1) gm g2 gs gp gc (nI last) (nI i)) := by
  obtain ⟨r1, r2, r3, r4, r5⟩ := id h
  obtain ⟨d1, d2, d3, d4⟩ := hD
  have e14 : gIA g 14 = gIA g0 14 := (r1 14 (by decide)).2.2.2.1
  have e15 : gIA g 15 = gIA g0 15 := (r1 15 (by decide)).2.2.2.1
  have e18 : gLA g 18 = gLA g0 18 := (r1 18 (by decide)).2.2.2.2.1
  have e80 : gLA g 80 = gLA g0 80 := (r1 80 (by decide)).2.2.2.2.1
  have e81 : gLA g 81 = gLA g0 81 := (r1 81 (by decide)).2.2.2.2.1
  have e87 : gL g 87 = gL g0 87 := (r1 87 (by decide)).2.1
  have e91 : gL g 91 = gL g0 91 := (r1 91 (by decide)).2.1
  have main : ∀ (o : Int32) (x w : Int64) (d : UInt64), gIA g 14 (off + i) = o → o < 13 → f_X12_done n g (nI (off + i)) = some (1, sI (sLA g 92 (vp_updL (gLA g 92) T x)) 93 (nI (T + 1))) → LX n (fm + 1) gm g2 gs gp gc (nI last) (nI i) = bnd (f_X1_push (sI gm 6 (gIA gc 1 i)) w d) (fun q => LX n fm q g2 gs gp gc (nI last) (nI (i + 1))) → VR t x w d → VI t x → Res n g0 gm0 g2 gs gp gc off last T t (i + 1) g gm (fr + 1) (fm + 1) 1 (L_X12_works n (fr + 1) g (nI (off + last)) (nI (off + i))) (LX n (fm + 1) gm g2 gs gp gc (nI last) (nI i)) := by
    intro o x w d ho ho2 hd hc hv hi'
    rw [works_done (show off + i < off + last by omega) hl8 ho (.inl ho2) r3 (by omega), hc]
    refine res_step h hfm (.inr ⟨_, hd⟩) ?_
    rw [hd]
    exact out_push r4 hT hv hi'
  rcases hp with ⟨p1, p2, p3, p4⟩ | ⟨p1, p2, rfl⟩ | ⟨p1, p2, rfl⟩ | ⟨p1, p2, a, a1, a2, a3, rfl⟩ | ⟨p1, p2, a, a1, a2, a3, rfl⟩
  · refine main 1 _ _ _ (by rw [e14]; exact p2) (by decide) (done_push (by omega) r3 hT (.inl ⟨by rw [e14]; exact p2, rfl⟩)) (run_num hk hi hl r5 p1 rfl) ?_ ?_
    · rw [e18]; exact p3
    · rw [e18]; exact p4
  · refine main 2 _ _ _ (by rw [e14]; exact p2) (by decide) (done_push (by omega) r3 hT (.inr (.inl ⟨by rw [e14]; exact p2, rfl⟩))) (run_ticks hk hi hl r5 p1 rfl) ?_ ?_
    · rw [e87, d2]; exact (VR.whole (by decide)).mpr rfl
    · exact fun h => absurd h (by decide)
  · refine main 3 _ _ _ (by rw [e14]; exact p2) (by decide) (done_push (by omega) r3 hT (.inr (.inr (.inl ⟨by rw [e14]; exact p2, rfl⟩)))) (run_stp hk hi hl r5 p1 rfl) ?_ ?_
    · rw [e91]; exact d3
    · exact fun h => absurd h (by decide)
  · obtain ⟨v1, v2, v3, v4⟩ := d4 a a1
    refine main 4 _ _ _ (by rw [e14]; exact p2) (by decide) (done_push (by omega) r3 hT (.inr (.inr (.inr (.inl ⟨by rw [e14]; exact p2, a, by omega, by rw [e15]; exact a3, rfl⟩))))) (run_thing hk hi hl r5 p1 rfl a2 (by omega)) ?_ ?_
    · rw [e80]; exact v1
    · rw [e80]; exact v2
  · obtain ⟨v1, v2, v3, v4⟩ := d4 a a1
    refine main 5 _ _ _ (by rw [e14]; exact p2) (by decide) (done_push (by omega) r3 hT (.inr (.inr (.inr (.inr ⟨by rw [e14]; exact p2, a, by omega, by rw [e15]; exact a3, rfl⟩))))) (run_old hk hi hl r5 p1 rfl a2 (by omega)) ?_ ?_
    · rw [e81]; exact v3
    · rw [e81]; exact v4
theorem un_res {n : Nat} {g0 gm0 g2 gs gp gc : Gs} {off last T s t i cams : Nat} {g gm : Gs} {fr fm : Nat} (hn : 3000 ≤ n) (hu : Un g0 gc cams (off + i) i s t) (hpl : gIA gc 1 i = gIA g0 17 (off + i)) (hC : TeR g0 gp cams) (h : RS g0 gm0 (T + 1) g gm) (hT : T + 1 ≤ 400) (hi : i < last) (hl : last ≤ 840) (hl8 : off + last ≤ 8000) (hfm : 1 ≤ fm) (hk : n ≤ fm + 1 + i ∧ fm + 1 ≤ n) (hv : VR s (gLA g 92 T) (gLA gm 2 T) (gDA gm 3 T)) (hvi : VI s (gLA g 92 T)) : Res n g0 gm0 g2 gs gp gc off last T t (i + 1) g gm (fr + 1) (fm + 1) 1 (L_X12_works n (fr + 1) g (nI (off + last)) (nI (off + i))) (LX n (fm + 1) gm g2 gs gp gc (nI last) (nI i)) := by
  obtain ⟨r1, r2, r3, r4, r5⟩ := id h
  have e14 : gIA g 14 = gIA g0 14 := (r1 14 (by decide)).2.2.2.1
  have e15 : gIA g 15 = gIA g0 15 := (r1 15 (by decide)).2.2.2.1
  have e16 : gIA g 16 = gIA g0 16 := (r1 16 (by decide)).2.2.2.1
  have e78 : gIA g 78 = gIA g0 78 := (r1 78 (by decide)).2.2.2.1
  have e79 : gLA g 79 = gLA g0 79 := (r1 79 (by decide)).2.2.2.2.1
  have main : ∀ (o : Int32) (C : Option Gs), gIA g 14 (off + i) = o → (o < 13 ∨ o = 19) → LX n (fm + 1) gm g2 gs gp gc (nI last) (nI i) = bnd C (fun q => LX n fm q g2 gs gp gc (nI last) (nI (i + 1))) → Out g (sI gm 6 (gIA gc 1 i)) T (off + i) t (f_X12_done n g (nI (off + i))) C → Res n g0 gm0 g2 gs gp gc off last T t (i + 1) g gm (fr + 1) (fm + 1) 1 (L_X12_works n (fr + 1) g (nI (off + last)) (nI (off + i))) (LX n (fm + 1) gm g2 gs gp gc (nI last) (nI i)) := by
    intro o C ho ho2 hc hout
    rw [works_done (show off + i < off + last by omega) hl8 ho ho2 r3 hT, hc]
    exact res_step h hfm (.inl hpl) hout
  have hK : off + i < 8000 := by omega
  obtain ⟨s7, hu⟩ := hu
  rcases hu with ⟨p1, p2, p3, rfl, a, a1, a2, a3⟩ | ⟨p1, p2, p3, rfl, p4, p5, p6⟩ | ⟨p1, p2, rfl, rfl, ⟨l, p5⟩, r, p6⟩ | ⟨p1, p2, p3, p4, p5, p6, p7, p8⟩ | ⟨w, w4, p1, p2, p3, p4, rfl, p5, p6, p7⟩
  · refine main 6 _ (by rw [e14]; exact p2) (.inl (by decide)) (run_tooth hk hi hl r5 p1 rfl) ?_
    rw [a2]
    refine work_tooth (cams := cams) ⟨hC.1, fun b hb => ?_⟩ a1 hK r3 hT r4 (by rw [e14]; exact p2) (by rw [e15]; exact a3) p3 hv
    rw [e78, e79]; exact hC.2 b hb
  · refine main 7 _ (by rw [e14]; exact p2) (.inl (by decide)) (run_one hk hi hl r5 p1 (by decide)) ?_
    rw [p5, p6]
    exact work_neg hK r3 hT r4 (by rw [e14]; exact p2) (by rw [e16]; exact p4) p3 s7 hv hvi
  · refine main 8 _ (by rw [e14]; exact p2) (.inl (by decide)) (run_one hk hi hl r5 p1 (by decide)) ?_
    rw [p5, p6]
    exact work_not hK r3 hT r4 (by rw [e14]; exact p2) hv
  · refine main 9 _ (by rw [e14]; exact p2) (.inl (by decide)) (run_one hk hi hl r5 p1 (by decide)) ?_
    rw [p7, p8]
    exact work_cast (by omega) hK r3 hT r4 (by rw [e14]; exact p2) (by rw [e15]; exact p5) (by rw [e16]; exact p6) p3 s7 p4 r5 hv hvi
  · refine main 10 _ (by rw [e14]; exact p2) (.inl (by decide)) (run_one (o := nI (19 + w)) hk hi hl r5 p1 ?_) ?_
    · have hw : w = 0 ∨ w = 1 ∨ w = 2 ∨ w = 3 := by omega
      rcases hw with rfl | rfl | rfl | rfl <;> decide
    · rw [p6, p7]
      exact work_round (by omega) hK r3 hT r4 (by rw [e14]; exact p2) (by rw [e15]; exact p3) w4 (by rw [e16]; exact p5) p4 s7 hv hvi
theorem bi_res {n : Nat} {g0 gm0 g2 gs gp gc : Gs} {off last T l r t i : Nat} {g gm : Gs} {fr fm : Nat} (hn : 3000 ≤ n) (hTb : Tb g2) (hb : Bi g0 gc (off + i) i l r t) (hpl : gIA gc 1 i = gIA g0 17 (off + i)) (h : RS g0 gm0 (T + 2) g gm) (hT : T + 2 ≤ 400) (hi : i < last) (hl : last ≤ 840) (hl8 : off + last ≤ 8000) (hfm : 1 ≤ fm) (hk : n ≤ fm + 1 + i ∧ fm + 1 ≤ n) (va : VR l (gLA g 92 T) (gLA gm 2 T) (gDA gm 3 T)) (ia : VI l (gLA g 92 T)) (vb : VR r (gLA g 92 (T + 1)) (gLA gm 2 (T + 1)) (gDA gm 3 (T + 1))) (ib : VI r (gLA g 92 (T + 1))) : Res n g0 gm0 g2 gs gp gc off last T t (i + 1) g gm (fr + 1) (fm + 1) 1 (L_X12_works n (fr + 1) g (nI (off + last)) (nI (off + i))) (LX n (fm + 1) gm g2 gs gp gc (nI last) (nI i)) := by
  obtain ⟨r1, r2, r3, r4, r5⟩ := id h
  have e14 : gIA g 14 = gIA g0 14 := (r1 14 (by decide)).2.2.2.1
  have e15 : gIA g 15 = gIA g0 15 := (r1 15 (by decide)).2.2.2.1
  have e16 : gIA g 16 = gIA g0 16 := (r1 16 (by decide)).2.2.2.1
  have hK : off + i < 8000 := by omega
  obtain ⟨b1, b2, b3, l7, r7, hb⟩ := hb
  have b1' : gIA g 16 (off + i) = nI (8 * l + r) := by rw [e16]; exact b1
  have main : ∀ (o' : Int32), (gIA g 14 (off + i) = 11 ∨ gIA g 14 (off + i) = 12) → gIA gc 0 i = o' → (o' = 49 ∨ o' = 50 ∨ o' = 51 ∨ o' = 52 ∨ o' = 53 ∨ o' = 55 ∨ o' = 56 ∨ o' = 57 ∨ o' = 58 ∨ o' = 59 ∨ o' = 60 ∨ o' = 23 ∨ o' = 24 ∨ o' = 25) → Out g (sI gm 6 (gIA gc 1 i)) T (off + i) t (f_X12_joins n g (nI (off + i))) (f_X1_workTwo n (sI gm 6 (gIA gc 1 i)) g2 o' (nI l) (nI r) (gIA gc 2 i)) → Res n g0 gm0 g2 gs gp gc off last T t (i + 1) g gm (fr + 1) (fm + 1) 1 (L_X12_works n (fr + 1) g (nI (off + last)) (nI (off + i))) (LX n (fm + 1) gm g2 gs gp gc (nI last) (nI i)) := by
    intro o' ho hc hc2 hout
    rw [works_done (show off + i < off + last by omega) hl8 rfl (.inl (by rcases ho with ho | ho <;> rw [ho] <;> decide)) r3 hT, run_two hk hi hl r5 hc hc2, b2, b3]
    exact res_step h hfm (.inl hpl) (hout.two hK ho)
  rcases hb with ⟨l1, q1, p1, p2, rfl, p3⟩ | ⟨l1, q1, p1, p2, rfl, p3⟩ | ⟨l1, q1, p1, p2, rfl, m, p3, p4⟩ | ⟨l1, q1, p1, p2, rfl, p3, p4⟩ | ⟨rfl, rfl, p1, p2, rfl, e, p3, p4⟩
  · refine main _ (.inr (by rw [e14]; exact p1)) rfl ?_ ?_
    · rcases p3 with ⟨_, h⟩ | ⟨_, h⟩ | ⟨_, h⟩ | ⟨_, h⟩ | ⟨_, h⟩ <;> rw [h] <;> decide
    · rw [p2]
      exact (work_op (gm := sI gm 6 (gIA gc 1 i)) hn hTb hK r3 r4 hT b1' (by rw [e15]) l1 l7 q1 r7 p3 va vb ia ib).out
  · refine main _ (.inr (by rw [e14]; exact p1)) rfl ?_ ?_
    · rcases p3 with ⟨_, h⟩ | ⟨_, h⟩ | ⟨_, h⟩ | ⟨_, h⟩ | ⟨_, h⟩ | ⟨_, h⟩ <;> rw [h] <;> decide
    · rw [p2]
      exact (work_cmp (gm := sI gm 6 (gIA gc 1 i)) hn hK r3 r4 hT b1' (by rw [e15]) l1 l7 q1 r7 p3 va vb ia ib).out
  · refine main _ (.inl (by rw [e14]; exact p1)) p4 ?_ ?_
    · cases m <;> decide
    · rw [p2]
      exact (work_lm (gm := sI gm 6 (gIA gc 1 i)) m hn hK r3 r4 hT b1' (by rw [e15]; exact p3) l1 l7 q1 r7 va vb ia ib).out
  · refine main _ (.inl (by rw [e14]; exact p1)) p4 (by decide) ?_
    rw [p2]
    exact (work_gcd (gm := sI gm 6 (gIA gc 1 i)) hn hTb hK r3 r4 hT b1' (by rw [e15]; exact p3) l1 l7 q1 r7 va vb ia ib).out
  · refine main _ (.inr (by rw [e14]; exact p1)) p4 ?_ ?_
    · cases e <;> decide
    · rw [p2]
      exact work_tt e hK r3 r4 hT b1' (by rw [e15]; exact p3) va vb
/-- a part's code runs alike on both sides -/
theorem run_ex {n : Nat} {g0 gm0 g2 gs gp gc : Gs} {off last many cams : Nat} {srt : Nat → Nat} (hn : 3000 ≤ n) (hTb : Tb g2) (hD : Dyn g0 gs srt many) (hC : TeR g0 gp cams) (hl : last ≤ 840) (hl8 : off + last ≤ 8000) {m : Nat} : ∀ {j j' t d : Nat}, Ex g0 gc off srt many cams m j j' t d → j' ≤ last → ∀ {T : Nat} {g gm : Gs} {fr fm : Nat}, RS g0 gm0 T g gm → T + d ≤ 400 → j' - j + 1 ≤ fr → (j' - j + 1 ≤ fm ∧ n ≤ fm + j ∧ fm ≤ n) → Res n g0 gm0 g2 gs gp gc off last T t j' g gm fr fm (j' - j) (L_X12_works n fr g (nI (off + last)) (nI (off + j))) (LX n fm gm g2 gs gp gc (nI last) (nI j)) := by
  induction m with
  | zero => intro j j' t d h; exact h.elim
  | succ m ih =>
    intro j j' t d h hj T g gm fr fm hR hT hfr hfm
    rcases h with ⟨rfl, rfl, h3⟩ | ⟨i, s, rfl, h2, h3, h4⟩ | ⟨i, k, l, r, d1, d2, rfl, rfl, h3, h4, h5, h6⟩ | ⟨o, i, k, d1, d2, rfl, rfl, rfl, h3, ⟨i1, i2, i3, i4⟩, h4, k1, k2⟩ | ⟨i, p, k, a, b, d1, d2, d3, rfl, rfl, h3, ⟨i1, i2, i3, i4⟩, h4, ⟨p1, p2, p3, p4, p5, p6, p7⟩, h5, ⟨k1, k2, k3, k4, k5⟩, ht⟩
    · obtain ⟨fr, rfl⟩ : ∃ f, fr = f + 1 := ⟨fr - 1, by omega⟩
      obtain ⟨fm, rfl⟩ : ∃ f, fm = f + 1 := ⟨fm - 1, by omega⟩
      exact (ps_res h3 hD hR (by omega) (by omega) hl hl8 (by omega) (by omega)).cost (by omega)
    · have l1 := Ex.lt h2
      refine Res.cost (c := (i - j) + 1) (Res.next (Nat.le_refl T) (ih h2 (by omega) hR hT (by omega) (by omega)) ?_) (by omega)
      intro g' gm' fr' fm' f1 f2 hR' hrow hv hi
      obtain ⟨fr', rfl⟩ : ∃ f, fr' = f + 1 := ⟨fr' - 1, by omega⟩
      obtain ⟨fm', rfl⟩ : ∃ f, fm' = f + 1 := ⟨fm' - 1, by omega⟩
      exact un_res hn h3 h4 hC hR' (by omega) (by omega) hl hl8 (by omega) (by omega) hv hi
    · have l1 := Ex.lt h3
      have l2 := Ex.lt h4
      refine Res.cost (c := (i - j) + ((k - i) + 1)) (Res.next (Nat.le_refl T) (ih h3 (by omega) hR (by omega) (by omega) (by omega)) ?_) (by omega)
      intro g' gm' fr' fm' f1 f2 hR' hrow hv hi
      refine Res.next (Nat.le_succ T) (ih h4 (by omega) hR' (by omega) (by omega) (by omega)) ?_
      intro g'' gm'' fr'' fm'' f1' f2' hR'' hrow' hv' hi'
      obtain ⟨fr'', rfl⟩ : ∃ f, fr'' = f + 1 := ⟨fr'' - 1, by omega⟩
      obtain ⟨fm'', rfl⟩ : ∃ f, fm'' = f + 1 := ⟨fm'' - 1, by omega⟩
      obtain ⟨q1, q2, q3⟩ := hrow' T (by omega)
      rw [← q1, ← q2, ← q3] at hv
      rw [← q1] at hi
      exact bi_res hn hTb h5 h6 hR'' (by omega) (by omega) hl hl8 (by omega) (by omega) hv hi hv' hi'
    · have l1 := Ex.lt h3
      have l2 := Ex.lt h4
      refine Res.cost (c := (i - j) + (1 + (k - (i + 1)) + 1)) (Res.next (Nat.le_refl T) (ih h3 (by omega) hR (by omega) (by omega) (by omega)) ?_) (by omega)
      intro g' gm' fr' fm' f1 f2 hR' hrow hv hi
      obtain ⟨fr', rfl⟩ : ∃ f, fr' = f + 1 := ⟨fr' - 1, by omega⟩
      obtain ⟨fm', rfl⟩ : ∃ f, fm' = f + 1 := ⟨fm' - 1, by omega⟩
      obtain ⟨r1, r2, r3, r4, r5⟩ := hR'
      have e14 : gIA g' 14 = gIA g0 14 := (r1 14 (by decide)).2.2.2.1
      have e15 : gIA g' 15 = gIA g0 15 := (r1 15 (by decide)).2.2.2.1
      have hw := (VR.whole (by decide)).mp hv
      have f6 : Fr [2, 3, 4, 5, 6] gm0 (sI gm' 6 (gIA gc 1 i)) := r2.trans (Fr.sI (by decide) _ _)
      rw [works_skip (A := off + k + 1) o (show off + i < off + last by omega) hl8 (by rw [e14]; exact i2) r3 (by omega) (by rw [e15]; exact i4)]
      rw [run_skip (by omega) (by omega) hl r5 i1 (by cases o <;> decide), skip_ao (gm := sI gm' 6 (gIA gc 1 i)) o (by omega) r4 (by omega) i3 (by omega) (by omega), hw]
      by_cases c : (if gLA gm' 2 T = 0 then false else true) = o
      · rw [if_pos c]
        have c' : (if gLA (sI gm' 6 (gIA gc 1 i)) 2 T = 0 then false else true) = o := c
        rw [if_pos c']
        left
        refine ⟨g', sI gm' 6 (gIA gc 1 i), fr', fm', by omega, by omega, rfl, ?_, ⟨r1, f6, r3, r4, r5⟩, fun i hi => ⟨rfl, rfl, rfl⟩, hv, hi⟩
        show LX n fm' _ g2 gs gp gc (nI last) (nI k + 1) = _
        rw [nI_1]
      · rw [if_neg c]
        have c' : ¬ (if gLA (sI gm' 6 (gIA gc 1 i)) 2 T = 0 then false else true) = o := c
        rw [if_neg c']
        show Res _ _ _ _ _ _ _ _ _ _ _ _ _ _ _ _ _ _ (LX n fm' (sI (sI gm' 6 (gIA gc 1 i)) 4 (nI T)) g2 gs gp gc (nI last) (nI i + 1))
        rw [nI_1]
        have hR2 : RS g0 gm0 T (sI g' 93 (nI T)) (sI (sI gm' 6 (gIA gc 1 i)) 4 (nI T)) := ⟨r1.trans (Fr.sI (by decide) _ _), f6.trans (Fr.sI (by decide) _ _), rfl, rfl, r5⟩
        have sub := ih h4 (by omega) (fr := fr') (fm := fm') hR2 (by omega) (by omega) (by omega)
        have fin : Res n g0 gm0 g2 gs gp gc off last T 0 (k + 1) (sI g' 93 (nI T)) (sI (sI gm' 6 (gIA gc 1 i)) 4 (nI T)) fr' fm' ((k - (i + 1)) + 1) (L_X12_works n fr' (sI g' 93 (nI T)) (nI (off + last)) (nI (off + (i + 1)))) (LX n fm' (sI (sI gm' 6 (gIA gc 1 i)) 4 (nI T)) g2 gs gp gc (nI last) (nI (i + 1))) := by
          refine Res.next (Nat.le_refl T) sub ?_
          intro g'' gm'' fr'' fm'' f1' f2' hR'' hrow' hv' hi'
          obtain ⟨fr'', rfl⟩ : ∃ f, fr'' = f + 1 := ⟨fr'' - 1, by omega⟩
          obtain ⟨fm'', rfl⟩ : ∃ f, fm'' = f + 1 := ⟨fm'' - 1, by omega⟩
          obtain ⟨s1, s2, s3, s4, s5⟩ := hR''
          rw [works_pass (o := if o = true then 16 else 14) (show off + k < off + last by omega) hl8 (by rw [(s1 14 (by decide)).2.2.2.1]; exact k2) (by cases o <;> decide) s3 (by omega), run_pass (by omega) (by omega) hl s5 k1 (by cases o <;> decide)]
          exact .inl ⟨g'', sI gm'' 6 (gIA gc 1 k), fr'', fm'', by omega, by omega, rfl, rfl, ⟨s1, s2.trans (Fr.sI (by decide) _ _), s3, s4, s5⟩, fun i hi => ⟨rfl, rfl, rfl⟩, hv', hi'⟩
        rcases fin with ⟨g3, gm3, fr3, fm3, t1, t2, t3⟩ | fin
        · exact .inl ⟨g3, gm3, fr3, fm3, by omega, by omega, t3⟩
        · exact .inr fin
    · have l1 := Ex.lt h3
      have l2 := Ex.lt h4
      have l3 := Ex.lt h5
      refine Res.cost (c := (i - j) + (1 + (p - (i + 1)) + 1 + (k - (p + 1)) + 1)) (Res.next (Nat.le_refl T) (ih h3 (by omega) hR (by omega) (by omega) (by omega)) ?_) (by omega)
      intro g' gm' fr' fm' f1 f2 hR' hrow hv hi
      obtain ⟨fr', rfl⟩ : ∃ f, fr' = f + 1 := ⟨fr' - 1, by omega⟩
      obtain ⟨fm', rfl⟩ : ∃ f, fm' = f + 1 := ⟨fm' - 1, by omega⟩
      obtain ⟨r1, r2, r3, r4, r5⟩ := hR'
      have e14 : gIA g' 14 = gIA g0 14 := (r1 14 (by decide)).2.2.2.1
      have e15 : gIA g' 15 = gIA g0 15 := (r1 15 (by decide)).2.2.2.1
      have hw := (VR.whole (by decide)).mp hv
      have f6 : Fr [2, 3, 4, 5, 6] gm0 (sI gm' 6 (gIA gc 1 i)) := r2.trans (Fr.sI (by decide) _ _)
      have hR2 : RS g0 gm0 T (sI g' 93 (nI T)) (sI (sI gm' 6 (gIA gc 1 i)) 4 (nI T)) := ⟨r1.trans (Fr.sI (by decide) _ _), f6.trans (Fr.sI (by decide) _ _), rfl, rfl, r5⟩
      have a7 : a ≤ 7 ∧ b ≤ 7 ∧ t ≤ 7 ∧ ((a = 0 ∧ t = 0) ∨ (1 ≤ a ∧ 1 ≤ t)) ∧ ((b = 0 ∧ t = 0) ∨ (1 ≤ b ∧ 1 ≤ t)) ∧ ¬ (a = 7 ∧ t = 6) ∧ ¬ (b = 7 ∧ t = 6) := by
        unfold jn at ht; omega
      rw [works_ask1 (A := off + p + 1) (show off + i < off + last by omega) hl8 (by rw [e14]; exact i2) r3 (by omega) (by rw [e15]; exact i4)]
      rw [run_skip (by omega) (by omega) hl r5 i1 (by decide), skip_if (gm := sI gm' 6 (gIA gc 1 i)) (by omega) r4 (by omega) i3 (by omega) (by omega), hw]
      by_cases c : gLA gm' 2 T = 0
      · have c' : gLA (sI gm' 6 (gIA gc 1 i)) 2 T = 0 := c
        rw [if_pos c, if_pos c']
        show Res _ _ _ _ _ _ _ _ _ _ _ _ _ _ _ _ _ _ (LX n fm' (sI (sI gm' 6 (gIA gc 1 i)) 4 (nI T)) g2 gs gp gc (nI last) (nI p + 1))
        rw [nI_1]
        have sub := ih h5 (by omega) (fr := fr') (fm := fm') hR2 (by omega) (by omega) (by omega)
        have fin : Res n g0 gm0 g2 gs gp gc off last T t (k + 1) (sI g' 93 (nI T)) (sI (sI gm' 6 (gIA gc 1 i)) 4 (nI T)) fr' fm' ((k - (p + 1)) + 1) (L_X12_works n fr' (sI g' 93 (nI T)) (nI (off + last)) (nI (off + (p + 1)))) (LX n fm' (sI (sI gm' 6 (gIA gc 1 i)) 4 (nI T)) g2 gs gp gc (nI last) (nI (p + 1))) := by
          refine Res.next (Nat.le_refl T) sub ?_
          intro g'' gm'' fr'' fm'' f1' f2' hR'' hrow' hv' hi'
          obtain ⟨fr'', rfl⟩ : ∃ f, fr'' = f + 1 := ⟨fr'' - 1, by omega⟩
          obtain ⟨fm'', rfl⟩ : ∃ f, fm'' = f + 1 := ⟨fm'' - 1, by omega⟩
          obtain ⟨s1, s2, s3, s4, s5⟩ := id hR''
          have g14 : gIA g'' 14 (off + k) = 19 := by rw [(s1 14 (by decide)).2.2.2.1]; exact k2
          have e1 : gI gm'' 4 - (1 : Int32) = nI T := by rw [s4]; exact nI_pred T
          have o3 := work_ask3 (n := n) (gm := sI gm'' 6 (gIA gc 1 k)) (by omega) (show off + k < 8000 by omega) s3 (by omega) s4 g14 (by rw [(s1 16 (by decide)).2.2.2.1]; exact k5) a7.2.2.2.2.1 a7.2.1 a7.2.2.1 a7.2.2.2.2.2.2 hv' hi'
          rw [works_done (show off + k < off + last by omega) hl8 g14 (.inr rfl) s3 (by omega), run_ask3 (by omega) (by omega) hl s5 k1 rfl, e1, k3, k4]
          refine res_step hR'' (by omega) (.inr ?_) o3
          rw [done_19 (show off + k < 8000 by omega) s3 (by omega) g14 (by rw [(s1 16 (by decide)).2.2.2.1]; exact k5) a7.2.1 a7.2.2.1]
          rcases a7.2.2.2.2.1 with ⟨rfl, rfl⟩ | ⟨b1, t1⟩
          · have eb : f_X12_become n g'' (gLA g'' 92 T) (nI 0) (nI 0) = some (gLA g'' 92 T, g'') := by unfold f_X12_become; exact if_pos rfl
            rw [bnd_s eb]
            unfold b_X12_done_403
            rw [show gI g'' 93 - (1 : Int32) = nI T by rw [s3]; exact nI_pred T, grd_t (inB_nI (by omega) (by decide))]
            exact ⟨_, rfl⟩
          · obtain ⟨x, gx, gmx, w', d', b1', b2', -⟩ := bec_two (n := n) (g := g'') (t := t) (by omega) (show T < 512 by omega) b1 a7.2.1 t1 a7.2.2.1 a7.2.2.2.2.2.2 rfl rfl hv' hi'
            rw [bnd_s b1']
            unfold b_X12_done_403
            dsimp only
            rw [show gI gx 93 - (1 : Int32) = nI T by rw [b2'.1 93 (by decide) (by decide), s3]; exact nI_pred T, grd_t (inB_nI (by omega) (by decide))]
            exact ⟨_, rfl⟩
        rcases fin with ⟨g3, gm3, fr3, fm3, t1, t2, t3⟩ | fin
        · exact .inl ⟨g3, gm3, fr3, fm3, by omega, by omega, t3⟩
        · exact .inr fin
      · have c' : ¬ gLA (sI gm' 6 (gIA gc 1 i)) 2 T = 0 := c
        rw [if_neg c, if_neg c']
        show Res _ _ _ _ _ _ _ _ _ _ _ _ _ _ _ _ _ _ (LX n fm' (sI (sI gm' 6 (gIA gc 1 i)) 4 (nI T)) g2 gs gp gc (nI last) (nI i + 1))
        rw [nI_1]
        have sub := ih h4 (by omega) (fr := fr') (fm := fm') hR2 (by omega) (by omega) (by omega)
        have fin : Res n g0 gm0 g2 gs gp gc off last T t (k + 1) (sI g' 93 (nI T)) (sI (sI gm' 6 (gIA gc 1 i)) 4 (nI T)) fr' fm' ((p - (i + 1)) + 1) (L_X12_works n fr' (sI g' 93 (nI T)) (nI (off + last)) (nI (off + (i + 1)))) (LX n fm' (sI (sI gm' 6 (gIA gc 1 i)) 4 (nI T)) g2 gs gp gc (nI last) (nI (i + 1))) := by
          refine Res.next (Nat.le_refl T) sub ?_
          intro g'' gm'' fr'' fm'' f1' f2' hR'' hrow' hv' hi'
          obtain ⟨fr'', rfl⟩ : ∃ f, fr'' = f + 1 := ⟨fr'' - 1, by omega⟩
          obtain ⟨fm'', rfl⟩ : ∃ f, fm'' = f + 1 := ⟨fm'' - 1, by omega⟩
          obtain ⟨s1, s2, s3, s4, s5⟩ := id hR''
          have g14 : gIA g'' 14 (off + p) = 18 := by rw [(s1 14 (by decide)).2.2.2.1]; exact p2
          have g15 : gIA g'' 15 (off + p) = nI (off + k + 1) := by rw [(s1 15 (by decide)).2.2.2.1]; exact p4
          have g16 : gIA g'' 16 (off + p) = nI (8 * a + t) := by rw [(s1 16 (by decide)).2.2.2.1]; exact p7
          have both : ∃ x gx gmx w' d', f_X12_become n g'' (gLA g'' 92 T) (nI a) (nI t) = some (x, gx) ∧ Sc g'' gx ∧ f_X1_become (sI gm'' 6 (gIA gc 1 p)) (nI T) (nI a) (nI t) = some gmx ∧ Mr T w' d' (sI gm'' 6 (gIA gc 1 p)) gmx ∧ gI gmx 5 = gI (sI gm'' 6 (gIA gc 1 p)) 5 ∧ VR t x w' d' ∧ VI t x := by
            rcases a7.2.2.2.1 with ⟨rfl, rfl⟩ | ⟨b1, t1⟩
            · have eb : f_X12_become n g'' (gLA g'' 92 T) (nI 0) (nI 0) = some (gLA g'' 92 T, g'') := by unfold f_X12_become; exact if_pos rfl
              exact ⟨_, _, _, _, _, eb, Sc.refl _, bec_same (by omega), Mr.refl, rfl, hv', hi'⟩
            · exact bec_two (n := n) (g := g'') (gm := sI gm'' 6 (gIA gc 1 p)) (t := t) (by omega) (show T < 512 by omega) b1 a7.1 t1 a7.2.2.1 a7.2.2.2.2.2.1 rfl rfl hv' hi'
          obtain ⟨x, gx, gmx, w', d', x1, x2, x3, x4, x5, x6, x7⟩ := both
          rw [works_ask2 (show off + p < off + last by omega) hl8 g14 s3 (by omega) g15 g16 a7.1 a7.2.2.1 x1 x2.2.2.2.1, run_skip (by omega) (by omega) hl s5 p1 (by decide), skip_else (gm := sI gm'' 6 (gIA gc 1 p)) (by omega) s4 (by omega) p3 (by omega) (by omega) p5 p6 x3]
          have e92 : gLA (sLA gx 92 (vp_updL (gLA gx 92) T x)) 92 T = x := pk_uLs
          have eL : gLA gx 92 = gLA g'' 92 := congrFun x2.2.2.2.2.1 92
          refine .inl ⟨_, gmx, fr'', fm'', by omega, by omega, rfl, ?_, ⟨(s1.trans (x2.fr.mono (by decide))).trans (Fr.sLA (by decide) _ _), (s2.trans (Fr.sI (by decide) _ _)).trans (x4.2.2.2.mono (by decide)), ?_, ?_, x5.trans s5⟩, ?_, ?_, ?_⟩
          · show LX n fm'' _ g2 gs gp gc (nI last) (nI k + 1) = _
            rw [nI_1]
          · show gI gx 93 = _
            rw [x2.1 93 (by decide) (by decide)]; exact s3
          · rw [(x4.2.2.2 4 (by decide)).1]; exact s4
          · intro i hi
            refine ⟨?_, (x4.2.2.1 i (by omega)).1, (x4.2.2.1 i (by omega)).2⟩
            show vp_updL (gLA gx 92) T x i = _
            rw [pk_uLn (by omega), eL]
          · rw [e92, x4.1, x4.2.1]; exact x6
          · rw [e92]; exact x7
        rcases fin with ⟨g3, gm3, fr3, fm3, t1, t2, t3⟩ | fin
        · exact .inl ⟨g3, gm3, fr3, fm3, by omega, by omega, t3⟩
        · exact .inr fin
/-- a formula worked out on both sides -/
theorem works_run {n : Nat} {g gm g2 gs gp gc : Gs} {off F j j' t d m many cams : Nat} {srt : Nat → Nat} (hn : 3000 ≤ n) (hTb : Tb g2) (hD : Dyn g gs srt many) (hC : TeR g gp cams) (hl : j' ≤ 840) (hl8 : off + j' ≤ 8000) (h11 : f_X0_beginOf gc (nI F) = some (nI j)) (h12 : f_X0_endOf gc (nI F) = some (nI j')) (h : Ex g gc off srt many cams m j j' t d) (hd : d ≤ 400) :
    (∃ g' gm', f_X12_works n g (nI (off + j)) (nI (off + j')) = some (1, g') ∧ f_X1_run n gm g2 gs gp gc (nI F) = some (1, gm') ∧ Fr [0, 1, 2, 92, 93, 94, 95, 96] g g' ∧ Fr [2, 3, 4, 5, 6] gm gm' ∧ gI gm' 5 = 0 ∧ VR t (gL g' 94) (gLA gm' 2 0) (gDA gm' 3 0) ∧ VI t (gL g' 94)) ∨
    (∃ g' gm', f_X12_works n g (nI (off + j)) (nI (off + j')) = some (0, g') ∧ f_X1_run n gm g2 gs gp gc (nI F) = some (0, gm') ∧ Fr [0, 1, 2, 92, 93, 94, 95, 96] g g' ∧ Fr [2, 3, 4, 5, 6] gm gm' ∧ gI gm' 5 ≠ 0 ∧ gI g' 95 = gI gm' 5 ∧ gI g' 96 = gI gm' 6) := by
  have l1 := Ex.lt h
  have er : f_X1_run n gm g2 gs gp gc (nI F) = LX n n (sI (sI gm 4 0) 5 0) g2 gs gp gc (nI j') (nI j) := by
    unfold f_X1_run LX
    rw [bnd_s h11, bnd_s h12, Nat.sub_self]
    rfl
  rw [er]
  show (∃ g' gm', L_X12_works n n (sI g 93 0) (nI (off + j')) (nI (off + j)) = some (1, g') ∧ _) ∨ (∃ g' gm', L_X12_works n n (sI g 93 0) (nI (off + j')) (nI (off + j)) = some (0, g') ∧ _)
  have hR : RS g gm 0 (sI g 93 0) (sI (sI gm 4 0) 5 0) := ⟨Fr.sI (by decide) _ _, (Fr.sI (by decide) _ _).trans (Fr.sI (by decide) _ _), rfl, rfl, rfl⟩
  rcases run_ex (gp := gp) (gs := gs) hn hTb hD hC hl hl8 h (Nat.le_refl _) (fr := n) (fm := n) hR (by omega) (by omega) (by omega) with ⟨g', gm', fr', fm', h1, h2, h3, h4, ⟨r1, r2, r3, r4, r5⟩, -, h7, h8⟩ | ⟨g', gm', h3, h4, h5⟩
  · left
    obtain ⟨fr', rfl⟩ : ∃ f, fr' = f + 1 := ⟨fr' - 1, by omega⟩
    obtain ⟨fm', rfl⟩ : ∃ f, fm' = f + 1 := ⟨fm' - 1, by omega⟩
    rw [works_end (T := 0) (Nat.le_refl _) (by omega) r3 (by decide)] at h3
    rw [run_end (Nat.le_refl _) (by omega) r5] at h4
    exact ⟨_, _, h3, h4, r1.trans (Fr.sL (by decide) _ _), r2, r5, h7, h8⟩
  · right
    exact ⟨_, _, h3, h4, h5⟩
