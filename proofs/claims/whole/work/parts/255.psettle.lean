/-! settling: all tables -/
theorem Ps.more {g gc : Gs} {srt : Nat → Nat} {many many' K j t : Nat} (h : Ps g gc srt many K j t) (hm : many ≤ many') : Ps g gc srt many' K j t := by
  rcases h with h | h | h | ⟨a1, a2, a, a3, a4⟩ | ⟨a1, a2, a, a3, a4⟩
  · exact .inl h
  · exact .inr (.inl h)
  · exact .inr (.inr (.inl h))
  · exact .inr (.inr (.inr (.inl ⟨a1, a2, a, by omega, a4⟩)))
  · exact .inr (.inr (.inr (.inr ⟨a1, a2, a, by omega, a4⟩)))
theorem Ex.more {g gc : Gs} {off : Nat} {srt : Nat → Nat} {many many' cams : Nat} (hm : many ≤ many') : ∀ {m j j' t d : Nat}, Ex g gc off srt many cams m j j' t d → Ex g gc off srt many' cams m j j' t d := by
  intro m
  induction m with
  | zero => intro j j' t d h; exact h.elim
  | succ m ih =>
    intro j j' t d h
    rcases h with ⟨h1, h2, h3⟩ | ⟨i, s, h1, h2, h3, h4⟩ | ⟨i, k, l, r, d1, d2, h1, h2, h3, h4, h5, h6⟩ | ⟨o, i, k, d1, d2, h1, h2, h3, h4, h5, h6, h7⟩ | ⟨i, p, k, a, b, d1, d2, d3, h1, h2, h3, h4, h5, h6, h7, h8, h9⟩
    · exact .inl ⟨h1, h2, h3.more hm⟩
    · exact .inr (.inl ⟨i, s, h1, ih h2, h3, h4⟩)
    · exact .inr (.inr (.inl ⟨i, k, l, r, d1, d2, h1, h2, ih h3, ih h4, h5, h6⟩))
    · exact .inr (.inr (.inr (.inl ⟨o, i, k, d1, d2, h1, h2, h3, ih h4, h5, ih h6, h7⟩)))
    · exact .inr (.inr (.inr (.inr ⟨i, p, k, a, b, d1, d2, d3, h1, h2, ih h3, h4, ih h5, h6, ih h7, h8, h9⟩)))
theorem Fo.more {g gc : Gs} {srt : Nat → Nat} {many many' cams F j j' t : Nat} (h : Fo g gc srt many cams F j j' t) (hm : many ≤ many') : Fo g gc srt many' cams F j j' t := by
  obtain ⟨h1, h2, h3, h4, h5, m, d, h6, h7⟩ := h
  exact ⟨h1, h2, h3, h4, h5, m, d, h6.more hm, h7⟩
theorem Kn.cast {g gy gx : Gs} {r t : Nat} (h : Kn g gx r t) (e1 : ta gy = ta g) (e2 : te gy = te g) (e5 : gIA gy 5 = gIA g 5) : Kn gy gx r t := by
  unfold Kn at *
  rw [e1, e2, e5]; exact h
theorem Rn.fr {X : List Nat} {T k c : Nat} {g g' : Gs} (h : Rn T g k c) (hf : Fr X g g') (hX : nTk X) (hk : k ∉ X) : Rn T g' k c := by
  intro i hi
  obtain ⟨r1, r2, r3⟩ := h i hi
  have e : rtk g' k i = rtk g k i := by unfold rtk; rw [(hf k hk).2.2.2.1]
  rw [e, (tok_same hf hX).1, (hf k hk).2.2.2.1]
  exact ⟨r1, r2, r3⟩
theorem rtk_fr {X : List Nat} {g g' : Gs} (hf : Fr X g g') {k : Nat} (hk : k ∉ X) : rtk g' k = rtk g k := by
  funext i; unfold rtk; rw [(hf k hk).2.2.2.1]
abbrev setX : List Nat := [14, 15, 16, 17, 18, 60, 61, 62, 63, 64, 65, 66, 67, 68, 69, 70, 71, 72, 73, 74, 75, 76, 77, 78, 79, 83, 84, 85, 86, 87, 88]
/-- all tables of a plan that is settled -/
def Tabs (g gG : Gs) (th be ca A : Nat) (tn cm cs : Nat → Nat) : Prop :=
  (gI gG 60 = nI th ∧ gI gG 61 = nI be ∧ gI gG 62 = nI ca ∧ gI gG 63 = gI g 24 ∧ gI gG 64 = gI g 64 + 1 ∧ gI gG 77 = nI (th + be) ∧ gL gG 87 = 0 ∧ gI gG 88 = 0) ∧
  (∀ i, i < A → Cp g gG i) ∧ (∀ q, q < th + be → Sn gG tn q) ∧
  (∀ i, i < th → Kn g gG i (rtk g 37 i) ∧ gIA gG 67 i = gIA g 38 i ∧ gIA gG 68 i = vp_nar .boolean (gIA g 39 i) ∧ gIA gG 69 i = gIA g 40 i - 2000 ∧ gIA gG 70 i = gIA g 41 i - 2000 ∧ gIA gG 71 i = gIA g 42 i - 2000 ∧ gIA gG 72 i = gIA g 46 i ∧ gIA gG 73 i = gIA g 47 i) ∧
  (∀ b, b < be → Kn g gG (40 + b) (rtk g 48 b) ∧ gIA gG 74 b = gIA g 49 b - 2000 ∧ gIA gG 75 b = gIA g 50 b - 2000 ∧ gIA gG 86 b = 0) ∧
  (∀ c, c < ca → Kn g gG (52 + c) (rtk g 53 c) ∧ gIA gG 78 c = nI (cm c) ∧ ∀ q, q < cm c → gLA gG 79 (24 * c + q) = gLA g 56 (cs c + q)) ∧
  (∀ r, r < 52 → gIA gG 83 r = 0 ∧ gIA gG 84 r = 0 ∧ gIA gG 85 r = -1)
theorem settle_front {n L T th be ca f A M : Nat} {g2 g gp gc : Gs} {B : Nat → Nat} {FA tn fn rkk cm cs : Nat → Nat} (hn : 20000 ≤ n) (hS : ScR n g2 L B g T) (hL : L ≤ 3000) (hb : ∀ p, p < L → byt (gIA g 5 p)) (hth : th ≤ 40) (hbe : be ≤ 12) (hca : ca ≤ 8) (hM : M ≤ 3000) (hA : A ≤ 840) (h19 : gI g 19 = nI (2000 + A)) (h33 : gI g 33 = nI th) (h34 : gI g 34 = nI be) (h35 : gI g 35 = nI ca) (hR : Rn T g 37 th) (hRb : Rn T g 48 be) (hRc : Rn T g 53 ca) (hC : ∀ c, c < ca → gIA g 54 c = nI (cs c) ∧ gIA g 55 c = nI (cm c) ∧ cm c ≤ 24 ∧ cs c + cm c ≤ 1600) (hI : PI g gp gc th be f FA M tn fn rkk) : ∃ gG fr, 100 ≤ fr ∧ f_X12_settle n g = (L_X12_settle n fr).2.2.2.2.2.1 gG 0 ∧ Fr setX g gG ∧ Tabs g gG th be ca A tn cm cs := by
  obtain ⟨g1, a1, a2, a3⟩ := front_loop (n := n) (g := g) hA A n 0 g (by omega) (by omega) (Fr.refl _ _) (fun q _ => ⟨rfl, rfl, rfl, rfl, rfl⟩) (fun i hi => by omega)
  obtain ⟨gC, hgC⟩ : ∃ x, x = sI (sI (sI (sI (sI (sI g1 60 (gI g 33)) 61 (gI g 34)) 62 (gI g 35)) 63 (gI g 24)) 64 (gI g 64 + 1)) 77 0 := ⟨_, rfl⟩
  rw [← hgC] at a1
  have fC : Fr [14, 15, 16, 17, 18, 60, 61, 62, 63, 64, 77] g gC := by
    rw [hgC]
    exact (((((((a2.mono (by decide)).trans (Fr.sI (by decide) _ _)).trans (Fr.sI (by decide) _ _)).trans (Fr.sI (by decide) _ _)).trans (Fr.sI (by decide) _ _)).trans (Fr.sI (by decide) _ _)).trans (Fr.sI (by decide) _ _))
  have cp1 : ∀ i, i < A → Cp g gC i := by rw [hgC]; exact a3
  have c60 : gI gC 60 = nI th := by rw [hgC]; exact h33
  have c61 : gI gC 61 = nI be := by rw [hgC]; exact h34
  have c62 : gI gC 62 = nI ca := by rw [hgC]; exact h35
  have c63 : gI gC 63 = gI g 24 := by rw [hgC]; rfl
  have c64 : gI gC 64 = gI g 64 + 1 := by rw [hgC]; rfl
  have c77 : gI gC 77 = nI 0 := by rw [hgC]; rfl
  clear hgC
  have xC : nTk [14, 15, 16, 17, 18, 60, 61, 62, 63, 64, 77] := by decide
  obtain ⟨ek, ea, ee, _, _⟩ := tok_same fC xC
  have c5 : gIA gC 5 = gIA g 5 := (fC 5 (by decide)).2.2.2.1
  have t00 := hI.1.1
  have hIC := hI.same fC (Fr.refl [] gc) (by decide) (by decide)
  obtain ⟨gD, fr1, b1, b2, b3, b4, b5, b6⟩ := items_loop hn (hS.base fC xC) hL (by rw [c5]; exact hb) hth hbe hM (by rw [(fC 34 (by decide)).1]; exact h34) c60 (hR.fr fC xC (by decide)) hIC (th + be) 0 (n - A - 2) gC (by omega) (by omega) (Fr.refl _ _) c77 (fun q hq => by omega) (fun i hi => by omega)
  rw [t00] at b2
  have e1 : f_X12_settle n g = (L_X12_settle n fr1).2.2.1 gD 0 := by
    rw [← b2]
    unfold f_X12_settle
    rw [h19, show nI (2000 + A) - 2000 = nI A from (nI_sub (a := 2000 + A) (b := 2000) (by omega)).trans (by rw [show 2000 + A - 2000 = A by omega])]
    refine a1.trans ?_
    obtain ⟨m, hm⟩ : ∃ m, n - A - 1 = m + 1 := ⟨n - A - 2, by omega⟩
    rw [hm, show n - A - 2 = m by omega]
    show h_X12_settle_208 n (L_X12_settle n m) gC 0 0 = _
    unfold h_X12_settle_208
    rw [c60, if_neg (show ¬ nI th < (0 : Int32) from (nI_nlt (Nat.zero_le th) (by omega) : ¬ nI th < nI 0))]
    rfl
  have xD : nTk itX := by decide
  obtain ⟨ek2, ea2, ee2, _, _⟩ := tok_same b3 xD
  have fD : Fr setX g gD := (fC.mono (by decide)).trans (b3.mono (by decide))
  have d5 : gIA gD 5 = gIA g 5 := (fD 5 (by decide)).2.2.2.1
  have hXs : nTk setX := by decide
  have r48 : rtk gD 48 = rtk g 48 := rtk_fr fD (by decide)
  obtain ⟨gE, p1, p2, p3, p4, p5⟩ := bells_loop (n := n) (A := A) (tb := rtk g 48) hn (hS.base fD hXs) hL (by rw [d5]; exact hb) hbe (by rw [(fD 34 (by decide)).1]; exact h34) (fun b hb => by rw [← r48]; exact hRb.fr fD hXs (by decide) b hb) be fr1 0 gD (by omega) (by omega) (Fr.refl _ _) (fun _ _ => rfl) (fun _ _ => rfl) (fun i hi => by omega)
  have fE : Fr setX g gE := fD.trans (p2.mono (by decide))
  have e5 : gIA gE 5 = gIA g 5 := (fE 5 (by decide)).2.2.2.1
  have r53 : rtk gE 53 = rtk g 53 := rtk_fr fE (by decide)
  obtain ⟨gF, fr2, q1, q2, q3, q4, q5, q6⟩ := cams_loop (n := n) (tc := rtk g 53) (cm := cm) (cs := cs) hn (hS.base fE hXs) hL (by rw [e5]; exact hb) hca (by rw [(fE 35 (by decide)).1]; exact h35) (fun c hc => by rw [← r53]; exact hRc.fr fE hXs (by decide) c hc) (fun c hc => by rw [(fE 54 (by decide)).2.2.2.1, (fE 55 (by decide)).2.2.2.1]; exact hC c hc) ca (fr1 - be - 1) 0 gE (by omega) (by omega) (Fr.refl _ _) (fun _ _ => rfl) (fun _ _ => rfl) (fun i hi => by omega)
  obtain ⟨gG, s1, s2, s3⟩ := clear_loop (n := n) 52 fr2 0 (sI (sL gF 87 0) 88 0) (by omega) (by omega) (Fr.refl _ _) (fun i hi => by omega)
  have fF : Fr [65, 66, 78, 79, 83, 84, 85, 87, 88] gE gG := (((q3.mono (by decide)).trans (Fr.sL (by decide) _ _)).trans (Fr.sI (by decide) _ _)).trans (s2.mono (by decide))
  have fG : Fr setX g gG := fE.trans (fF.mono (by decide))
  refine ⟨gG, fr2 - 52 - 1, by omega, e1.trans (p1.trans (q2.trans s1)), fG, ?_⟩
  have fCG : ∀ k, k ∉ [65, 66, 67, 68, 69, 70, 71, 72, 73, 76, 77, 74, 75, 86, 78, 79, 83, 84, 85, 87, 88] → gI gG k = gI gC k ∧ gIA gG k = gIA gC k ∧ gLA gG k = gLA gC k := fun k hk => by
    have f : Fr [65, 66, 67, 68, 69, 70, 71, 72, 73, 76, 77, 74, 75, 86, 78, 79, 83, 84, 85, 87, 88] gC gG := ((b3.mono (by decide)).trans (p2.mono (by decide))).trans (fF.mono (by decide))
    exact ⟨(f k hk).1, (f k hk).2.2.2.1, (f k hk).2.2.2.2.1⟩
  have fDG : Fr [65, 66, 74, 75, 86, 78, 79, 83, 84, 85, 87, 88] gD gG := (p2.mono (by decide)).trans (fF.mono (by decide))
  have g65 : gIA gG 65 = gIA gF 65 := (s2 65 (by decide)).2.2.2.1
  have g66 : gIA gG 66 = gIA gF 66 := (s2 66 (by decide)).2.2.2.1
  refine ⟨⟨?_, ?_, ?_, ?_, ?_, ?_, ?_, ?_⟩, fun i hi => ?_, fun q hq => ?_, fun i hi => ?_, fun b hb => ?_, fun c hc => ?_, s3⟩
  · rw [(fCG 60 (by decide)).1]; exact c60
  · rw [(fCG 61 (by decide)).1]; exact c61
  · rw [(fCG 62 (by decide)).1]; exact c62
  · rw [(fCG 63 (by decide)).1]; exact c63
  · rw [(fCG 64 (by decide)).1]; exact c64
  · rw [(fDG 77 (by decide)).1]; exact b4
  · rw [(s2 87 (by decide)).2.1]; rfl
  · rw [(s2 88 (by decide)).1]; rfl
  · have := cp1 i hi
    unfold Cp at *
    rw [(fCG 14 (by decide)).2.1, (fCG 15 (by decide)).2.1, (fCG 16 (by decide)).2.1, (fCG 17 (by decide)).2.1, (fCG 18 (by decide)).2.2]
    exact this
  · have := b5 q hq
    unfold Sn at *
    rw [(fDG 76 (by decide)).2.2.2.1]
    exact this
  · obtain ⟨y1, y2, y3, y4, y5, y6, y7, y8⟩ := b6 i hi
    rw [rtk_fr fC (show 37 ∉ _ by decide)] at y1
    obtain ⟨t1, t2, t3⟩ := hR i hi
    have k1 := y1.cast (gy := g) ea.symm ee.symm c5.symm
    refine ⟨k1.keep (len10 hS t2 t3).1 ?_ (fun q hq => ?_), ?_, ?_, ?_, ?_, ?_, ?_, ?_⟩
    · rw [g66, q4 i (by omega)]; exact p3 i (by omega)
    · rw [g65, q5 (10 * i + q) (by omega)]; exact p4 (10 * i + q) (by omega)
    · rw [(fDG 67 (by decide)).2.2.2.1, y2, (fC 38 (by decide)).2.2.2.1]
    · rw [(fDG 68 (by decide)).2.2.2.1, y3, (fC 39 (by decide)).2.2.2.1]
    · rw [(fDG 69 (by decide)).2.2.2.1, y4, (fC 40 (by decide)).2.2.2.1]
    · rw [(fDG 70 (by decide)).2.2.2.1, y5, (fC 41 (by decide)).2.2.2.1]
    · rw [(fDG 71 (by decide)).2.2.2.1, y6, (fC 42 (by decide)).2.2.2.1]
    · rw [(fDG 72 (by decide)).2.2.2.1, y7, (fC 46 (by decide)).2.2.2.1]
    · rw [(fDG 73 (by decide)).2.2.2.1, y8, (fC 47 (by decide)).2.2.2.1]
  · obtain ⟨y1, y2, y3, y4⟩ := p5 b hb
    obtain ⟨t1, t2, t3⟩ := hRb b hb
    obtain ⟨_, ea3, ee3, _, _⟩ := tok_same fD hXs
    have k1 := y1.cast (gy := g) ea3.symm ee3.symm d5.symm
    refine ⟨k1.keep (len10 hS t2 t3).1 ?_ (fun q hq => ?_), ?_, ?_, ?_⟩
    · rw [g66]; exact q4 (40 + b) (by omega)
    · rw [g65]; exact q5 (10 * (40 + b) + q) (by omega)
    · rw [(fF 74 (by decide)).2.2.2.1, y2, (fD 49 (by decide)).2.2.2.1]
    · rw [(fF 75 (by decide)).2.2.2.1, y3, (fD 50 (by decide)).2.2.2.1]
    · rw [(fF 86 (by decide)).2.2.2.1, y4]
  · obtain ⟨y1, y2, y3⟩ := q6 c hc
    obtain ⟨_, ea3, ee3, _, _⟩ := tok_same fE hXs
    have k1 := y1.cast (gy := g) ea3.symm ee3.symm e5.symm
    refine ⟨⟨by rw [g66]; exact k1.1, by rw [g65]; exact k1.2⟩, ?_, fun q hq => ?_⟩
    · rw [(s2 78 (by decide)).2.2.2.1]; exact y2
    · rw [(s2 79 (by decide)).2.2.2.2.1]
      refine (y3 q hq).trans ?_
      rw [(fE 56 (by decide)).2.2.2.2.1]
