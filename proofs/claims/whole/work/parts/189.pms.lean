/-! parsing: both sides at the same place -/
def upE (E : Nat → Nat × Nat × Nat) (A : Nat) (q : Nat × Nat × Nat) : Nat → Nat × Nat × Nat := fun i => if i = A then q else E i
theorem upE_s (E : Nat → Nat × Nat × Nat) (A : Nat) (q : Nat × Nat × Nat) : upE E A q A = q := if_pos rfl
theorem upE_n {E : Nat → Nat × Nat × Nat} {A i : Nat} {q : Nat × Nat × Nat} (h : i ≠ A) : upE E A q i = E i := if_neg h
def RfS (G g : Gs) (j d N A M : Nat) (E : Nat → Nat × Nat × Nat) : Prop := Fr parA G g ∧ gI g 20 = nI j ∧ gI g 25 = nI d ∧ gI g 24 = nI N ∧ gI g 19 = nI (2000 + A) ∧ gI g 27 = nI M ∧ ∀ i, i < A → RE G g i (E i)
def CS (G gr gc : Gs) (hP h d N A : Nat) (E : Nat → Nat × Nat × Nat) : Prop := gI gr 8 = nI h ∧ gI gr 9 = nI d ∧ gR gr 15 = some hP ∧ gI gc 9 = nI N ∧ (gI gr 16 = -1 ↔ gI gc 10 = 0) ∧ (gI gc 10 = 0 → N ≤ 500 ∧ gI gc 8 = nI A ∧ ∀ i, i < A → CE G gc i (E i))
def Tm (g gr : Gs) : Prop := gI g 23 = gI gr 16 ∧ (gI g 23 = -1 ∨ ¬ gI g 23 < 0)
def MS (n hP L T : Nat) (g2 G gt : Gs) (B : Nat → Nat) (g gr gs gc : Gs) (j h d N A M : Nat) (E : Nat → Nat × Nat × Nat) : Prop := RfS G g j d N A M E ∧ CS G gr gc hP h d N A E ∧ Tm g gr ∧ TokAt L B G gt j gs ∧ j < T ∧ d ≤ 40 ∧ h ≤ 300 ∧ N ≤ j ∧ 3 * A ≤ 5 * N ∧ M ≤ j
theorem RfS.fr {G g g' : Gs} {j d N A M : Nat} {E : Nat → Nat × Nat × Nat} {X : List Nat} {j' d' N' : Nat} (h : RfS G g j d N A M E) (hf : Fr X g g') (hX : 14 ∉ X ∧ 15 ∉ X ∧ 17 ∉ X ∧ 18 ∉ X ∧ 19 ∉ X ∧ 27 ∉ X) (hp : ∀ k, k ∈ X → k ∈ parA) (h20 : gI g' 20 = nI j') (h25 : gI g' 25 = nI d') (h24 : gI g' 24 = nI N') : RfS G g' j' d' N' A M E := by
  obtain ⟨a1, a2, a3, a4, a5, a6, a7⟩ := h
  exact ⟨a1.trans (hf.mono hp), h20, h25, h24, by rw [(hf 19 hX.2.2.2.2.1).1]; exact a5, by rw [(hf 27 hX.2.2.2.2.2).1]; exact a6, fun i hi => (a7 i hi).fr hf ⟨hX.1, hX.2.1, hX.2.2.1, hX.2.2.2.1⟩⟩
theorem node_both {n L T : Nat} {g2 G : Gs} {B : Nat → Nat} {hP : Nat} {g gr gc : Gs} {j h d d' N A M p : Nat} {E : Nat → Nat × Nat × Nat} (hS : ScR n g2 L B G T) (hR : RfS G g j d N A M E) (hC : CS G gr gc hP h d' N A E) (ht : Tm g gr) (hL : L ≤ 3000) (hp : p < T) (hN : N ≤ 3001) : ∃ g' gr' gc', f_X12_node g (nI p) = some g' ∧ f_X5_countNode hP gr gc (nI (ta G p)) = some (gr', gc') ∧ RfS G g' j d (N + 1) A M E ∧ CS G gr' gc' hP h d' (N + 1) A E ∧ Tm g' gr' ∧ Fr [23, 24] g g' ∧ Fr [16] gr gr' ∧ Fr [9, 10] gc gc' ∧ (gI gc' 10 = 0 → gI gc 10 = 0) := by
  obtain ⟨r1, r2, r3, r4, r5, r6, r7⟩ := id hR
  obtain ⟨c1, c2, c3, c4, c5, c6⟩ := hC
  obtain ⟨t1, t2⟩ := ht
  have e1 := node12 hS r1 hp r4 (by omega)
  have e2 := count7 (p := nI (ta G p)) c3 c4 (by omega)
  by_cases hlt : N < 500
  · rw [if_neg (fun z => by omega)] at e1
    rw [if_pos hlt] at e2
    refine ⟨_, _, _, e1, e2, hR.fr (X := [24]) (Fr.sI (by decide) _ _) (by decide) (by decide) r2 r3 rfl, ⟨c1, c2, c3, rfl, c5, fun h10 => ?_⟩, ⟨t1, t2⟩, Fr.sI (by decide) _ _, Fr.refl _ _, Fr.sI (by decide) _ _, id⟩
    obtain ⟨o1, o2, o3⟩ := c6 h10
    exact ⟨by omega, o2, fun i hi => (o3 i hi).fr (A := [9]) (Fr.sI (by decide) _ _) (by decide)⟩
  · rw [if_neg hlt] at e2
    unfold shutC at e2
    by_cases h16 : gI gr 16 = -1
    · rw [if_pos h16] at e2
      have hN5 : N = 500 := by have := (c6 (c5.mp h16)).1; omega
      rw [if_pos ⟨hN5, by rw [t1, h16]; decide⟩] at e1
      have hta : ta G p < 2 ^ 31 := by have := (hS.tok hp).2.2.2.2; omega
      refine ⟨_, _, _, e1, e2, hR.fr (X := [23, 24]) ((Fr.sI (by decide) _ _).trans (Fr.sI (by decide) _ _)) (by decide) (by decide) r2 r3 rfl, ⟨c1, c2, c3, rfl, ⟨fun z => absurd (show nI (ta G p) = -1 from z) (nI_ne_m1 hta), fun z => absurd (show (1 : Int32) = 0 from z) (by decide)⟩, fun z => absurd (show (1 : Int32) = 0 from z) (by decide)⟩, ⟨rfl, .inr (fun z => nI_pos hta z)⟩, (Fr.sI (by decide) _ _).trans (Fr.sI (by decide) _ _), Fr.sI (by decide) _ _, (Fr.sI (by decide) _ _).trans (Fr.sI (by decide) _ _), fun z => absurd (show (1 : Int32) = 0 from z) (by decide)⟩
    · rw [if_neg h16] at e2
      have hn0 : ¬ gI g 23 < 0 := by
        rcases t2 with z | z
        · rw [t1] at z; exact absurd z h16
        · exact z
      rw [if_neg (fun z => hn0 z.2)] at e1
      have hsh : ¬ gI gc 10 = 0 := fun z => h16 (c5.mpr z)
      exact ⟨_, _, _, e1, e2, hR.fr (X := [24]) (Fr.sI (by decide) _ _) (by decide) (by decide) r2 r3 rfl, ⟨c1, c2, c3, rfl, c5, fun z => absurd z hsh⟩, ⟨t1, t2⟩, Fr.sI (by decide) _ _, Fr.refl _ _, Fr.sI (by decide) _ _, id⟩
/-! entries -/
theorem RfS.act {G g : Gs} {j d N A M : Nat} {E : Nat → Nat × Nat × Nat} {o a p : Int32} {q : Nat × Nat × Nat} (h : RfS G g j d N A M E) (hA : A < 6000) (hq : RE G (actG g A o a p) A q) : f_X12_act g o a p = some (nI (2000 + A), actG g A o a p) ∧ RfS G (actG g A o a p) j d N (A + 1) M (upE E A q) := by
  obtain ⟨a1, a2, a3, a4, a5, a6, a7⟩ := h
  refine ⟨act12 a5 hA, a1.trans ((actG_fr _ _ _ _ _).mono (by decide)), a2, a3, a4, ?_, a6, fun i hi => ?_⟩
  · show nI (2000 + A + 1) = _; rw [show 2000 + A + 1 = 2000 + (A + 1) by omega]
  · by_cases hiA : i = A
    · rw [hiA, upE_s]; exact hq
    · rw [upE_n hiA]; exact (a7 i (by omega)).act hiA
theorem re_T {G g : Gs} {i K p x : Nat} (hK : opT K) (hk : kc (tk G p) = K) (hks : tk G p ∈ KS) (h14 : gIA g 14 (2000 + i) = nI (ro K)) (h15 : gIA g 15 (2000 + i) = nI (tk G p)) (h17 : gIA g 17 (2000 + i) = nI (ta G p)) : RE G g i (K, p, x) := by
  unfold opT at hK
  refine ⟨h14, h17, fun z => ?_, fun _ => ⟨h15, hk, hks⟩, fun z => ?_, fun z => ?_, fun z => ?_⟩
  · have z : K = 3 := z; omega
  · have z : K = 66 := z; omega
  · have z : 67 ≤ K ∧ K ≤ 70 := z; omega
  · have z : K = 44 := z; omega
/-- entries without more: names, ticks, step, - ! && || -/
def opP (K : Nat) : Prop := K = 63 ∨ K = 16 ∨ K = 64 ∨ K = 18 ∨ K = 17 ∨ K = 65 ∨ K = 54 ∨ K = 61 ∨ K = 62
theorem re_P {G g : Gs} {i K p x : Nat} (hK : opP K) (h14 : gIA g 14 (2000 + i) = nI (ro K)) (h17 : gIA g 17 (2000 + i) = nI (ta G p)) : RE G g i (K, p, x) := by
  unfold opP at hK
  refine ⟨h14, h17, fun z => ?_, fun z => ?_, fun z => ?_, fun z => ?_, fun z => ?_⟩
  · have z : K = 3 := z; omega
  · have z : (19 ≤ K ∧ K ≤ 25) ∨ (49 ≤ K ∧ K ≤ 53) ∨ (55 ≤ K ∧ K ≤ 60) := z; omega
  · have z : K = 66 := z; omega
  · have z : 67 ≤ K ∧ K ≤ 70 := z; omega
  · have z : K = 44 := z; omega
theorem re_J {G g : Gs} {i K p x : Nat} (hK : opJ K) (h14 : gIA g 14 (2000 + i) = nI (ro K)) (h17 : gIA g 17 (2000 + i) = nI (ta G p)) (h15 : x ≠ 9999 → gIA g 15 (2000 + i) = nI (2000 + x + 1)) : RE G g i (K, p, x) := by
  unfold opJ at hK
  refine ⟨h14, h17, fun z => ?_, fun z => ?_, fun z => ?_, fun _ => h15, fun z => ?_⟩
  · have z : K = 3 := z; omega
  · have z : (19 ≤ K ∧ K ≤ 25) ∨ (49 ≤ K ∧ K ≤ 53) ∨ (55 ≤ K ∧ K ≤ 60) := z; omega
  · have z : K = 66 := z; omega
  · have z : K = 44 := z; omega
theorem re_C {G g : Gs} {i p x : Nat} (hx : x ≤ 7) (h14 : gIA g 14 (2000 + i) = nI 9) (h17 : gIA g 17 (2000 + i) = nI (ta G p)) (h15 : gIA g 15 (2000 + i) = nI x) : RE G g i (66, p, x) := by
  refine ⟨h14, h17, fun z => ?_, fun z => ?_, fun _ => ⟨h15, hx⟩, fun z => ?_, fun z => ?_⟩
  · exact absurd z (show ¬ (66 : Nat) = 3 by decide)
  · have z : (19 ≤ 66 ∧ 66 ≤ 25) ∨ (49 ≤ 66 ∧ 66 ≤ 53) ∨ (55 ≤ 66 ∧ 66 ≤ 60) := z; omega
  · have z : 67 ≤ 66 ∧ 66 ≤ 70 := z; omega
  · exact absurd z (show ¬ (66 : Nat) = 44 by decide)
theorem re_Q {G g : Gs} {i p x : Nat} (h14 : gIA g 14 (2000 + i) = nI 19) (h17 : gIA g 17 (2000 + i) = nI (ta G p)) (h15 : gIA g 15 (2000 + i) = nI (2000 + x)) : RE G g i (44, p, x) := by
  refine ⟨h14, h17, fun z => ?_, fun z => ?_, fun z => ?_, fun z => ?_, fun _ => h15⟩
  · exact absurd z (show ¬ (44 : Nat) = 3 by decide)
  · have z : (19 ≤ 44 ∧ 44 ≤ 25) ∨ (49 ≤ 44 ∧ 44 ≤ 53) ∨ (55 ≤ 44 ∧ 44 ≤ 60) := z; omega
  · exact absurd z (show ¬ (44 : Nat) = 66 by decide)
  · have z : 67 ≤ 44 ∧ 44 ≤ 70 := z; omega
/-- a jump is told -/
theorem RfS.patch {G g : Gs} {j d N A M m o p x : Nat} {E : Nat → Nat × Nat × Nat} (h : RfS G g j d N A M E) (hm : m < A) (hE : E m = (o, p, 9999)) (ho : opJ o) : RfS G (sIA g 15 (upd (gIA g 15) (2000 + m) (nI (2000 + x + 1)))) j d N A M (upE E m (o, p, x)) := by
  obtain ⟨a1, a2, a3, a4, a5, a6, a7⟩ := h
  refine ⟨a1.trans (Fr.sIA (by decide) _ _), a2, a3, a4, a5, a6, fun i hi => ?_⟩
  by_cases him : i = m
  · rw [him, upE_s]
    have := a7 m hm
    rw [hE] at this
    exact re_J ho this.1 this.2.1 (fun _ => by show upd (gIA g 15) (2000 + m) _ (2000 + m) = _; rw [pk_us])
  · rw [upE_n him]
    refine (a7 i hi).keep rfl ?_ rfl rfl
    show upd (gIA g 15) (2000 + m) _ (2000 + i) = _
    rw [pk_un (by omega)]
/-! the class's entries -/
theorem CS.put {G gr gc gc' : Gs} {hP h d N A : Nat} {E : Nat → Nat × Nat × Nat} {q : Nat × Nat × Nat} (hC : CS G gr gc hP h d N A E) (h9 : gI gc' 9 = gI gc 9) (h10 : gI gc' 10 = gI gc 10) (ho : gI gc 10 = 0 → gI gc' 8 = nI (A + 1) ∧ (∀ i, i < A → CE G gc' i (E i)) ∧ CE G gc' A q) : CS G gr gc' hP h d N (A + 1) (upE E A q) := by
  obtain ⟨c1, c2, c3, c4, c5, c6⟩ := hC
  refine ⟨c1, c2, c3, by rw [h9]; exact c4, by rw [h10]; exact c5, fun z => ?_⟩
  rw [h10] at z
  obtain ⟨o1, o2, o3⟩ := ho z
  refine ⟨(c6 z).1, o1, fun i hi => ?_⟩
  by_cases hiA : i = A
  · rw [hiA, upE_s]; exact o3
  · rw [upE_n hiA]; exact o2 i (by omega)
/-- other readers with the same height and nest -/
theorem CS.rd {G gr gr' gc : Gs} {hP h d N A h' d' : Nat} {E : Nat → Nat × Nat × Nat} (hC : CS G gr gc hP h d N A E) (h8 : gI gr' 8 = nI h') (h9 : gI gr' 9 = nI d') (h15 : gR gr' 15 = gR gr 15) (h16 : gI gr' 16 = gI gr 16) : CS G gr' gc hP h' d' N A E := by
  obtain ⟨c1, c2, c3, c4, c5, c6⟩ := hC
  exact ⟨h8, h9, by rw [h15]; exact c3, c4, by rw [h16]; exact c5, c6⟩
theorem CS.room {G gr gc : Gs} {hP h d N A : Nat} {E : Nat → Nat × Nat × Nat} (hC : CS G gr gc hP h d N A E) (hb : 3 * A ≤ 5 * N) (h10 : gI gc 10 = 0) : A < 840 ∧ gI gc 8 = nI A := by
  obtain ⟨o1, o2, _⟩ := hC.2.2.2.2.2 h10
  exact ⟨by omega, o2⟩
/-- entries without more of the class -/
theorem ce_P {G gc : Gs} {i K p x : Nat} (n3 : K ≠ 3) (n66 : K ≠ 66) (nN : ¬ opN K) (nJ : opJ K → x = 9999) (n44 : K ≠ 44) (h0 : gIA gc 0 i = nI K) (h1 : gIA gc 1 i = nI (ta G p)) : CE G gc i (K, p, x) := by
  refine ⟨h0, h1, fun z => absurd z n3, fun z => absurd z n66, fun z => absurd z nN, fun z y => absurd (nJ z) y, fun z => absurd z n44⟩
theorem add_both {G gr gc : Gs} {hP h d N A K p x : Nat} {E : Nat → Nat × Nat × Nat} (hC : CS G gr gc hP h d N A E) (hb : 3 * A ≤ 5 * N) (n3 : K ≠ 3) (n66 : K ≠ 66) (nN : ¬ opN K) (nJ : opJ K → x = 9999) (n44 : K ≠ 44) : ∃ v gc', f_X0_add gc (nI K) (nI (ta G p)) = some (v, gc') ∧ (gI gc 10 = 0 → v = nI A) ∧ CS G gr gc' hP h d N (A + 1) (upE E A (K, p, x)) ∧ Fr [0, 1, 2, 3, 4, 5, 6, 7, 8] gc gc' := by
  by_cases h10 : gI gc 10 = 0
  · obtain ⟨r1, r2⟩ := hC.room hb h10
    refine ⟨_, _, add_open h10 r2 r1, fun _ => rfl, hC.put rfl rfl fun _ => ⟨rfl, fun i hi => ((hC.2.2.2.2.2 h10).2.2 i hi).add (by omega), ?_⟩, addG_fr _ _ _ _⟩
    obtain ⟨q1, q2, _⟩ := addG_at gc A (nI K) (nI (ta G p))
    exact ce_P n3 n66 nN nJ n44 q1 q2
  · exact ⟨_, _, add_shut h10, fun z => absurd z h10, hC.put rfl rfl fun z => absurd z h10, Fr.refl _ _⟩
/-- an entry with a NAME -/
theorem named_both {G gr gc : Gs} {hP h d N A K p x : Nat} {E : Nat → Nat × Nat × Nat} (hC : CS G gr gc hP h d N A E) (hb : 3 * A ≤ 5 * N) (hK : opN K) (hx : tk G x = 2) : ∃ gc', f_X5_addNamed hP gr gc (nI K) (nI (ta G p)) (nI (ta G x)) (nI (te G x - ta G x)) = some gc' ∧ CS G gr gc' hP h d N (A + 1) (upE E A (K, p, x)) ∧ Fr [0, 1, 2, 3, 4, 5, 6, 7, 8] gc gc' := by
  by_cases h10 : gI gc 10 = 0
  · obtain ⟨r1, r2⟩ := hC.room hb h10
    refine ⟨_, addNamed7_open hC.2.2.1 h10 r2 r1, hC.put rfl rfl fun _ => ⟨rfl, fun i hi => ?_, ?_⟩, ((addG_fr _ _ _ _).trans (Fr.sIA (by decide) _ _)).trans (Fr.sIA (by decide) _ _)⟩
    · refine (((hC.2.2.2.2.2 h10).2.2 i hi).add (N := A) (o := nI K) (p := nI (ta G p)) (by omega)).keep rfl rfl rfl ?_ ?_ rfl rfl
      · show upd _ A _ i = _; rw [pk_un (by omega)]
      · show upd _ A _ i = _; rw [pk_un (by omega)]
    · obtain ⟨q1, q2, _⟩ := addG_at gc A (nI K) (nI (ta G p))
      unfold opN at hK
      refine ⟨q1, q2, fun z => ?_, fun z => ?_, fun _ => ⟨?_, ?_, hx⟩, fun z => ?_, fun z => ?_⟩
      · have z : K = 3 := z; omega
      · have z : K = 66 := z; omega
      · show upd _ A _ A = _; rw [pk_us]
      · show upd _ A _ A = _; rw [pk_us]
      · have z : 67 ≤ K ∧ K ≤ 70 := z; omega
      · have z : K = 44 := z; omega
  · exact ⟨_, addNamed7_shut hC.2.2.1 h10, hC.put rfl rfl fun z => absurd z h10, Fr.refl _ _⟩
/-! closing -/
def dl (o : Nat) : Nat := if o = 65 ∨ o = 54 ∨ o = 66 ∨ o = 70 then 1 else 0
theorem pop1_eq {hP h d o : Nat} {gr gc gc' : Gs} (h8 : gI gr 8 = nI (h + 1)) (h9 : gI gr 9 = nI d) (hh : h < 320) (h4 : gIA gr 4 h = nI o) (ho : o < 100) (hd : dl o ≤ d) (hw : f_X5_writeTop hP (sI (sI gr 9 (nI (d - dl o))) 8 (nI h)) gc (nI o) = some gc') : pop1 hP gr gc = some (sI (sI gr 9 (nI (d - dl o))) 8 (nI h), gc') := by
  have q : ∀ {x : Nat}, x < 100 → (nI o = nI x ↔ o = x) := fun hx => nI_eq (by omega) (by omega)
  have e : nI d - (if nI o = 65 ∨ nI o = 54 ∨ nI o = 66 ∨ nI o = 70 then 1 else 0) = nI (d - dl o) := by
    unfold dl at hd ⊢
    by_cases hz : o = 65 ∨ o = 54 ∨ o = 66 ∨ o = 70
    · rw [if_pos hz] at hd
      rw [if_pos hz, if_pos (show nI o = 65 ∨ nI o = 54 ∨ nI o = 66 ∨ nI o = 70 by
        rcases hz with rfl | rfl | rfl | rfl
        · exact .inl rfl
        · exact .inr (.inl rfl)
        · exact .inr (.inr (.inl rfl))
        · exact .inr (.inr (.inr rfl)))]
      exact nI_sub (a := d) (b := 1) hd
    · rw [if_neg hz, if_neg (show ¬ (nI o = 65 ∨ nI o = 54 ∨ nI o = 66 ∨ nI o = 70) by
        rintro (z | z | z | z)
        · exact hz (.inl ((q (x := 65) (by decide)).mp z))
        · exact hz (.inr (.inl ((q (x := 54) (by decide)).mp z)))
        · exact hz (.inr (.inr (.inl ((q (x := 66) (by decide)).mp z))))
        · exact hz (.inr (.inr (.inr ((q (x := 70) (by decide)).mp z)))))]
      exact nI_sub (a := d) (b := 0) (by omega)
  unfold pop1
  rw [h8, h9, nI_pred h, nI_clamp (show h < 2 ^ 31 by omega), h4, e, bnd_s hw]
/-- what closing a sign means: reader and code thereafter -/
def Pop (G : Gs) (hP h d N A : Nat) (E : Nat → Nat × Nat × Nat) (gr gc : Gs) (dd : Nat) (E' : Nat → Nat × Nat × Nat) : Prop := ∃ gr' gc', pop1 hP gr gc = some (gr', gc') ∧ CS G gr' gc' hP h dd N (A + 1) E' ∧ Fr [8, 9] gr gr' ∧ Fr [0, 1, 2, 3, 4, 5, 6, 7, 8] gc gc'
theorem pop_plain {G gr gc : Gs} {hP h d N A K p x : Nat} {E : Nat → Nat × Nat × Nat} (hC : CS G gr gc hP (h + 1) d N A E) (hb : 3 * A ≤ 5 * N) (hh : h < 320) (hd : dl K ≤ d) (hK : opT K ∨ K = 65 ∨ K = 54) (h4 : gIA gr 4 h = nI K) (h5 : gIA gr 5 h = nI (ta G p)) : Pop G hP h d N A E gr gc (d - dl K) (upE E A (K, p, x)) := by
  have hK1 : K < 100 ∧ K ≠ 3 ∧ K ≠ 66 ∧ ¬ opN K ∧ ¬ opJ K ∧ K ≠ 44 ∧ K ≠ 70 ∧ K ≠ 61 ∧ K ≠ 62 := by
    unfold opT at hK; unfold opN opJ; omega
  obtain ⟨k1, k2, k3, k4, k5, k6, k7, k8, k9⟩ := hK1
  have fr : Fr [8, 9] gr (sI (sI gr 9 (nI (d - dl K))) 8 (nI h)) := (Fr.sI (by decide) _ _).trans (Fr.sI (by decide) _ _)
  by_cases h10 : gI gc 10 = 0
  · obtain ⟨r1, r2⟩ := hC.room hb h10
    refine ⟨_, _, pop1_eq hC.1 hC.2.1 hh h4 k1 hd (write_plain hC.2.2.1 rfl hh h10 r2 r1 k1 k7 k3 k8 k9), ?_, fr, addG_fr _ _ _ _⟩
    refine ((hC.put (gc' := addG gc A (nI K) (gIA gr 5 h)) rfl rfl fun _ => ⟨rfl, fun i hi => ((hC.2.2.2.2.2 h10).2.2 i hi).add (by omega), ?_⟩).rd rfl rfl rfl rfl)
    obtain ⟨q1, q2, _⟩ := addG_at gc A (nI K) (gIA gr 5 h)
    exact ce_P k2 k3 k4 (fun z => absurd z k5) k6 q1 (by rw [q2, h5])
  · exact ⟨_, _, pop1_eq hC.1 hC.2.1 hh h4 k1 hd (write_shut hC.2.2.1 rfl hh h10), (hC.put rfl rfl fun z => absurd z h10).rd rfl rfl rfl rfl, fr, Fr.refl _ _⟩
theorem pop_cast {G gr gc : Gs} {hP h d N A p x : Nat} {E : Nat → Nat × Nat × Nat} (hC : CS G gr gc hP (h + 1) (d + 1) N A E) (hb : 3 * A ≤ 5 * N) (hh : h < 320) (h4 : gIA gr 4 h = nI 66) (h5 : gIA gr 5 h = nI (ta G p)) (h6 : gIA gr 6 h = nI x) : Pop G hP h (d + 1) N A E gr gc d (upE E A (66, p, x)) := by
  have fr : Fr [8, 9] gr (sI (sI gr 9 (nI (d + 1 - dl 66))) 8 (nI h)) := (Fr.sI (by decide) _ _).trans (Fr.sI (by decide) _ _)
  by_cases h10 : gI gc 10 = 0
  · obtain ⟨r1, r2⟩ := hC.room hb h10
    refine ⟨_, _, pop1_eq hC.1 hC.2.1 hh h4 (by decide) (by show 1 ≤ d + 1; omega) (write_cast hC.2.2.1 rfl hh h10 r2 r1), ?_, fr, (addG_fr _ _ _ _).trans (Fr.sIA (by decide) _ _)⟩
    refine ((hC.put (q := (66, p, x)) (gc' := sIA (addG gc A 66 (gIA gr 5 h)) 2 (upd (gIA (addG gc A 66 (gIA gr 5 h)) 2) A (gIA gr 6 h))) rfl rfl fun _ => ⟨rfl, fun i hi => ?_, ?_⟩).rd rfl rfl rfl rfl)
    · refine (((hC.2.2.2.2.2 h10).2.2 i hi).add (N := A) (o := 66) (p := gIA gr 5 h) (by omega)).keep rfl rfl ?_ rfl rfl rfl rfl
      show upd _ A _ i = _; rw [pk_un (by omega)]
    · obtain ⟨q1, q2, _⟩ := addG_at gc A 66 (gIA gr 5 h)
      refine ⟨q1, by rw [← h5]; exact q2, fun z => absurd z (show ¬ (66 : Nat) = 3 by decide), fun _ => ?_, fun z => ?_, fun z => ?_, fun z => absurd z (show ¬ (66 : Nat) = 44 by decide)⟩
      · show upd _ A _ A = _; rw [pk_us]; exact h6
      · have z : 66 = 63 ∨ 66 = 16 ∨ 66 = 64 := z; omega
      · have z : 67 ≤ 66 ∧ 66 ≤ 70 := z; omega
  · exact ⟨_, _, pop1_eq hC.1 hC.2.1 hh h4 (by decide) (by show 1 ≤ d + 1; omega) (write_shut hC.2.2.1 rfl hh h10), (hC.put rfl rfl fun z => absurd z h10).rd rfl rfl rfl rfl, fr, Fr.refl _ _⟩
