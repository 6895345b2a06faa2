theorem len_test {L N : Nat} (hL : L ≤ 3072) (h : ¬ Int32.ofNat L - (6 : Int32) < nI (6 * N)) (hN : N ≤ 512) : 6 * N + 5 < L := by
  rcases Nat.lt_or_ge L 6 with h6 | h6
  · exfalso
    apply h
    have e : Int32.ofNat L - (6 : Int32) < 0 := by
      match L, h6 with
      | 0, _ => decide
      | 1, _ => decide
      | 2, _ => decide
      | 3, _ => decide
      | 4, _ => decide
      | 5, _ => decide
    have h0 : (0 : Int32) ≤ nI (6 * N) := nI_le (a := 0) (Nat.zero_le _) (by omega)
    exact Int32.lt_of_lt_of_le e h0
  · have e : Int32.ofNat L - (6 : Int32) = nI (L - 6) := by
      have : Int32.ofNat L = nI (L - 6) + nI 6 := by rw [nI_add, Nat.sub_add_cancel h6]; rfl
      rw [this]
      exact Int32.add_sub_cancel _ _
    rw [e] at h
    rcases Nat.lt_or_ge (L - 6) (6 * N) with h7 | h7
    · exact absurd (nI_lt h7 (by omega)) h
    · omega
theorem law_loop (Hc_X11_feed : T_c_X11_feed) (Hc_X12_feed : T_c_X12_feed) (Hc_X11_end : T_c_X11_end) (Hc_X12_end : T_c_X12_end) (Hn_X4_init : T_n_X4_init) (Hn_X5_init : T_n_X5_init) (Hk_X11_plan_26 : T_k_X11_plan_26) (Hc_X12_plan : T_c_X12_plan) (Hc_X11_fault : T_c_X11_fault) (Hc_X12_fault_ : T_c_X12_fault_) (Hc_X11_count : T_c_X11_count) (Hc_X12_count : T_c_X12_count) (Hc_X11_thing : T_c_X11_thing) (Hc_X12_thing_ : T_c_X12_thing_) (Hc_X11_letter : T_c_X11_letter) (Hc_X12_letter : T_c_X12_letter) (Hc_X11_value : T_c_X11_value) (Hc_X12_value : T_c_X12_value) (Hc_X11_set : T_c_X11_set) (Hc_X12_set : T_c_X12_set) (Hc_X11_step : T_c_X11_step) (Hc_X12_step : T_c_X12_step) (Hc_X11_tick : T_c_X11_tick) (Hc_X12_tick : T_c_X12_tick) (Hc_X11_strike : T_c_X11_strike) (Hc_X12_strike : T_c_X12_strike) (Hn_X0_init : T_n_X0_init) (Hk_X11_readAsked_27 : T_k_X11_readAsked_27) (Hk_X11_ask_4 : T_k_X11_ask_4) (Hc_X12_ask : T_c_X12_ask) (Hc_X11_told : T_c_X11_told) (Hc_X12_told_ : T_c_X12_told_) (Hk_X11_await_22 : T_k_X11_await_22) (HkL_X11_await : T_kL_X11_await) (Hc_X12_await : T_c_X12_await) (Hc_X11_dial : T_c_X11_dial) (Hc_X12_dial : T_c_X12_dial) (Hc_X11_clock : T_c_X11_clock) (Hc_X12_clock : T_c_X12_clock) (Hc_X11_octet : T_c_X11_octet) (Hc_X12_octet : T_c_X12_octet) (Hc_X11_measure : T_c_X11_measure) (Hc_X12_measure : T_c_X12_measure) (Hc_X11_together : T_c_X11_together) (Hc_X12_together : T_c_X12_together) (Hc_X11_train : T_c_X11_train) (Hc_X12_train : T_c_X12_train) (Hc_X11_wheel : T_c_X11_wheel) (Hc_X12_wheel : T_c_X12_wheel) (Hc_X11_date : T_c_X11_date) (Hc_X12_date : T_c_X12_date) (Hn_X9_init : T_n_X9_init) (Hk_X11_keep_37 : T_k_X11_keep_37) (Hc_X12_keep : T_c_X12_keep) (Hc_X11_back : T_c_X11_back) (Hc_X12_back : T_c_X12_back) {p : Program} {l : Launch} {e : Env} {s : State} {m : MethodId} {below : List Frame} {meth : Method} {c : Code} {D : Dx} {b L : Nat} {xs : Nat → Int32} {Z : State → Prop} (hL : L ≤ 3072) (C : Cx p s m #[Value.ref b] meth c cL_law ret 4 RL lw_all) (hts : ∀ w ∈ lw_tbl, w.before #[Value.ref b] s = true) (hX : va_X b L xs s s.heap) (hbl : b < s.heap.size) {hT hM : Nat} (fin : ∀ (H : Heap) (ls : Array Slot), W p l e room_1 s m #[Value.ref b] below meth c H [] 218358 8447176 Z (F0 m 1157 ls [.int 1])) : ∀ (n N : Nat), N + n = 513 → ∀ (H : Heap) (locs : List Loc), LI D (fun q : Nat => s.heap.size ≤ q) s hT hM N H locs → ∀ (ls : Array Slot), lv_has ls 4 [(0, .ref b), (1, .ref hT), (2, .ref hM), (3, .int (nI (6 * N)))] → N ≤ 512 → W p l e room_1 s m #[Value.ref b] below meth c H locs (200 + 36 * N) (120000 + 10367 * N) Z (F0 m 18 ls []) := by
  intro n
  induction n with
  | zero => intro N h1 H locs hI ls hl h2; omega
  | succ n ih =>
    intro N h1 H locs hI ls hl h2
    obtain ⟨hx, hb, hr, hml, hown, -, hlk⟩ := id C
    have hbA : ¬ (fun q : Nat => s.heap.size ≤ q) b := Nat.not_le.mpr hbl
    have hS : va_S (fun q : Nat => s.heap.size ≤ q) s.heap H locs := by
      obtain ⟨aT, yT, aT_0, yT_0, aT_2, yT_2, aT_3, yT_3, aT_4, yT_4, aT_5, yT_5, aT_6, yT_6, aT_7, yT_7, hT_8, aT_8, yT_8, aT_8_0, yT_8_0, gT, gT_0, gT_2, gT_3, gT_4, gT_5, gT_6, gT_7, gT_8, gT_8_0, sp, ak, rd, k0, k1, k2, k3, kk, aM, yM, gM, tys, X, -⟩ := id hI
      exact X.2.2.2.1
    refine lv_iload_n hx hb dL_law_18 rfl (lv_at hl 3 rfl) ?_
    refine lv_aload_n hx hb dL_law_19 rfl (lv_at hl 0 rfl) ?_
    refine va_slen hx hb hX hbl hbA hS dL_law_20 ?_
    refine lv_bipush (v := (6 : Int32)) hx hb dL_law_21 (by decide) ?_
    refine lv_isub hx hb dL_law_23 ?_
    refine lv_icmp_gt (tgt := 1156) hx hb dL_law_24 (by decide) (fun _ => ?_) (fun c0 => ?_)
    · refine lv_iconst (v := (1 : Int32)) hx hb dL_law_1156 (by decide) ?_
      refine va_forget (fun q hq => hS.2.2 q hq) ?_
      refine W.widen (k := 218358) (n := 8447176) (by omega) (by omega) ?_
      exact fin H ls
    · have hi := len_test hL c0 h2
      have hN : N < 512 := by omega
      obtain ⟨iv, hiv⟩ : ∃ v : Int32, v = nI (6 * N) := ⟨_, rfl⟩
      rw [← hiv] at hl
      have tail : ∀ (H1 : Heap) (locs1 : List Loc), LI D (fun q : Nat => s.heap.size ≤ q) s hT hM (N + 1) H1 locs1 → W p l e room_1 s m #[Value.ref b] below meth c H1 locs1 (200 + 36 * (N + 1)) (120000 + 10367 * (N + 1)) Z (F0 m 1150 ls []) := by
        intro H1 locs1 hI1
        refine lv_iinc (v := nI (6 * (N + 1))) (lv' := [(3, .int (nI (6 * (N + 1)))), (0, .ref b), (1, .ref hT), (2, .ref hM)]) hx hb dL_law_1150 hl (k := 3) rfl (by rw [hiv, show (6 * (N + 1)) = 6 * N + 6 by omega, ← nI_add]; rfl) (by decide) rfl (fun ls hl => ?_)
        refine lv_goto (tgt := 18) hx hb dL_law_1153 (by decide) ?_
        exact ih (N + 1) (by omega) H1 locs1 hI1 ls (lv_sub hl [1, 2, 3, 0] rfl) (by omega)
      have hin0 : vp_in iv L := by rw [hiv]; exact vp_in_nI (by omega) (by omega)
      refine lv_aload_n hx hb dL_law_27 rfl (lv_at hl 0 rfl) ?_
      refine lv_iload_n hx hb dL_law_28 rfl (lv_at hl 3 rfl) ?_
      refine va_sld hx hb hX hbl hbA hS hin0 dL_law_29 ?_
      refine lv_bipush (v := (31 : Int32)) hx hb dL_law_30 (by decide) ?_
      refine lv_iand hx hb dL_law_32 ?_
      generalize xs iv.toNatClampNeg &&& (31 : Int32) = v
      by_cases c0 : v = (0 : Int32)
      · refine lv_tableIn (tgt := 148) (off := 115) hx hb dL_law_33 (by rw [c0]; decide) (by rw [c0]; decide) (by rw [c0]; rfl) (by decide) ?_
        exact cs_0 Hc_X11_feed Hc_X12_feed hL C hts hX hbl hN hi hI hiv hl tail
      by_cases c1 : v = (1 : Int32)
      · refine lv_tableIn (tgt := 211) (off := 178) hx hb dL_law_33 (by rw [c1]; decide) (by rw [c1]; decide) (by rw [c1]; rfl) (by decide) ?_
        exact cs_1 Hc_X11_end Hc_X12_end hL C hts hX hbl hN hi hI hiv hl tail
      by_cases c2 : v = (2 : Int32)
      · refine lv_tableIn (tgt := 234) (off := 201) hx hb dL_law_33 (by rw [c2]; decide) (by rw [c2]; decide) (by rw [c2]; rfl) (by decide) ?_
        exact cs_2 Hn_X4_init Hn_X5_init Hk_X11_plan_26 Hc_X12_plan hL C hts hX hbl hN hi hI hiv hl tail
      by_cases c3 : v = (3 : Int32)
      · refine lv_tableIn (tgt := 247) (off := 214) hx hb dL_law_33 (by rw [c3]; decide) (by rw [c3]; decide) (by rw [c3]; rfl) (by decide) ?_
        exact cs_3 Hc_X11_fault Hc_X12_fault_ hL C hts hX hbl hN hi hI hiv hl tail
      by_cases c4 : v = (4 : Int32)
      · refine lv_tableIn (tgt := 260) (off := 227) hx hb dL_law_33 (by rw [c4]; decide) (by rw [c4]; decide) (by rw [c4]; rfl) (by decide) ?_
        exact cs_4 Hc_X11_count Hc_X12_count hL C hts hX hbl hN hi hI hiv hl tail
      by_cases c5 : v = (5 : Int32)
      · refine lv_tableIn (tgt := 283) (off := 250) hx hb dL_law_33 (by rw [c5]; decide) (by rw [c5]; decide) (by rw [c5]; rfl) (by decide) ?_
        exact cs_5 Hc_X11_thing Hc_X12_thing_ hL C hts hX hbl hN hi hI hiv hl tail
      by_cases c6 : v = (6 : Int32)
      · refine lv_tableIn (tgt := 316) (off := 283) hx hb dL_law_33 (by rw [c6]; decide) (by rw [c6]; decide) (by rw [c6]; rfl) (by decide) ?_
        exact cs_6 Hc_X11_letter Hc_X12_letter hL C hts hX hbl hN hi hI hiv hl tail
      by_cases c7 : v = (7 : Int32)
      · refine lv_tableIn (tgt := 349) (off := 316) hx hb dL_law_33 (by rw [c7]; decide) (by rw [c7]; decide) (by rw [c7]; rfl) (by decide) ?_
        exact cs_7 Hc_X11_value Hc_X12_value hL C hts hX hbl hN hi hI hiv hl tail
      by_cases c8 : v = (8 : Int32)
      · refine lv_tableIn (tgt := 383) (off := 350) hx hb dL_law_33 (by rw [c8]; decide) (by rw [c8]; decide) (by rw [c8]; rfl) (by decide) ?_
        exact cs_8 Hc_X11_set Hc_X12_set hL C hts hX hbl hN hi hI hiv hl tail
      by_cases c9 : v = (9 : Int32)
      · refine lv_tableIn (tgt := 446) (off := 413) hx hb dL_law_33 (by rw [c9]; decide) (by rw [c9]; decide) (by rw [c9]; rfl) (by decide) ?_
        exact cs_9 Hc_X11_step Hc_X12_step hL C hts hX hbl hN hi hI hiv hl tail
      by_cases c10 : v = (10 : Int32)
      · refine lv_tableIn (tgt := 499) (off := 466) hx hb dL_law_33 (by rw [c10]; decide) (by rw [c10]; decide) (by rw [c10]; rfl) (by decide) ?_
        exact cs_10 Hc_X11_tick Hc_X12_tick hL C hts hX hbl hN hi hI hiv hl tail
      by_cases c11 : v = (11 : Int32)
      · refine lv_tableIn (tgt := 523) (off := 490) hx hb dL_law_33 (by rw [c11]; decide) (by rw [c11]; decide) (by rw [c11]; rfl) (by decide) ?_
        exact cs_11 Hc_X11_strike Hc_X12_strike hL C hts hX hbl hN hi hI hiv hl tail
      by_cases c12 : v = (12 : Int32)
      · refine lv_tableIn (tgt := 557) (off := 524) hx hb dL_law_33 (by rw [c12]; decide) (by rw [c12]; decide) (by rw [c12]; rfl) (by decide) ?_
        exact cs_12 Hn_X0_init Hn_X5_init Hk_X11_readAsked_27 Hk_X11_ask_4 Hc_X12_ask hL C hts hX hbl hN hi hI hiv hl tail
      by_cases c13 : v = (13 : Int32)
      · refine lv_tableIn (tgt := 570) (off := 537) hx hb dL_law_33 (by rw [c13]; decide) (by rw [c13]; decide) (by rw [c13]; rfl) (by decide) ?_
        exact cs_13 Hc_X11_told Hc_X12_told_ hL C hts hX hbl hN hi hI hiv hl tail
      by_cases c14 : v = (14 : Int32)
      · refine lv_tableIn (tgt := 584) (off := 551) hx hb dL_law_33 (by rw [c14]; decide) (by rw [c14]; decide) (by rw [c14]; rfl) (by decide) ?_
        exact cs_14 Hn_X0_init Hn_X5_init Hk_X11_readAsked_27 Hk_X11_await_22 HkL_X11_await Hc_X12_await hL C hts hX hbl hN hi hI hiv hl tail
      by_cases c15 : v = (15 : Int32)
      · refine lv_tableIn (tgt := 607) (off := 574) hx hb dL_law_33 (by rw [c15]; decide) (by rw [c15]; decide) (by rw [c15]; rfl) (by decide) ?_
        exact cs_15 Hc_X11_dial Hc_X12_dial hL C hts hX hbl hN hi hI hiv hl tail
      by_cases c16 : v = (16 : Int32)
      · refine lv_tableIn (tgt := 670) (off := 637) hx hb dL_law_33 (by rw [c16]; decide) (by rw [c16]; decide) (by rw [c16]; rfl) (by decide) ?_
        exact cs_16 Hc_X11_clock Hc_X12_clock hL C hts hX hbl hN hi hI hiv hl tail
      by_cases c17 : v = (17 : Int32)
      · refine lv_tableIn (tgt := 723) (off := 690) hx hb dL_law_33 (by rw [c17]; decide) (by rw [c17]; decide) (by rw [c17]; rfl) (by decide) ?_
        exact cs_17 Hc_X11_octet Hc_X12_octet hL C hts hX hbl hN hi hI hiv hl tail
      by_cases c18 : v = (18 : Int32)
      · refine lv_tableIn (tgt := 746) (off := 713) hx hb dL_law_33 (by rw [c18]; decide) (by rw [c18]; decide) (by rw [c18]; rfl) (by decide) ?_
        exact cs_18 Hc_X11_measure Hc_X12_measure hL C hts hX hbl hN hi hI hiv hl tail
      by_cases c19 : v = (19 : Int32)
      · refine lv_tableIn (tgt := 840) (off := 807) hx hb dL_law_33 (by rw [c19]; decide) (by rw [c19]; decide) (by rw [c19]; rfl) (by decide) ?_
        exact cs_19 Hc_X11_together Hc_X12_together hL C hts hX hbl hN hi hI hiv hl tail
      by_cases c20 : v = (20 : Int32)
      · refine lv_tableIn (tgt := 934) (off := 901) hx hb dL_law_33 (by rw [c20]; decide) (by rw [c20]; decide) (by rw [c20]; rfl) (by decide) ?_
        exact cs_20 Hc_X11_train Hc_X12_train hL C hts hX hbl hN hi hI hiv hl tail
      by_cases c21 : v = (21 : Int32)
      · refine lv_tableIn (tgt := 1018) (off := 985) hx hb dL_law_33 (by rw [c21]; decide) (by rw [c21]; decide) (by rw [c21]; rfl) (by decide) ?_
        exact cs_21 Hc_X11_wheel Hc_X12_wheel hL C hts hX hbl hN hi hI hiv hl tail
      by_cases c22 : v = (22 : Int32)
      · refine lv_tableIn (tgt := 1041) (off := 1008) hx hb dL_law_33 (by rw [c22]; decide) (by rw [c22]; decide) (by rw [c22]; rfl) (by decide) ?_
        exact cs_22 Hc_X11_date Hc_X12_date hL C hts hX hbl hN hi hI hiv hl tail
      by_cases c23 : v = (23 : Int32)
      · refine lv_tableIn (tgt := 1104) (off := 1071) hx hb dL_law_33 (by rw [c23]; decide) (by rw [c23]; decide) (by rw [c23]; rfl) (by decide) ?_
        exact cs_23 Hn_X9_init Hk_X11_keep_37 Hc_X12_keep hL C hts hX hbl hN hi hI hiv hl tail
      by_cases c24 : v = (24 : Int32)
      · refine lv_tableIn (tgt := 1127) (off := 1094) hx hb dL_law_33 (by rw [c24]; decide) (by rw [c24]; decide) (by rw [c24]; rfl) (by decide) ?_
        exact cs_24 Hc_X11_back Hc_X12_back hL C hts hX hbl hN hi hI hiv hl tail
      refine lv_tableOut (tgt := 1150) hx hb dL_law_33 (tbl_out (0) (24) 25 (by decide) ⟨tne c0 (by decide), ⟨tne c1 (by decide), ⟨tne c2 (by decide), ⟨tne c3 (by decide), ⟨tne c4 (by decide), ⟨tne c5 (by decide), ⟨tne c6 (by decide), ⟨tne c7 (by decide), ⟨tne c8 (by decide), ⟨tne c9 (by decide), ⟨tne c10 (by decide), ⟨tne c11 (by decide), ⟨tne c12 (by decide), ⟨tne c13 (by decide), ⟨tne c14 (by decide), ⟨tne c15 (by decide), ⟨tne c16 (by decide), ⟨tne c17 (by decide), ⟨tne c18 (by decide), ⟨tne c19 (by decide), ⟨tne c20 (by decide), ⟨tne c21 (by decide), ⟨tne c22 (by decide), ⟨tne c23 (by decide), ⟨tne c24 (by decide), trivial⟩⟩⟩⟩⟩⟩⟩⟩⟩⟩⟩⟩⟩⟩⟩⟩⟩⟩⟩⟩⟩⟩⟩⟩⟩) (by decide) ?_
      refine W.widen (k := (200 + 36 * (N + 1))) (n := (120000 + 10367 * (N + 1))) (by omega) (by omega) ?_
      obtain ⟨aT, yT, aT_0, yT_0, aT_2, yT_2, aT_3, yT_3, aT_4, yT_4, aT_5, yT_5, aT_6, yT_6, aT_7, yT_7, hT_8, aT_8, yT_8, aT_8_0, yT_8_0, gT, gT_0, gT_2, gT_3, gT_4, gT_5, gT_6, gT_7, gT_8, gT_8_0, sp, ak, rd, k0, k1, k2, k3, kk, aM, yM, gM, tys, X, hty, hw, hrest⟩ := hI
      exact tail _ _ ⟨aT, yT, aT_0, yT_0, aT_2, yT_2, aT_3, yT_3, aT_4, yT_4, aT_5, yT_5, aT_6, yT_6, aT_7, yT_7, hT_8, aT_8, yT_8, aT_8_0, yT_8_0, gT, gT_0, gT_2, gT_3, gT_4, gT_5, gT_6, gT_7, gT_8, gT_8_0, sp, ak, rd, k0, k1, k2, k3, kk, aM, yM, gM, tys, X, hty, hw.idle, hrest⟩
