theorem q8_232 : Cond.methodLink RX12 554 yX12_node ∈ lw_all := lw_in (tc_8 (List.mem_of_getElem? (i := 232) rfl)) rfl
theorem q8_234 : Cond.instanceMethod yX12_node ∈ lw_all := lw_in (tc_8 (List.mem_of_getElem? (i := 234) rfl)) rfl
theorem q0_92 : Cond.selects RX12 yX12_node yX12_node ∈ lw_all := lw_in (tc_0 (List.mem_of_getElem? (i := 92) rfl)) rfl
theorem q8_235 : Cond.code yX12_node cX12_node 2 none ∈ lw_all := lw_in (tc_8 (List.mem_of_getElem? (i := 235) rfl)) rfl
theorem q8_228 : Cond.methodLink RX12 551 yX12_deeper ∈ lw_all := lw_in (tc_8 (List.mem_of_getElem? (i := 228) rfl)) rfl
theorem q8_230 : Cond.instanceMethod yX12_deeper ∈ lw_all := lw_in (tc_8 (List.mem_of_getElem? (i := 230) rfl)) rfl
theorem q0_91 : Cond.selects RX12 yX12_deeper yX12_deeper ∈ lw_all := lw_in (tc_0 (List.mem_of_getElem? (i := 91) rfl)) rfl
theorem q8_231 : Cond.code yX12_deeper cX12_deeper 1 (some .boolean) ∈ lw_all := lw_in (tc_8 (List.mem_of_getElem? (i := 231) rfl)) rfl
theorem q8_196 : Cond.methodLink RX12 561 yX12_formula ∈ lw_all := lw_in (tc_8 (List.mem_of_getElem? (i := 196) rfl)) rfl
theorem q8_198 : Cond.instanceMethod yX12_formula ∈ lw_all := lw_in (tc_8 (List.mem_of_getElem? (i := 198) rfl)) rfl
theorem q0_83 : Cond.selects RX12 yX12_formula yX12_formula ∈ lw_all := lw_in (tc_0 (List.mem_of_getElem? (i := 83) rfl)) rfl
theorem q8_199 : Cond.code yX12_formula cX12_formula 4 (some .boolean) ∈ lw_all := lw_in (tc_8 (List.mem_of_getElem? (i := 199) rfl)) rfl
theorem q8_236 : Cond.methodLink RX12 557 yX12_act ∈ lw_all := lw_in (tc_8 (List.mem_of_getElem? (i := 236) rfl)) rfl
theorem q8_238 : Cond.instanceMethod yX12_act ∈ lw_all := lw_in (tc_8 (List.mem_of_getElem? (i := 238) rfl)) rfl
theorem q0_93 : Cond.selects RX12 yX12_act yX12_act ∈ lw_all := lw_in (tc_0 (List.mem_of_getElem? (i := 93) rfl)) rfl
theorem q8_239 : Cond.code yX12_act cX12_act 4 (some .int) ∈ lw_all := lw_in (tc_8 (List.mem_of_getElem? (i := 239) rfl)) rfl
theorem q9_0 : Cond.methodLink RX12 588 yX12_named ∈ lw_all := lw_in (tc_9 (List.mem_of_getElem? (i := 0) rfl)) rfl
theorem q9_2 : Cond.instanceMethod yX12_named ∈ lw_all := lw_in (tc_9 (List.mem_of_getElem? (i := 2) rfl)) rfl
theorem q0_94 : Cond.selects RX12 yX12_named yX12_named ∈ lw_all := lw_in (tc_0 (List.mem_of_getElem? (i := 94) rfl)) rfl
theorem q9_3 : Cond.code yX12_named cX12_named 4 (some .boolean) ∈ lw_all := lw_in (tc_9 (List.mem_of_getElem? (i := 3) rfl)) rfl
theorem q8_220 : Cond.methodLink RX12 579 yX12_single ∈ lw_all := lw_in (tc_8 (List.mem_of_getElem? (i := 220) rfl)) rfl
theorem q8_222 : Cond.instanceMethod yX12_single ∈ lw_all := lw_in (tc_8 (List.mem_of_getElem? (i := 222) rfl)) rfl
theorem q0_89 : Cond.selects RX12 yX12_single yX12_single ∈ lw_all := lw_in (tc_0 (List.mem_of_getElem? (i := 89) rfl)) rfl
theorem q8_223 : Cond.code yX12_single cX12_single 5 (some .boolean) ∈ lw_all := lw_in (tc_8 (List.mem_of_getElem? (i := 223) rfl)) rfl
theorem q8_224 : Cond.methodLink RX12 585 yX12_primary ∈ lw_all := lw_in (tc_8 (List.mem_of_getElem? (i := 224) rfl)) rfl
theorem q8_226 : Cond.instanceMethod yX12_primary ∈ lw_all := lw_in (tc_8 (List.mem_of_getElem? (i := 226) rfl)) rfl
theorem q0_90 : Cond.selects RX12 yX12_primary yX12_primary ∈ lw_all := lw_in (tc_0 (List.mem_of_getElem? (i := 90) rfl)) rfl
theorem q8_227 : Cond.code yX12_primary cX12_primary 4 (some .boolean) ∈ lw_all := lw_in (tc_8 (List.mem_of_getElem? (i := 227) rfl)) rfl
theorem q8_193 : Cond.methodLink RX12 582 yX12_isSort ∈ lw_all := lw_in (tc_8 (List.mem_of_getElem? (i := 193) rfl)) rfl
theorem q8_194 : Cond.static yX12_isSort ∈ lw_all := lw_in (tc_8 (List.mem_of_getElem? (i := 194) rfl)) rfl
theorem q8_195 : Cond.code yX12_isSort cX12_isSort 1 (some .boolean) ∈ lw_all := lw_in (tc_8 (List.mem_of_getElem? (i := 195) rfl)) rfl
theorem q8_216 : Cond.methodLink RX12 576 yX12_product ∈ lw_all := lw_in (tc_8 (List.mem_of_getElem? (i := 216) rfl)) rfl
theorem q8_218 : Cond.instanceMethod yX12_product ∈ lw_all := lw_in (tc_8 (List.mem_of_getElem? (i := 218) rfl)) rfl
theorem q0_88 : Cond.selects RX12 yX12_product yX12_product ∈ lw_all := lw_in (tc_0 (List.mem_of_getElem? (i := 88) rfl)) rfl
theorem q8_219 : Cond.code yX12_product cX12_product 2 (some .boolean) ∈ lw_all := lw_in (tc_8 (List.mem_of_getElem? (i := 219) rfl)) rfl
theorem q8_212 : Cond.methodLink RX12 573 yX12_sum ∈ lw_all := lw_in (tc_8 (List.mem_of_getElem? (i := 212) rfl)) rfl
theorem q8_214 : Cond.instanceMethod yX12_sum ∈ lw_all := lw_in (tc_8 (List.mem_of_getElem? (i := 214) rfl)) rfl
theorem q0_87 : Cond.selects RX12 yX12_sum yX12_sum ∈ lw_all := lw_in (tc_0 (List.mem_of_getElem? (i := 87) rfl)) rfl
theorem q8_215 : Cond.code yX12_sum cX12_sum 2 (some .boolean) ∈ lw_all := lw_in (tc_8 (List.mem_of_getElem? (i := 215) rfl)) rfl
theorem q8_208 : Cond.methodLink RX12 570 yX12_compares ∈ lw_all := lw_in (tc_8 (List.mem_of_getElem? (i := 208) rfl)) rfl
theorem q8_210 : Cond.instanceMethod yX12_compares ∈ lw_all := lw_in (tc_8 (List.mem_of_getElem? (i := 210) rfl)) rfl
theorem q0_86 : Cond.selects RX12 yX12_compares yX12_compares ∈ lw_all := lw_in (tc_0 (List.mem_of_getElem? (i := 86) rfl)) rfl
theorem q8_211 : Cond.code yX12_compares cX12_compares 3 (some .boolean) ∈ lw_all := lw_in (tc_8 (List.mem_of_getElem? (i := 211) rfl)) rfl
theorem q8_204 : Cond.methodLink RX12 567 yX12_equals ∈ lw_all := lw_in (tc_8 (List.mem_of_getElem? (i := 204) rfl)) rfl
theorem q8_206 : Cond.instanceMethod yX12_equals ∈ lw_all := lw_in (tc_8 (List.mem_of_getElem? (i := 206) rfl)) rfl
theorem q0_85 : Cond.selects RX12 yX12_equals yX12_equals ∈ lw_all := lw_in (tc_0 (List.mem_of_getElem? (i := 85) rfl)) rfl
theorem q8_207 : Cond.code yX12_equals cX12_equals 2 (some .boolean) ∈ lw_all := lw_in (tc_8 (List.mem_of_getElem? (i := 207) rfl)) rfl
theorem q8_200 : Cond.methodLink RX12 548 yX12_choice ∈ lw_all := lw_in (tc_8 (List.mem_of_getElem? (i := 200) rfl)) rfl
theorem q8_202 : Cond.instanceMethod yX12_choice ∈ lw_all := lw_in (tc_8 (List.mem_of_getElem? (i := 202) rfl)) rfl
theorem q0_84 : Cond.selects RX12 yX12_choice yX12_choice ∈ lw_all := lw_in (tc_0 (List.mem_of_getElem? (i := 84) rfl)) rfl
theorem q8_203 : Cond.code yX12_choice cX12_choice 5 (some .boolean) ∈ lw_all := lw_in (tc_8 (List.mem_of_getElem? (i := 203) rfl)) rfl
abbrev RCT : Type := (Gs → Option (Int32 × Gs)) × (Gs → Option (Int32 × Gs)) × (Gs → Option (Int32 × Gs)) × (Gs → Option (Int32 × Gs)) × (Gs → Option (Int32 × Gs)) × (Gs → Option (Int32 × Gs)) × (Gs → Option (Int32 × Gs)) × (Gs → Int32 → Option (Int32 × Gs)) × (Gs → Option (Int32 × Gs))
abbrev RMd (d : Nat) : Room := { frames := d + 5, cells := 0, slots := 0, locals := 60 * d + 200 }
theorem rmf {F d : Nat} (h : F ≤ 5) : F + 1 ≤ (RMd (d + 1)).frames := by show F + 1 ≤ d + 1 + 5; omega
theorem rml {L d : Nat} (h : L ≤ 200) : L ≤ (RMd (d + 1)).locals := by show L ≤ 60 * (d + 1) + 200; omega
theorem rgf {d : Nat} : (RMd d).frames + 1 ≤ (RMd (d + 1)).frames := by show d + 5 + 1 ≤ d + 1 + 5; omega
theorem rgl {L d : Nat} (h : L ≤ 60) : L + (RMd d).locals ≤ (RMd (d + 1)).locals := by show L + (60 * d + 200) ≤ 60 * (d + 1) + 200; omega
def SRC (l : Launch) (D : Dx) (hT : Nat) (aT : Nat → Nat) (yT : Nat → ClassId) (d : Nat) (rc : RCT) : Prop :=
  (∀ (g : Gs) (q : Int32 × Gs), rc.1 g = some q → ∀ sz : Nat, Met l yX12_named (ws_ yX12_named cX12_named 4 (some .boolean)) (RMd d) (PC D (tX12 yT) [.ref hT] (wX12 hT aT yT g) sz) (QI D (va_A (wX12 hT aT yT g) sz) (wX12 hT aT yT q.2) q.1) 0 0 (va_A (wX12 hT aT yT g) sz)) ∧
  (∀ (g : Gs) (q : Int32 × Gs), rc.2.1 g = some q → ∀ sz : Nat, Met l yX12_primary (ws_ yX12_primary cX12_primary 4 (some .boolean)) (RMd d) (PC D (tX12 yT) [.ref hT] (wX12 hT aT yT g) sz) (QI D (va_A (wX12 hT aT yT g) sz) (wX12 hT aT yT q.2) q.1) 0 0 (va_A (wX12 hT aT yT g) sz)) ∧
  (∀ (g : Gs) (q : Int32 × Gs), rc.2.2.1 g = some q → ∀ sz : Nat, Met l yX12_single (ws_ yX12_single cX12_single 5 (some .boolean)) (RMd d) (PC D (tX12 yT) [.ref hT] (wX12 hT aT yT g) sz) (QI D (va_A (wX12 hT aT yT g) sz) (wX12 hT aT yT q.2) q.1) 0 0 (va_A (wX12 hT aT yT g) sz)) ∧
  (∀ (g : Gs) (q : Int32 × Gs), rc.2.2.2.1 g = some q → ∀ sz : Nat, Met l yX12_product (ws_ yX12_product cX12_product 2 (some .boolean)) (RMd d) (PC D (tX12 yT) [.ref hT] (wX12 hT aT yT g) sz) (QI D (va_A (wX12 hT aT yT g) sz) (wX12 hT aT yT q.2) q.1) 0 0 (va_A (wX12 hT aT yT g) sz)) ∧
  (∀ (g : Gs) (q : Int32 × Gs), rc.2.2.2.2.1 g = some q → ∀ sz : Nat, Met l yX12_sum (ws_ yX12_sum cX12_sum 2 (some .boolean)) (RMd d) (PC D (tX12 yT) [.ref hT] (wX12 hT aT yT g) sz) (QI D (va_A (wX12 hT aT yT g) sz) (wX12 hT aT yT q.2) q.1) 0 0 (va_A (wX12 hT aT yT g) sz)) ∧
  (∀ (g : Gs) (q : Int32 × Gs), rc.2.2.2.2.2.1 g = some q → ∀ sz : Nat, Met l yX12_compares (ws_ yX12_compares cX12_compares 3 (some .boolean)) (RMd d) (PC D (tX12 yT) [.ref hT] (wX12 hT aT yT g) sz) (QI D (va_A (wX12 hT aT yT g) sz) (wX12 hT aT yT q.2) q.1) 0 0 (va_A (wX12 hT aT yT g) sz)) ∧
  (∀ (g : Gs) (q : Int32 × Gs), rc.2.2.2.2.2.2.1 g = some q → ∀ sz : Nat, Met l yX12_equals (ws_ yX12_equals cX12_equals 2 (some .boolean)) (RMd d) (PC D (tX12 yT) [.ref hT] (wX12 hT aT yT g) sz) (QI D (va_A (wX12 hT aT yT g) sz) (wX12 hT aT yT q.2) q.1) 0 0 (va_A (wX12 hT aT yT g) sz)) ∧
  (∀ (g : Gs) (x0 : Int32) (q : Int32 × Gs), rc.2.2.2.2.2.2.2.1 g x0 = some q → ∀ sz : Nat, Met l yX12_choice (ws_ yX12_choice cX12_choice 5 (some .boolean)) (RMd d) (PC D (tX12 yT) [.ref hT, .int x0] (wX12 hT aT yT g) sz) (QI D (va_A (wX12 hT aT yT g) sz) (wX12 hT aT yT q.2) q.1) 0 0 (va_A (wX12 hT aT yT g) sz)) ∧
  (∀ (g : Gs) (q : Int32 × Gs), rc.2.2.2.2.2.2.2.2 g = some q → ∀ sz : Nat, Met l yX12_formula (ws_ yX12_formula cX12_formula 4 (some .boolean)) (RMd d) (PC D (tX12 yT) [.ref hT] (wX12 hT aT yT g) sz) (QI D (va_A (wX12 hT aT yT g) sz) (wX12 hT aT yT q.2) q.1) 0 0 (va_A (wX12 hT aT yT g) sz))
/-! ### X12_named -/
theorem dX12_named_0 : decode cX12_named 0 = .ok (.aload_n 0, 1) := by decide +kernel
theorem dX12_named_1 : decode cX12_named 1 = .ok (.getfield 116, 3) := by decide +kernel
theorem dX12_named_4 : decode cX12_named 4 = .ok (.istore_n 1, 1) := by decide +kernel
theorem dX12_named_5 : decode cX12_named 5 = .ok (.aload_n 0, 1) := by decide +kernel
theorem dX12_named_6 : decode cX12_named 6 = .ok (.aload_n 0, 1) := by decide +kernel
theorem dX12_named_7 : decode cX12_named 7 = .ok (.getfield 116, 3) := by decide +kernel
theorem dX12_named_10 : decode cX12_named 10 = .ok (.invokevirtual 554, 3) := by decide +kernel
theorem dX12_named_13 : decode cX12_named 13 = .ok (.aload_n 0, 1) := by decide +kernel
theorem dX12_named_14 : decode cX12_named 14 = .ok (.dup, 1) := by decide +kernel
theorem dX12_named_15 : decode cX12_named 15 = .ok (.getfield 116, 3) := by decide +kernel
theorem dX12_named_18 : decode cX12_named 18 = .ok (.iconst 1, 1) := by decide +kernel
theorem dX12_named_19 : decode cX12_named 19 = .ok (.iadd, 1) := by decide +kernel
theorem dX12_named_20 : decode cX12_named 20 = .ok (.putfield 116, 3) := by decide +kernel
theorem dX12_named_23 : decode cX12_named 23 = .ok (.aload_n 0, 1) := by decide +kernel
theorem dX12_named_24 : decode cX12_named 24 = .ok (.getfield 82, 3) := by decide +kernel
theorem dX12_named_27 : decode cX12_named 27 = .ok (.aload_n 0, 1) := by decide +kernel
theorem dX12_named_28 : decode cX12_named 28 = .ok (.getfield 116, 3) := by decide +kernel
theorem dX12_named_31 : decode cX12_named 31 = .ok (.iaload, 1) := by decide +kernel
theorem dX12_named_32 : decode cX12_named 32 = .ok (.bipush 91, 2) := by decide +kernel
theorem dX12_named_34 : decode cX12_named 34 = .ok (.if_icmp .eq 23, 3) := by decide +kernel
theorem dX12_named_37 : decode cX12_named 37 = .ok (.aload_n 0, 1) := by decide +kernel
theorem dX12_named_38 : decode cX12_named 38 = .ok (.iconst 1, 1) := by decide +kernel
theorem dX12_named_39 : decode cX12_named 39 = .ok (.iload_n 1, 1) := by decide +kernel
theorem dX12_named_40 : decode cX12_named 40 = .ok (.aload_n 0, 1) := by decide +kernel
theorem dX12_named_41 : decode cX12_named 41 = .ok (.iconst 4, 1) := by decide +kernel
theorem dX12_named_42 : decode cX12_named 42 = .ok (.iconst 0, 1) := by decide +kernel
theorem dX12_named_43 : decode cX12_named 43 = .ok (.aload_n 0, 1) := by decide +kernel
theorem dX12_named_44 : decode cX12_named 44 = .ok (.getfield 86, 3) := by decide +kernel
theorem dX12_named_47 : decode cX12_named 47 = .ok (.iload_n 1, 1) := by decide +kernel
theorem dX12_named_48 : decode cX12_named 48 = .ok (.iaload, 1) := by decide +kernel
theorem dX12_named_49 : decode cX12_named 49 = .ok (.invokevirtual 557, 3) := by decide +kernel
theorem dX12_named_52 : decode cX12_named 52 = .ok (.invokevirtual 591, 3) := by decide +kernel
theorem dX12_named_55 : decode cX12_named 55 = .ok (.iconst 1, 1) := by decide +kernel
theorem dX12_named_56 : decode cX12_named 56 = .ok (.ireturn, 1) := by decide +kernel
theorem dX12_named_57 : decode cX12_named 57 = .ok (.aload_n 0, 1) := by decide +kernel
theorem dX12_named_58 : decode cX12_named 58 = .ok (.getfield 116, 3) := by decide +kernel
theorem dX12_named_61 : decode cX12_named 61 = .ok (.istore_n 2, 1) := by decide +kernel
theorem dX12_named_62 : decode cX12_named 62 = .ok (.aload_n 0, 1) := by decide +kernel
theorem dX12_named_63 : decode cX12_named 63 = .ok (.invokevirtual 551, 3) := by decide +kernel
theorem dX12_named_66 : decode cX12_named 66 = .ok (.ifCond .ne 5, 3) := by decide +kernel
theorem dX12_named_69 : decode cX12_named 69 = .ok (.iconst 0, 1) := by decide +kernel
theorem dX12_named_70 : decode cX12_named 70 = .ok (.ireturn, 1) := by decide +kernel
theorem dX12_named_71 : decode cX12_named 71 = .ok (.aload_n 0, 1) := by decide +kernel
theorem dX12_named_72 : decode cX12_named 72 = .ok (.dup, 1) := by decide +kernel
theorem dX12_named_73 : decode cX12_named 73 = .ok (.getfield 116, 3) := by decide +kernel
theorem dX12_named_76 : decode cX12_named 76 = .ok (.iconst 1, 1) := by decide +kernel
theorem dX12_named_77 : decode cX12_named 77 = .ok (.iadd, 1) := by decide +kernel
theorem dX12_named_78 : decode cX12_named 78 = .ok (.putfield 116, 3) := by decide +kernel
theorem dX12_named_81 : decode cX12_named 81 = .ok (.aload_n 0, 1) := by decide +kernel
theorem dX12_named_82 : decode cX12_named 82 = .ok (.getfield 138, 3) := by decide +kernel
theorem dX12_named_85 : decode cX12_named 85 = .ok (.istore_n 3, 1) := by decide +kernel
theorem dX12_named_86 : decode cX12_named 86 = .ok (.aload_n 0, 1) := by decide +kernel
theorem dX12_named_87 : decode cX12_named 87 = .ok (.iconst 2, 1) := by decide +kernel
theorem dX12_named_88 : decode cX12_named 88 = .ok (.iload_n 1, 1) := by decide +kernel
theorem dX12_named_89 : decode cX12_named 89 = .ok (.iconst (-1), 1) := by decide +kernel
theorem dX12_named_90 : decode cX12_named 90 = .ok (.invokevirtual 591, 3) := by decide +kernel
theorem dX12_named_93 : decode cX12_named 93 = .ok (.aload_n 0, 1) := by decide +kernel
theorem dX12_named_94 : decode cX12_named 94 = .ok (.invokevirtual 561, 3) := by decide +kernel
theorem dX12_named_97 : decode cX12_named 97 = .ok (.ifCond .ne 5, 3) := by decide +kernel
theorem dX12_named_100 : decode cX12_named 100 = .ok (.iconst 0, 1) := by decide +kernel
theorem dX12_named_101 : decode cX12_named 101 = .ok (.ireturn, 1) := by decide +kernel
theorem dX12_named_102 : decode cX12_named 102 = .ok (.aload_n 0, 1) := by decide +kernel
theorem dX12_named_103 : decode cX12_named 103 = .ok (.dup, 1) := by decide +kernel
theorem dX12_named_104 : decode cX12_named 104 = .ok (.getfield 131, 3) := by decide +kernel
theorem dX12_named_107 : decode cX12_named 107 = .ok (.iconst 1, 1) := by decide +kernel
theorem dX12_named_108 : decode cX12_named 108 = .ok (.isub, 1) := by decide +kernel
theorem dX12_named_109 : decode cX12_named 109 = .ok (.putfield 131, 3) := by decide +kernel
theorem dX12_named_112 : decode cX12_named 112 = .ok (.aload_n 0, 1) := by decide +kernel
theorem dX12_named_113 : decode cX12_named 113 = .ok (.getfield 153, 3) := by decide +kernel
theorem dX12_named_116 : decode cX12_named 116 = .ok (.iload_n 3, 1) := by decide +kernel
theorem dX12_named_117 : decode cX12_named 117 = .ok (.aload_n 0, 1) := by decide +kernel
theorem dX12_named_118 : decode cX12_named 118 = .ok (.bipush 6, 2) := by decide +kernel
theorem dX12_named_120 : decode cX12_named 120 = .ok (.iconst 0, 1) := by decide +kernel
theorem dX12_named_121 : decode cX12_named 121 = .ok (.aload_n 0, 1) := by decide +kernel
theorem dX12_named_122 : decode cX12_named 122 = .ok (.getfield 86, 3) := by decide +kernel
theorem dX12_named_125 : decode cX12_named 125 = .ok (.iload_n 2, 1) := by decide +kernel
theorem dX12_named_126 : decode cX12_named 126 = .ok (.iaload, 1) := by decide +kernel
theorem dX12_named_127 : decode cX12_named 127 = .ok (.invokevirtual 557, 3) := by decide +kernel
theorem dX12_named_130 : decode cX12_named 130 = .ok (.iastore, 1) := by decide +kernel
theorem dX12_named_131 : decode cX12_named 131 = .ok (.aload_n 0, 1) := by decide +kernel
theorem dX12_named_132 : decode cX12_named 132 = .ok (.bipush 93, 2) := by decide +kernel
theorem dX12_named_134 : decode cX12_named 134 = .ok (.invokevirtual 564, 3) := by decide +kernel
theorem dX12_named_137 : decode cX12_named 137 = .ok (.ireturn, 1) := by decide +kernel
def f_X12_named (n : Nat) (rc : RCT) (gT : Gs) : Option (Int32 × Gs) :=
  bnd (f_X12_node gT (gI gT 20)) (fun q_1 => grd (inB ((gI q_1 20) + (1 : Int32)) 3001) (if (gIA q_1 9 ((gI q_1 20) + (1 : Int32)).toNatClampNeg) = (91 : Int32) then (bnd (f_X12_deeper (sI q_1 20 ((gI q_1 20) + (1 : Int32)))) (fun q_4 => if q_4.1 = 0 then (some ((0 : Int32), q_4.2)) else (bnd (f_X12_name (sI q_4.2 20 ((gI q_4.2 20) + (1 : Int32))) (2 : Int32) (gI gT 20) (-1 : Int32)) (fun q_6 => bnd (rc.2.2.2.2.2.2.2.2 q_6) (fun q_8 => if q_8.1 = 0 then (some ((0 : Int32), q_8.2)) else (grd (inB ((gI q_1 20) + (1 : Int32)) 3001) (bnd (f_X12_act (sI q_8.2 25 ((gI q_8.2 25) - (1 : Int32))) (6 : Int32) (0 : Int32) (gIA q_8.2 10 ((gI q_1 20) + (1 : Int32)).toNatClampNeg)) (fun q_11 => grd (inB (gI q_4.2 27) 3001) (bnd (f_X12_need (sIA q_11.2 32 (upd (gIA q_11.2 32) (gI q_4.2 27).toNatClampNeg q_11.1)) (93 : Int32)) (fun q_14 => grd (zB q_14.1) (some (q_14.1, q_14.2)))))))))))) else (grd (inB (gI gT 20) 3001) (bnd (f_X12_act (sI q_1 20 ((gI q_1 20) + (1 : Int32))) (4 : Int32) (0 : Int32) (gIA q_1 10 (gI gT 20).toNatClampNeg)) (fun q_18 => bnd (f_X12_name q_18.2 (1 : Int32) (gI gT 20) q_18.1) (fun q_20 => some ((1 : Int32), q_20)))))))
set_option maxHeartbeats 4000000 in
set_option maxRecDepth 100000 in
theorem c_X12_named (l : Launch) (D : Dx) (hT : Nat) (aT : Nat → Nat) (yT : Nat → ClassId) (n : Nat) (rc : RCT) (d : Nat) (IR : SRC l D hT aT yT d rc) (gT : Gs) (q : Int32 × Gs) (hF : f_X12_named n rc gT = some q) (sz : Nat) : Met l yX12_named (ws_ yX12_named cX12_named 4 (some .boolean)) (RMd (d + 1)) (PC D (tX12 yT) [.ref hT] (wX12 hT aT yT gT) sz) (QI D (va_A (wX12 hT aT yT gT) sz) (wX12 hT aT yT q.2) q.1) 0 0 (va_A (wX12 hT aT yT gT) sz) := by
  refine Met.ofW (cc := cX12_named) (maxL := 4) (ret := (some .boolean)) (by decide) rfl ?_
  intro p e s m args below meth c s₁ B hml hv
  obtain ⟨rfl, hsz, hP, hK, hD, hN⟩ := hv
  subst hsz
  have C : Cx p s m _ meth c cX12_named (some .boolean) 4 RX12 lw_all := Cx_of B hml
  have X := Hx_start hP hK hD hN
  obtain ⟨hx, hb, hr, -, hown, hts, hlk⟩ := id C
  generalize va_A (wX12 hT aT yT gT) s.heap.size = A at X ⊢
  have hl := lv_entry ([.ref hT]) (n := 4) (Nat.le_of_ble_eq_true rfl)
  rw [lg_entry_eq]
  generalize (lg_sl ([.ref hT]) ++ List.replicate (4 - (lg_sl ([.ref hT])).length) Slot.unset).toArray = ls at hl ⊢
  have hl : lv_has ls 4 [(0, .ref hT)] := hl
  unfold f_X12_named at hF
  refine lv_aload_n hx hb dX12_named_0 rfl (lv_at hl 0 rfl) ?_
  refine va_get (D := D.1) (ci := 12) (v := .int (gI gT 20)) (C := RX12) (T := TX12) (N := 114) hx hb hts wi_X12 hown X.1 X.2.1 0 rfl rfl 20 (by decide) (hts _ q6_214) (fun _ h9 => h9) (fl_get (by decide)) dX12_named_1 ?_
  refine lv_istore_n (lv' := [(1, .int (gI gT 20)), (0, .ref hT)]) hx hb dX12_named_4 rfl hl (by decide) rfl (fun ls hl => ?_)
  refine lv_aload_n hx hb dX12_named_5 rfl (lv_at hl 1 rfl) ?_
  refine lv_aload_n hx hb dX12_named_6 rfl (lv_at hl 1 rfl) ?_
  refine va_get (D := D.1) (ci := 12) (v := .int (gI gT 20)) (C := RX12) (T := TX12) (N := 114) hx hb hts wi_X12 hown X.1 X.2.1 0 rfl rfl 20 (by decide) (hts _ q6_214) (fun _ h9 => h9) (fl_get (by decide)) dX12_named_7 ?_
  obtain ⟨q_1, hc_2, hF⟩ := bnd_some hF
  refine cV_v (As := [.int (gI gT 20)]) (rest := []) C X (c_X12_node l D hT aT yT gT (gI gT 20) q_1 hc_2 _) (cwV 1 hts (good_V q8_232 q8_234 q0_92 q1_9 q8_235) rfl rfl rfl (by decide +kernel) ⟨rmf (by decide), rml (by decide)⟩) (va_recv X.1 X.2.1 (ci := 12) (q0 := 0) rfl rfl) X.1 X.2.1 X.2.2.1 (free_all X) hl.1 rfl rfl (Nat.le_of_ble_eq_true rfl) dX12_named_10 ⟨Nat.le_of_ble_eq_true rfl, Nat.le_of_ble_eq_true rfl⟩ (fun t H1 locs1 ht hB hk hS => ?_)
  have X : Hx D (tX12 yT) A s H1 locs1 (wX12 hT aT yT q_1) := Hx_after_all X ht hB hS
  clear hk hS ht hB
  generalize H1 = H at X ⊢
  generalize locs1 = locs at X ⊢
  refine lv_aload_n hx hb dX12_named_13 rfl (lv_at hl 1 rfl) ?_
  refine lv_dup hx hb dX12_named_14 rfl ?_
  refine va_get (D := D.1) (ci := 12) (v := .int (gI q_1 20)) (C := RX12) (T := TX12) (N := 114) hx hb hts wi_X12 hown X.1 X.2.1 0 rfl rfl 20 (by decide) (hts _ q6_214) (fun _ h9 => h9) (fl_get (by decide)) dX12_named_15 ?_
  refine lv_iconst (v := (1 : Int32)) hx hb dX12_named_18 (by decide) ?_
  refine lv_iadd hx hb dX12_named_19 ?_
  refine va_put (D := D.1) (ci := 12) (v := .int ((gI q_1 20) + (1 : Int32))) (ty := .int) (C := RX12) (T := TX12) (N := 114) hx hb hts wi_X12 tyX12 tyX12_ok nmX12 hown X.1 X.2.1 X.2.2.1 X.2.2.2.1 0 rfl rfl 20 (by decide) (hts _ q6_214) (fun _ h9 => h9) rfl (by decide +kernel) rfl rfl (by rw [List.length_map, List.length_range]; decide) dX12_named_20 (fun H locs hP hD hS => ?_)
  have X : Hx D (tX12 yT) A s H locs (wX12 hT aT yT (sI q_1 20 ((gI q_1 20) + (1 : Int32)))) := Hx_set X (wG_sI (k := 20) rfl) hP hD hS
  refine lv_aload_n hx hb dX12_named_23 rfl (lv_at hl 1 rfl) ?_
  refine va_get (D := D.1) (ci := 12) (v := .ref (aT 9)) (C := RX12) (T := TX12) (N := 114) hx hb hts wi_X12 hown X.1 X.2.1 0 rfl rfl 9 (by decide) (hts _ q6_203) (fun _ h9 => h9) (fl_get (by decide)) dX12_named_24 ?_
  refine lv_aload_n hx hb dX12_named_27 rfl (lv_at hl 1 rfl) ?_
  refine va_get (D := D.1) (ci := 12) (v := .int ((gI q_1 20) + (1 : Int32))) (C := RX12) (T := TX12) (N := 114) hx hb hts wi_X12 hown X.1 X.2.1 0 rfl rfl 20 (by decide) (hts _ q6_214) (fun _ h9 => h9) (fl_get (by decide)) dX12_named_28 ?_
  obtain ⟨h_3, hF⟩ := grd_some hF
  refine va_iald (D := D.1) (f := gIA q_1 9) hx hb X.1 X.2.1 4 3 rfl rfl (inB_ok h_3) dX12_named_31 ?_
  refine lv_bipush (v := (91 : Int32)) hx hb dX12_named_32 (by decide) ?_
  refine lv_icmp_eq (tgt := 57) hx hb dX12_named_34 (by decide) (fun c => ?_) (fun c => ?_)
  · replace hF := iT c hF
    refine lv_aload_n hx hb dX12_named_57 rfl (lv_at hl 1 rfl) ?_
    refine va_get (D := D.1) (ci := 12) (v := .int ((gI q_1 20) + (1 : Int32))) (C := RX12) (T := TX12) (N := 114) hx hb hts wi_X12 hown X.1 X.2.1 0 rfl rfl 20 (by decide) (hts _ q6_214) (fun _ h9 => h9) (fl_get (by decide)) dX12_named_58 ?_
    refine lv_istore_n (lv' := [(2, .int ((gI q_1 20) + (1 : Int32))), (1, .int (gI gT 20)), (0, .ref hT)]) hx hb dX12_named_61 rfl hl (by decide) rfl (fun ls hl => ?_)
    refine lv_aload_n hx hb dX12_named_62 rfl (lv_at hl 2 rfl) ?_
    obtain ⟨q_4, hc_5, hF⟩ := bnd_some hF
    refine cV_i (As := []) (rest := []) C X (c_X12_deeper l D hT aT yT (sI q_1 20 ((gI q_1 20) + (1 : Int32))) q_4 hc_5 _) (cwV 0 hts (good_V q8_228 q8_230 q0_91 q1_9 q8_231) rfl rfl rfl (by decide +kernel) ⟨rmf (by decide), rml (by decide)⟩) (va_recv X.1 X.2.1 (ci := 12) (q0 := 0) rfl rfl) X.1 X.2.1 X.2.2.1 (free_all X) hl.1 rfl rfl (Nat.le_of_ble_eq_true rfl) dX12_named_63 ⟨Nat.le_of_ble_eq_true rfl, Nat.le_of_ble_eq_true rfl⟩ (fun t H1 locs1 ht hB hk hS => ?_)
    have X : Hx D (tX12 yT) A s H1 locs1 (wX12 hT aT yT q_4.2) := Hx_after_all X ht hB hS
    clear hk hS ht hB
    generalize H1 = H at X ⊢
    generalize locs1 = locs at X ⊢
    refine lv_if_ne (tgt := 71) hx hb dX12_named_66 (by decide) (fun c => ?_) (fun c => ?_)
    · replace hF := iF c hF
      refine lv_aload_n hx hb dX12_named_71 rfl (lv_at hl 2 rfl) ?_
      refine lv_dup hx hb dX12_named_72 rfl ?_
      refine va_get (D := D.1) (ci := 12) (v := .int (gI q_4.2 20)) (C := RX12) (T := TX12) (N := 114) hx hb hts wi_X12 hown X.1 X.2.1 0 rfl rfl 20 (by decide) (hts _ q6_214) (fun _ h9 => h9) (fl_get (by decide)) dX12_named_73 ?_
      refine lv_iconst (v := (1 : Int32)) hx hb dX12_named_76 (by decide) ?_
      refine lv_iadd hx hb dX12_named_77 ?_
      refine va_put (D := D.1) (ci := 12) (v := .int ((gI q_4.2 20) + (1 : Int32))) (ty := .int) (C := RX12) (T := TX12) (N := 114) hx hb hts wi_X12 tyX12 tyX12_ok nmX12 hown X.1 X.2.1 X.2.2.1 X.2.2.2.1 0 rfl rfl 20 (by decide) (hts _ q6_214) (fun _ h9 => h9) rfl (by decide +kernel) rfl rfl (by rw [List.length_map, List.length_range]; decide) dX12_named_78 (fun H locs hP hD hS => ?_)
      have X : Hx D (tX12 yT) A s H locs (wX12 hT aT yT (sI q_4.2 20 ((gI q_4.2 20) + (1 : Int32)))) := Hx_set X (wG_sI (k := 20) rfl) hP hD hS
      refine lv_aload_n hx hb dX12_named_81 rfl (lv_at hl 2 rfl) ?_
      refine va_get (D := D.1) (ci := 12) (v := .int (gI q_4.2 27)) (C := RX12) (T := TX12) (N := 114) hx hb hts wi_X12 hown X.1 X.2.1 0 rfl rfl 27 (by decide) (hts _ q6_221) (fun _ h9 => h9) (fl_get (by decide)) dX12_named_82 ?_
      refine lv_istore_n (lv' := [(3, .int (gI q_4.2 27)), (2, .int ((gI q_1 20) + (1 : Int32))), (1, .int (gI gT 20)), (0, .ref hT)]) hx hb dX12_named_85 rfl hl (by decide) rfl (fun ls hl => ?_)
      refine lv_aload_n hx hb dX12_named_86 rfl (lv_at hl 3 rfl) ?_
      refine lv_iconst (v := (2 : Int32)) hx hb dX12_named_87 (by decide) ?_
      refine lv_iload_n hx hb dX12_named_88 rfl (lv_at hl 2 rfl) ?_
      refine lv_iconst (v := (-1 : Int32)) hx hb dX12_named_89 (by decide) ?_
      obtain ⟨q_6, hc_7, hF⟩ := bnd_some hF
      refine cV_v (As := [.int (2 : Int32), .int (gI gT 20), .int (-1 : Int32)]) (rest := []) C X (c_X12_name l D hT aT yT (sI q_4.2 20 ((gI q_4.2 20) + (1 : Int32))) (2 : Int32) (gI gT 20) (-1 : Int32) q_6 hc_7 _) (cwV 3 hts (good_V q8_185 q8_187 q0_81 q1_9 q8_188) rfl rfl rfl (by decide +kernel) ⟨rmf (by decide), rml (by decide)⟩) (va_recv X.1 X.2.1 (ci := 12) (q0 := 0) rfl rfl) X.1 X.2.1 X.2.2.1 (free_all X) hl.1 rfl rfl (Nat.le_of_ble_eq_true rfl) dX12_named_90 ⟨Nat.le_of_ble_eq_true rfl, Nat.le_of_ble_eq_true rfl⟩ (fun t H1 locs1 ht hB hk hS => ?_)
      have X : Hx D (tX12 yT) A s H1 locs1 (wX12 hT aT yT q_6) := Hx_after_all X ht hB hS
      clear hk hS ht hB
      generalize H1 = H at X ⊢
      generalize locs1 = locs at X ⊢
      refine lv_aload_n hx hb dX12_named_93 rfl (lv_at hl 3 rfl) ?_
      obtain ⟨q_8, hc_9, hF⟩ := bnd_some hF
      refine cV_i (As := []) (rest := []) C X (IR.2.2.2.2.2.2.2.2 q_6 q_8 hc_9 _) (cwV 0 hts (good_V q8_196 q8_198 q0_83 q1_9 q8_199) rfl rfl rfl (by decide +kernel) ⟨rgf, rgl (by decide)⟩) (va_recv X.1 X.2.1 (ci := 12) (q0 := 0) rfl rfl) X.1 X.2.1 X.2.2.1 (free_all X) hl.1 rfl rfl (Nat.le_of_ble_eq_true rfl) dX12_named_94 ⟨Nat.le_of_ble_eq_true rfl, Nat.le_of_ble_eq_true rfl⟩ (fun t H1 locs1 ht hB hk hS => ?_)
      have X : Hx D (tX12 yT) A s H1 locs1 (wX12 hT aT yT q_8.2) := Hx_after_all X ht hB hS
      clear hk hS ht hB
      generalize H1 = H at X ⊢
      generalize locs1 = locs at X ⊢
      refine lv_if_ne (tgt := 102) hx hb dX12_named_97 (by decide) (fun c => ?_) (fun c => ?_)
      · replace hF := iF c hF
        refine lv_aload_n hx hb dX12_named_102 rfl (lv_at hl 3 rfl) ?_
        refine lv_dup hx hb dX12_named_103 rfl ?_
        refine va_get (D := D.1) (ci := 12) (v := .int (gI q_8.2 25)) (C := RX12) (T := TX12) (N := 114) hx hb hts wi_X12 hown X.1 X.2.1 0 rfl rfl 25 (by decide) (hts _ q6_219) (fun _ h9 => h9) (fl_get (by decide)) dX12_named_104 ?_
        refine lv_iconst (v := (1 : Int32)) hx hb dX12_named_107 (by decide) ?_
        refine lv_isub hx hb dX12_named_108 ?_
        refine va_put (D := D.1) (ci := 12) (v := .int ((gI q_8.2 25) - (1 : Int32))) (ty := .int) (C := RX12) (T := TX12) (N := 114) hx hb hts wi_X12 tyX12 tyX12_ok nmX12 hown X.1 X.2.1 X.2.2.1 X.2.2.2.1 0 rfl rfl 25 (by decide) (hts _ q6_219) (fun _ h9 => h9) rfl (by decide +kernel) rfl rfl (by rw [List.length_map, List.length_range]; decide) dX12_named_109 (fun H locs hP hD hS => ?_)
        have X : Hx D (tX12 yT) A s H locs (wX12 hT aT yT (sI q_8.2 25 ((gI q_8.2 25) - (1 : Int32)))) := Hx_set X (wG_sI (k := 25) rfl) hP hD hS
        refine lv_aload_n hx hb dX12_named_112 rfl (lv_at hl 3 rfl) ?_
        refine va_get (D := D.1) (ci := 12) (v := .ref (aT 32)) (C := RX12) (T := TX12) (N := 114) hx hb hts wi_X12 hown X.1 X.2.1 0 rfl rfl 32 (by decide) (hts _ q6_226) (fun _ h9 => h9) (fl_get (by decide)) dX12_named_113 ?_
        refine lv_iload_n hx hb dX12_named_116 rfl (lv_at hl 0 rfl) ?_
        refine lv_aload_n hx hb dX12_named_117 rfl (lv_at hl 3 rfl) ?_
        refine lv_bipush (v := (6 : Int32)) hx hb dX12_named_118 (by decide) ?_
        refine lv_iconst (v := (0 : Int32)) hx hb dX12_named_120 (by decide) ?_
        refine lv_aload_n hx hb dX12_named_121 rfl (lv_at hl 3 rfl) ?_
        refine va_get (D := D.1) (ci := 12) (v := .ref (aT 10)) (C := RX12) (T := TX12) (N := 114) hx hb hts wi_X12 hown X.1 X.2.1 0 rfl rfl 10 (by decide) (hts _ q6_204) (fun _ h9 => h9) (fl_get (by decide)) dX12_named_122 ?_
        refine lv_iload_n hx hb dX12_named_125 rfl (lv_at hl 1 rfl) ?_
        obtain ⟨h_10, hF⟩ := grd_some hF
        refine va_iald (D := D.1) (f := gIA q_8.2 10) hx hb X.1 X.2.1 5 4 rfl rfl (inB_ok h_10) dX12_named_126 ?_
        obtain ⟨q_11, hc_12, hF⟩ := bnd_some hF
        refine cV_i (As := [.int (6 : Int32), .int (0 : Int32), .int (gIA q_8.2 10 ((gI q_1 20) + (1 : Int32)).toNatClampNeg)]) (rest := [.int (gI q_4.2 27), .ref (aT 32)]) C X (c_X12_act l D hT aT yT (sI q_8.2 25 ((gI q_8.2 25) - (1 : Int32))) (6 : Int32) (0 : Int32) (gIA q_8.2 10 ((gI q_1 20) + (1 : Int32)).toNatClampNeg) q_11 hc_12 _) (cwV 3 hts (good_V q8_236 q8_238 q0_93 q1_9 q8_239) rfl rfl rfl (by decide +kernel) ⟨rmf (by decide), rml (by decide)⟩) (va_recv X.1 X.2.1 (ci := 12) (q0 := 0) rfl rfl) X.1 X.2.1 X.2.2.1 (free_all X) hl.1 rfl rfl (Nat.le_of_ble_eq_true rfl) dX12_named_127 ⟨Nat.le_of_ble_eq_true rfl, Nat.le_of_ble_eq_true rfl⟩ (fun t H1 locs1 ht hB hk hS => ?_)
        have X : Hx D (tX12 yT) A s H1 locs1 (wX12 hT aT yT q_11.2) := Hx_after_all X ht hB hS
        clear hk hS ht hB
        generalize H1 = H at X ⊢
        generalize locs1 = locs at X ⊢
        obtain ⟨h_13, hF⟩ := grd_some hF
        refine va_iast (D := D.1) (f := gIA q_11.2 32) hx hb X.1 X.2.1 X.2.2.1 X.2.2.2.1 18 17 rfl rfl (inB_ok h_13) dX12_named_130 (fun H locs hP hD hS => ?_)
        have X : Hx D (tX12 yT) A s H locs (wX12 hT aT yT (sIA q_11.2 32 (upd (gIA q_11.2 32) (gI q_4.2 27).toNatClampNeg q_11.1))) := Hx_set X (wG_sIA (i := 17) (k := 32) ndX12 rfl rfl) hP hD hS
        refine lv_aload_n hx hb dX12_named_131 rfl (lv_at hl 3 rfl) ?_
        refine lv_bipush (v := (93 : Int32)) hx hb dX12_named_132 (by decide) ?_
        obtain ⟨q_14, hc_15, hF⟩ := bnd_some hF
        refine cV_i (As := [.int (93 : Int32)]) (rest := []) C X (c_X12_need l D hT aT yT (sIA q_11.2 32 (upd (gIA q_11.2 32) (gI q_4.2 27).toNatClampNeg q_11.1)) (93 : Int32) q_14 hc_15 _) (cwV 1 hts (good_V q8_189 q8_191 q0_82 q1_9 q8_192) rfl rfl rfl (by decide +kernel) ⟨rmf (by decide), rml (by decide)⟩) (va_recv X.1 X.2.1 (ci := 12) (q0 := 0) rfl rfl) X.1 X.2.1 X.2.2.1 (free_all X) hl.1 rfl rfl (Nat.le_of_ble_eq_true rfl) dX12_named_134 ⟨Nat.le_of_ble_eq_true rfl, Nat.le_of_ble_eq_true rfl⟩ (fun t H1 locs1 ht hB hk hS => ?_)
        have X : Hx D (tX12 yT) A s H1 locs1 (wX12 hT aT yT q_14.2) := Hx_after_all X ht hB hS
        clear hk hS ht hB
        generalize H1 = H at X ⊢
        generalize locs1 = locs at X ⊢
        obtain ⟨h_16, hF⟩ := grd_some hF
        have hq := Option.some.inj hF
        subst hq
        exact rt_z (v := q_14.1) C X (zB_n h_16) dX12_named_137
      · replace hF := iT c hF
        refine lv_iconst (v := (0 : Int32)) hx hb dX12_named_100 (by decide) ?_
        have hq := Option.some.inj hF
        subst hq
        exact rt_z (v := (0 : Int32)) C X (by decide) dX12_named_101
    · replace hF := iT c hF
      refine lv_iconst (v := (0 : Int32)) hx hb dX12_named_69 (by decide) ?_
      have hq := Option.some.inj hF
      subst hq
      exact rt_z (v := (0 : Int32)) C X (by decide) dX12_named_70
  · replace hF := iF c hF
    refine lv_aload_n hx hb dX12_named_37 rfl (lv_at hl 1 rfl) ?_
    refine lv_iconst (v := (1 : Int32)) hx hb dX12_named_38 (by decide) ?_
    refine lv_iload_n hx hb dX12_named_39 rfl (lv_at hl 0 rfl) ?_
    refine lv_aload_n hx hb dX12_named_40 rfl (lv_at hl 1 rfl) ?_
    refine lv_iconst (v := (4 : Int32)) hx hb dX12_named_41 (by decide) ?_
    refine lv_iconst (v := (0 : Int32)) hx hb dX12_named_42 (by decide) ?_
    refine lv_aload_n hx hb dX12_named_43 rfl (lv_at hl 1 rfl) ?_
    refine va_get (D := D.1) (ci := 12) (v := .ref (aT 10)) (C := RX12) (T := TX12) (N := 114) hx hb hts wi_X12 hown X.1 X.2.1 0 rfl rfl 10 (by decide) (hts _ q6_204) (fun _ h9 => h9) (fl_get (by decide)) dX12_named_44 ?_
    refine lv_iload_n hx hb dX12_named_47 rfl (lv_at hl 0 rfl) ?_
    obtain ⟨h_17, hF⟩ := grd_some hF
    refine va_iald (D := D.1) (f := gIA q_1 10) hx hb X.1 X.2.1 5 4 rfl rfl (inB_ok h_17) dX12_named_48 ?_
    obtain ⟨q_18, hc_19, hF⟩ := bnd_some hF
    refine cV_i (As := [.int (4 : Int32), .int (0 : Int32), .int (gIA q_1 10 (gI gT 20).toNatClampNeg)]) (rest := [.int (gI gT 20), .int (1 : Int32), .ref hT]) C X (c_X12_act l D hT aT yT (sI q_1 20 ((gI q_1 20) + (1 : Int32))) (4 : Int32) (0 : Int32) (gIA q_1 10 (gI gT 20).toNatClampNeg) q_18 hc_19 _) (cwV 3 hts (good_V q8_236 q8_238 q0_93 q1_9 q8_239) rfl rfl rfl (by decide +kernel) ⟨rmf (by decide), rml (by decide)⟩) (va_recv X.1 X.2.1 (ci := 12) (q0 := 0) rfl rfl) X.1 X.2.1 X.2.2.1 (free_all X) hl.1 rfl rfl (Nat.le_of_ble_eq_true rfl) dX12_named_49 ⟨Nat.le_of_ble_eq_true rfl, Nat.le_of_ble_eq_true rfl⟩ (fun t H1 locs1 ht hB hk hS => ?_)
    have X : Hx D (tX12 yT) A s H1 locs1 (wX12 hT aT yT q_18.2) := Hx_after_all X ht hB hS
    clear hk hS ht hB
    generalize H1 = H at X ⊢
    generalize locs1 = locs at X ⊢
    obtain ⟨q_20, hc_21, hF⟩ := bnd_some hF
    refine cV_v (As := [.int (1 : Int32), .int (gI gT 20), .int q_18.1]) (rest := []) C X (c_X12_name l D hT aT yT q_18.2 (1 : Int32) (gI gT 20) q_18.1 q_20 hc_21 _) (cwV 3 hts (good_V q8_185 q8_187 q0_81 q1_9 q8_188) rfl rfl rfl (by decide +kernel) ⟨rmf (by decide), rml (by decide)⟩) (va_recv X.1 X.2.1 (ci := 12) (q0 := 0) rfl rfl) X.1 X.2.1 X.2.2.1 (free_all X) hl.1 rfl rfl (Nat.le_of_ble_eq_true rfl) dX12_named_52 ⟨Nat.le_of_ble_eq_true rfl, Nat.le_of_ble_eq_true rfl⟩ (fun t H1 locs1 ht hB hk hS => ?_)
    have X : Hx D (tX12 yT) A s H1 locs1 (wX12 hT aT yT q_20) := Hx_after_all X ht hB hS
    clear hk hS ht hB
    generalize H1 = H at X ⊢
    generalize locs1 = locs at X ⊢
    refine lv_iconst (v := (1 : Int32)) hx hb dX12_named_55 (by decide) ?_
    have hq := Option.some.inj hF
    subst hq
    exact rt_z (v := (1 : Int32)) C X (by decide) dX12_named_56

/-! ### X12_primary -/
theorem dX12_primary_0 : decode cX12_primary 0 = .ok (.aload_n 0, 1) := by decide +kernel
theorem dX12_primary_1 : decode cX12_primary 1 = .ok (.getfield 116, 3) := by decide +kernel
theorem dX12_primary_4 : decode cX12_primary 4 = .ok (.istore_n 1, 1) := by decide +kernel
theorem dX12_primary_5 : decode cX12_primary 5 = .ok (.aload_n 0, 1) := by decide +kernel
theorem dX12_primary_6 : decode cX12_primary 6 = .ok (.getfield 82, 3) := by decide +kernel
theorem dX12_primary_9 : decode cX12_primary 9 = .ok (.aload_n 0, 1) := by decide +kernel
theorem dX12_primary_10 : decode cX12_primary 10 = .ok (.getfield 116, 3) := by decide +kernel
theorem dX12_primary_13 : decode cX12_primary 13 = .ok (.iaload, 1) := by decide +kernel
theorem dX12_primary_14 : decode cX12_primary 14 = .ok (.istore_n 2, 1) := by decide +kernel
theorem dX12_primary_15 : decode cX12_primary 15 = .ok (.iload_n 2, 1) := by decide +kernel
theorem dX12_primary_16 : decode cX12_primary 16 = .ok (.bipush 40, 2) := by decide +kernel
theorem dX12_primary_18 : decode cX12_primary 18 = .ok (.if_icmp .ne 52, 3) := by decide +kernel
theorem dX12_primary_21 : decode cX12_primary 21 = .ok (.aload_n 0, 1) := by decide +kernel
theorem dX12_primary_22 : decode cX12_primary 22 = .ok (.invokevirtual 551, 3) := by decide +kernel
theorem dX12_primary_25 : decode cX12_primary 25 = .ok (.ifCond .ne 5, 3) := by decide +kernel
theorem dX12_primary_28 : decode cX12_primary 28 = .ok (.iconst 0, 1) := by decide +kernel
theorem dX12_primary_29 : decode cX12_primary 29 = .ok (.ireturn, 1) := by decide +kernel
theorem dX12_primary_30 : decode cX12_primary 30 = .ok (.aload_n 0, 1) := by decide +kernel
theorem dX12_primary_31 : decode cX12_primary 31 = .ok (.dup, 1) := by decide +kernel
theorem dX12_primary_32 : decode cX12_primary 32 = .ok (.getfield 116, 3) := by decide +kernel
theorem dX12_primary_35 : decode cX12_primary 35 = .ok (.iconst 1, 1) := by decide +kernel
theorem dX12_primary_36 : decode cX12_primary 36 = .ok (.iadd, 1) := by decide +kernel
theorem dX12_primary_37 : decode cX12_primary 37 = .ok (.putfield 116, 3) := by decide +kernel
theorem dX12_primary_40 : decode cX12_primary 40 = .ok (.aload_n 0, 1) := by decide +kernel
theorem dX12_primary_41 : decode cX12_primary 41 = .ok (.invokevirtual 561, 3) := by decide +kernel
theorem dX12_primary_44 : decode cX12_primary 44 = .ok (.ifCond .eq 12, 3) := by decide +kernel
theorem dX12_primary_47 : decode cX12_primary 47 = .ok (.aload_n 0, 1) := by decide +kernel
theorem dX12_primary_48 : decode cX12_primary 48 = .ok (.bipush 41, 2) := by decide +kernel
theorem dX12_primary_50 : decode cX12_primary 50 = .ok (.invokevirtual 564, 3) := by decide +kernel
theorem dX12_primary_53 : decode cX12_primary 53 = .ok (.ifCond .ne 5, 3) := by decide +kernel
theorem dX12_primary_56 : decode cX12_primary 56 = .ok (.iconst 0, 1) := by decide +kernel
theorem dX12_primary_57 : decode cX12_primary 57 = .ok (.ireturn, 1) := by decide +kernel
theorem dX12_primary_58 : decode cX12_primary 58 = .ok (.aload_n 0, 1) := by decide +kernel
theorem dX12_primary_59 : decode cX12_primary 59 = .ok (.dup, 1) := by decide +kernel
theorem dX12_primary_60 : decode cX12_primary 60 = .ok (.getfield 131, 3) := by decide +kernel
theorem dX12_primary_63 : decode cX12_primary 63 = .ok (.iconst 1, 1) := by decide +kernel
theorem dX12_primary_64 : decode cX12_primary 64 = .ok (.isub, 1) := by decide +kernel
theorem dX12_primary_65 : decode cX12_primary 65 = .ok (.putfield 131, 3) := by decide +kernel
theorem dX12_primary_68 : decode cX12_primary 68 = .ok (.iconst 1, 1) := by decide +kernel
theorem dX12_primary_69 : decode cX12_primary 69 = .ok (.ireturn, 1) := by decide +kernel
theorem dX12_primary_70 : decode cX12_primary 70 = .ok (.iload_n 2, 1) := by decide +kernel
theorem dX12_primary_71 : decode cX12_primary 71 = .ok (.iconst 3, 1) := by decide +kernel
theorem dX12_primary_72 : decode cX12_primary 72 = .ok (.if_icmp .eq 17, 3) := by decide +kernel
theorem dX12_primary_75 : decode cX12_primary 75 = .ok (.iload_n 2, 1) := by decide +kernel
theorem dX12_primary_76 : decode cX12_primary 76 = .ok (.sipush 216, 3) := by decide +kernel
theorem dX12_primary_79 : decode cX12_primary 79 = .ok (.if_icmp .eq 10, 3) := by decide +kernel
theorem dX12_primary_82 : decode cX12_primary 82 = .ok (.iload_n 2, 1) := by decide +kernel
theorem dX12_primary_83 : decode cX12_primary 83 = .ok (.sipush 217, 3) := by decide +kernel
theorem dX12_primary_86 : decode cX12_primary 86 = .ok (.if_icmp .ne 91, 3) := by decide +kernel
theorem dX12_primary_89 : decode cX12_primary 89 = .ok (.aload_n 0, 1) := by decide +kernel
theorem dX12_primary_90 : decode cX12_primary 90 = .ok (.aload_n 0, 1) := by decide +kernel
theorem dX12_primary_91 : decode cX12_primary 91 = .ok (.getfield 116, 3) := by decide +kernel
theorem dX12_primary_94 : decode cX12_primary 94 = .ok (.invokevirtual 554, 3) := by decide +kernel
theorem dX12_primary_97 : decode cX12_primary 97 = .ok (.aload_n 0, 1) := by decide +kernel
theorem dX12_primary_98 : decode cX12_primary 98 = .ok (.iconst 1, 1) := by decide +kernel
theorem dX12_primary_99 : decode cX12_primary 99 = .ok (.iload_n 2, 1) := by decide +kernel
theorem dX12_primary_100 : decode cX12_primary 100 = .ok (.iconst 3, 1) := by decide +kernel
theorem dX12_primary_101 : decode cX12_primary 101 = .ok (.if_icmp .ne 15, 3) := by decide +kernel
theorem dX12_primary_104 : decode cX12_primary 104 = .ok (.aload_n 0, 1) := by decide +kernel
theorem dX12_primary_105 : decode cX12_primary 105 = .ok (.getfield 95, 3) := by decide +kernel
theorem dX12_primary_108 : decode cX12_primary 108 = .ok (.aload_n 0, 1) := by decide +kernel
theorem dX12_primary_109 : decode cX12_primary 109 = .ok (.getfield 116, 3) := by decide +kernel
theorem dX12_primary_112 : decode cX12_primary 112 = .ok (.iaload, 1) := by decide +kernel
theorem dX12_primary_113 : decode cX12_primary 113 = .ok (.goto 4, 3) := by decide +kernel
theorem dX12_primary_116 : decode cX12_primary 116 = .ok (.iconst 0, 1) := by decide +kernel
theorem dX12_primary_117 : decode cX12_primary 117 = .ok (.aload_n 0, 1) := by decide +kernel
theorem dX12_primary_118 : decode cX12_primary 118 = .ok (.getfield 86, 3) := by decide +kernel
theorem dX12_primary_121 : decode cX12_primary 121 = .ok (.aload_n 0, 1) := by decide +kernel
theorem dX12_primary_122 : decode cX12_primary 122 = .ok (.getfield 116, 3) := by decide +kernel
theorem dX12_primary_125 : decode cX12_primary 125 = .ok (.iaload, 1) := by decide +kernel
theorem dX12_primary_126 : decode cX12_primary 126 = .ok (.invokevirtual 557, 3) := by decide +kernel
theorem dX12_primary_129 : decode cX12_primary 129 = .ok (.istore_n 3, 1) := by decide +kernel
theorem dX12_primary_130 : decode cX12_primary 130 = .ok (.aload_n 0, 1) := by decide +kernel
theorem dX12_primary_131 : decode cX12_primary 131 = .ok (.getfield 110, 3) := by decide +kernel
theorem dX12_primary_134 : decode cX12_primary 134 = .ok (.iload_n 3, 1) := by decide +kernel
theorem dX12_primary_135 : decode cX12_primary 135 = .ok (.iload_n 2, 1) := by decide +kernel
theorem dX12_primary_136 : decode cX12_primary 136 = .ok (.iconst 3, 1) := by decide +kernel
theorem dX12_primary_137 : decode cX12_primary 137 = .ok (.if_icmp .ne 15, 3) := by decide +kernel
theorem dX12_primary_140 : decode cX12_primary 140 = .ok (.aload_n 0, 1) := by decide +kernel
theorem dX12_primary_141 : decode cX12_primary 141 = .ok (.getfield 92, 3) := by decide +kernel
theorem dX12_primary_144 : decode cX12_primary 144 = .ok (.aload_n 0, 1) := by decide +kernel
theorem dX12_primary_145 : decode cX12_primary 145 = .ok (.getfield 116, 3) := by decide +kernel
theorem dX12_primary_148 : decode cX12_primary 148 = .ok (.laload, 1) := by decide +kernel
theorem dX12_primary_149 : decode cX12_primary 149 = .ok (.goto 15, 3) := by decide +kernel
theorem dX12_primary_152 : decode cX12_primary 152 = .ok (.iload_n 2, 1) := by decide +kernel
theorem dX12_primary_153 : decode cX12_primary 153 = .ok (.sipush 216, 3) := by decide +kernel
theorem dX12_primary_156 : decode cX12_primary 156 = .ok (.if_icmp .ne 7, 3) := by decide +kernel
theorem dX12_primary_159 : decode cX12_primary 159 = .ok (.lconst 1, 1) := by decide +kernel
theorem dX12_primary_160 : decode cX12_primary 160 = .ok (.goto 4, 3) := by decide +kernel
theorem dX12_primary_163 : decode cX12_primary 163 = .ok (.lconst 0, 1) := by decide +kernel
theorem dX12_primary_164 : decode cX12_primary 164 = .ok (.lastore, 1) := by decide +kernel
theorem dX12_primary_165 : decode cX12_primary 165 = .ok (.aload_n 0, 1) := by decide +kernel
theorem dX12_primary_166 : decode cX12_primary 166 = .ok (.dup, 1) := by decide +kernel
theorem dX12_primary_167 : decode cX12_primary 167 = .ok (.getfield 116, 3) := by decide +kernel
theorem dX12_primary_170 : decode cX12_primary 170 = .ok (.iconst 1, 1) := by decide +kernel
theorem dX12_primary_171 : decode cX12_primary 171 = .ok (.iadd, 1) := by decide +kernel
theorem dX12_primary_172 : decode cX12_primary 172 = .ok (.putfield 116, 3) := by decide +kernel
theorem dX12_primary_175 : decode cX12_primary 175 = .ok (.iconst 1, 1) := by decide +kernel
theorem dX12_primary_176 : decode cX12_primary 176 = .ok (.ireturn, 1) := by decide +kernel
theorem dX12_primary_177 : decode cX12_primary 177 = .ok (.iload_n 2, 1) := by decide +kernel
theorem dX12_primary_178 : decode cX12_primary 178 = .ok (.sipush 208, 3) := by decide +kernel
theorem dX12_primary_181 : decode cX12_primary 181 = .ok (.if_icmp .eq 10, 3) := by decide +kernel
theorem dX12_primary_184 : decode cX12_primary 184 = .ok (.iload_n 2, 1) := by decide +kernel
theorem dX12_primary_185 : decode cX12_primary 185 = .ok (.sipush 207, 3) := by decide +kernel
theorem dX12_primary_188 : decode cX12_primary 188 = .ok (.if_icmp .ne 50, 3) := by decide +kernel
theorem dX12_primary_191 : decode cX12_primary 191 = .ok (.aload_n 0, 1) := by decide +kernel
theorem dX12_primary_192 : decode cX12_primary 192 = .ok (.aload_n 0, 1) := by decide +kernel
theorem dX12_primary_193 : decode cX12_primary 193 = .ok (.getfield 116, 3) := by decide +kernel
theorem dX12_primary_196 : decode cX12_primary 196 = .ok (.invokevirtual 554, 3) := by decide +kernel
theorem dX12_primary_199 : decode cX12_primary 199 = .ok (.aload_n 0, 1) := by decide +kernel
theorem dX12_primary_200 : decode cX12_primary 200 = .ok (.iload_n 2, 1) := by decide +kernel
theorem dX12_primary_201 : decode cX12_primary 201 = .ok (.sipush 208, 3) := by decide +kernel
theorem dX12_primary_204 : decode cX12_primary 204 = .ok (.if_icmp .ne 7, 3) := by decide +kernel
theorem dX12_primary_207 : decode cX12_primary 207 = .ok (.iconst 2, 1) := by decide +kernel
theorem dX12_primary_208 : decode cX12_primary 208 = .ok (.goto 4, 3) := by decide +kernel
theorem dX12_primary_211 : decode cX12_primary 211 = .ok (.iconst 3, 1) := by decide +kernel
theorem dX12_primary_212 : decode cX12_primary 212 = .ok (.iconst 0, 1) := by decide +kernel
theorem dX12_primary_213 : decode cX12_primary 213 = .ok (.aload_n 0, 1) := by decide +kernel
theorem dX12_primary_214 : decode cX12_primary 214 = .ok (.getfield 86, 3) := by decide +kernel
theorem dX12_primary_217 : decode cX12_primary 217 = .ok (.aload_n 0, 1) := by decide +kernel
theorem dX12_primary_218 : decode cX12_primary 218 = .ok (.getfield 116, 3) := by decide +kernel
theorem dX12_primary_221 : decode cX12_primary 221 = .ok (.iaload, 1) := by decide +kernel
theorem dX12_primary_222 : decode cX12_primary 222 = .ok (.invokevirtual 557, 3) := by decide +kernel
theorem dX12_primary_225 : decode cX12_primary 225 = .ok (.pop, 1) := by decide +kernel
theorem dX12_primary_226 : decode cX12_primary 226 = .ok (.aload_n 0, 1) := by decide +kernel
theorem dX12_primary_227 : decode cX12_primary 227 = .ok (.dup, 1) := by decide +kernel
theorem dX12_primary_228 : decode cX12_primary 228 = .ok (.getfield 116, 3) := by decide +kernel
theorem dX12_primary_231 : decode cX12_primary 231 = .ok (.iconst 1, 1) := by decide +kernel
theorem dX12_primary_232 : decode cX12_primary 232 = .ok (.iadd, 1) := by decide +kernel
theorem dX12_primary_233 : decode cX12_primary 233 = .ok (.putfield 116, 3) := by decide +kernel
theorem dX12_primary_236 : decode cX12_primary 236 = .ok (.iconst 1, 1) := by decide +kernel
theorem dX12_primary_237 : decode cX12_primary 237 = .ok (.ireturn, 1) := by decide +kernel
theorem dX12_primary_238 : decode cX12_primary 238 = .ok (.iload_n 2, 1) := by decide +kernel
theorem dX12_primary_239 : decode cX12_primary 239 = .ok (.iconst 2, 1) := by decide +kernel
theorem dX12_primary_240 : decode cX12_primary 240 = .ok (.if_icmp .ne 8, 3) := by decide +kernel
theorem dX12_primary_243 : decode cX12_primary 243 = .ok (.aload_n 0, 1) := by decide +kernel
theorem dX12_primary_244 : decode cX12_primary 244 = .ok (.invokevirtual 588, 3) := by decide +kernel
theorem dX12_primary_247 : decode cX12_primary 247 = .ok (.ireturn, 1) := by decide +kernel
theorem dX12_primary_248 : decode cX12_primary 248 = .ok (.iload_n 2, 1) := by decide +kernel
theorem dX12_primary_249 : decode cX12_primary 249 = .ok (.sipush 206, 3) := by decide +kernel
theorem dX12_primary_252 : decode cX12_primary 252 = .ok (.if_icmp .ne 128, 3) := by decide +kernel
theorem dX12_primary_255 : decode cX12_primary 255 = .ok (.aload_n 0, 1) := by decide +kernel
theorem dX12_primary_256 : decode cX12_primary 256 = .ok (.aload_n 0, 1) := by decide +kernel
theorem dX12_primary_257 : decode cX12_primary 257 = .ok (.getfield 116, 3) := by decide +kernel
theorem dX12_primary_260 : decode cX12_primary 260 = .ok (.invokevirtual 554, 3) := by decide +kernel
theorem dX12_primary_263 : decode cX12_primary 263 = .ok (.aload_n 0, 1) := by decide +kernel
theorem dX12_primary_264 : decode cX12_primary 264 = .ok (.dup, 1) := by decide +kernel
theorem dX12_primary_265 : decode cX12_primary 265 = .ok (.getfield 116, 3) := by decide +kernel
theorem dX12_primary_268 : decode cX12_primary 268 = .ok (.iconst 1, 1) := by decide +kernel
theorem dX12_primary_269 : decode cX12_primary 269 = .ok (.iadd, 1) := by decide +kernel
theorem dX12_primary_270 : decode cX12_primary 270 = .ok (.putfield 116, 3) := by decide +kernel
theorem dX12_primary_273 : decode cX12_primary 273 = .ok (.aload_n 0, 1) := by decide +kernel
theorem dX12_primary_274 : decode cX12_primary 274 = .ok (.getfield 82, 3) := by decide +kernel
theorem dX12_primary_277 : decode cX12_primary 277 = .ok (.aload_n 0, 1) := by decide +kernel
theorem dX12_primary_278 : decode cX12_primary 278 = .ok (.getfield 116, 3) := by decide +kernel
theorem dX12_primary_281 : decode cX12_primary 281 = .ok (.iaload, 1) := by decide +kernel
theorem dX12_primary_282 : decode cX12_primary 282 = .ok (.bipush 40, 2) := by decide +kernel
theorem dX12_primary_284 : decode cX12_primary 284 = .ok (.if_icmp .eq 8, 3) := by decide +kernel
theorem dX12_primary_287 : decode cX12_primary 287 = .ok (.aload_n 0, 1) := by decide +kernel
theorem dX12_primary_288 : decode cX12_primary 288 = .ok (.invokevirtual 544, 3) := by decide +kernel
theorem dX12_primary_291 : decode cX12_primary 291 = .ok (.ireturn, 1) := by decide +kernel
theorem dX12_primary_292 : decode cX12_primary 292 = .ok (.aload_n 0, 1) := by decide +kernel
theorem dX12_primary_293 : decode cX12_primary 293 = .ok (.invokevirtual 551, 3) := by decide +kernel
theorem dX12_primary_296 : decode cX12_primary 296 = .ok (.ifCond .ne 5, 3) := by decide +kernel
theorem dX12_primary_299 : decode cX12_primary 299 = .ok (.iconst 0, 1) := by decide +kernel
theorem dX12_primary_300 : decode cX12_primary 300 = .ok (.ireturn, 1) := by decide +kernel
theorem dX12_primary_301 : decode cX12_primary 301 = .ok (.aload_n 0, 1) := by decide +kernel
theorem dX12_primary_302 : decode cX12_primary 302 = .ok (.dup, 1) := by decide +kernel
theorem dX12_primary_303 : decode cX12_primary 303 = .ok (.getfield 116, 3) := by decide +kernel
theorem dX12_primary_306 : decode cX12_primary 306 = .ok (.iconst 1, 1) := by decide +kernel
theorem dX12_primary_307 : decode cX12_primary 307 = .ok (.iadd, 1) := by decide +kernel
theorem dX12_primary_308 : decode cX12_primary 308 = .ok (.putfield 116, 3) := by decide +kernel
theorem dX12_primary_311 : decode cX12_primary 311 = .ok (.aload_n 0, 1) := by decide +kernel
theorem dX12_primary_312 : decode cX12_primary 312 = .ok (.getfield 82, 3) := by decide +kernel
theorem dX12_primary_315 : decode cX12_primary 315 = .ok (.aload_n 0, 1) := by decide +kernel
theorem dX12_primary_316 : decode cX12_primary 316 = .ok (.getfield 116, 3) := by decide +kernel
theorem dX12_primary_319 : decode cX12_primary 319 = .ok (.iaload, 1) := by decide +kernel
theorem dX12_primary_320 : decode cX12_primary 320 = .ok (.iconst 2, 1) := by decide +kernel
theorem dX12_primary_321 : decode cX12_primary 321 = .ok (.if_icmp .eq 8, 3) := by decide +kernel
theorem dX12_primary_324 : decode cX12_primary 324 = .ok (.aload_n 0, 1) := by decide +kernel
theorem dX12_primary_325 : decode cX12_primary 325 = .ok (.invokevirtual 544, 3) := by decide +kernel
theorem dX12_primary_328 : decode cX12_primary 328 = .ok (.ireturn, 1) := by decide +kernel
theorem dX12_primary_329 : decode cX12_primary 329 = .ok (.aload_n 0, 1) := by decide +kernel
theorem dX12_primary_330 : decode cX12_primary 330 = .ok (.iconst 1, 1) := by decide +kernel
theorem dX12_primary_331 : decode cX12_primary 331 = .ok (.aload_n 0, 1) := by decide +kernel
theorem dX12_primary_332 : decode cX12_primary 332 = .ok (.getfield 116, 3) := by decide +kernel
theorem dX12_primary_335 : decode cX12_primary 335 = .ok (.aload_n 0, 1) := by decide +kernel
theorem dX12_primary_336 : decode cX12_primary 336 = .ok (.iconst 5, 1) := by decide +kernel
theorem dX12_primary_337 : decode cX12_primary 337 = .ok (.iconst 0, 1) := by decide +kernel
theorem dX12_primary_338 : decode cX12_primary 338 = .ok (.aload_n 0, 1) := by decide +kernel
theorem dX12_primary_339 : decode cX12_primary 339 = .ok (.getfield 86, 3) := by decide +kernel
theorem dX12_primary_342 : decode cX12_primary 342 = .ok (.aload_n 0, 1) := by decide +kernel
theorem dX12_primary_343 : decode cX12_primary 343 = .ok (.getfield 116, 3) := by decide +kernel
theorem dX12_primary_346 : decode cX12_primary 346 = .ok (.iaload, 1) := by decide +kernel
theorem dX12_primary_347 : decode cX12_primary 347 = .ok (.invokevirtual 557, 3) := by decide +kernel
theorem dX12_primary_350 : decode cX12_primary 350 = .ok (.invokevirtual 591, 3) := by decide +kernel
theorem dX12_primary_353 : decode cX12_primary 353 = .ok (.aload_n 0, 1) := by decide +kernel
theorem dX12_primary_354 : decode cX12_primary 354 = .ok (.dup, 1) := by decide +kernel
theorem dX12_primary_355 : decode cX12_primary 355 = .ok (.getfield 116, 3) := by decide +kernel
theorem dX12_primary_358 : decode cX12_primary 358 = .ok (.iconst 1, 1) := by decide +kernel
theorem dX12_primary_359 : decode cX12_primary 359 = .ok (.iadd, 1) := by decide +kernel
theorem dX12_primary_360 : decode cX12_primary 360 = .ok (.putfield 116, 3) := by decide +kernel
theorem dX12_primary_363 : decode cX12_primary 363 = .ok (.aload_n 0, 1) := by decide +kernel
theorem dX12_primary_364 : decode cX12_primary 364 = .ok (.dup, 1) := by decide +kernel
theorem dX12_primary_365 : decode cX12_primary 365 = .ok (.getfield 131, 3) := by decide +kernel
theorem dX12_primary_368 : decode cX12_primary 368 = .ok (.iconst 1, 1) := by decide +kernel
theorem dX12_primary_369 : decode cX12_primary 369 = .ok (.isub, 1) := by decide +kernel
theorem dX12_primary_370 : decode cX12_primary 370 = .ok (.putfield 131, 3) := by decide +kernel
theorem dX12_primary_373 : decode cX12_primary 373 = .ok (.aload_n 0, 1) := by decide +kernel
theorem dX12_primary_374 : decode cX12_primary 374 = .ok (.bipush 41, 2) := by decide +kernel
theorem dX12_primary_376 : decode cX12_primary 376 = .ok (.invokevirtual 564, 3) := by decide +kernel
theorem dX12_primary_379 : decode cX12_primary 379 = .ok (.ireturn, 1) := by decide +kernel
theorem dX12_primary_380 : decode cX12_primary 380 = .ok (.iload_n 2, 1) := by decide +kernel
theorem dX12_primary_381 : decode cX12_primary 381 = .ok (.sipush 209, 3) := by decide +kernel
theorem dX12_primary_384 : decode cX12_primary 384 = .ok (.if_icmp .lt 10, 3) := by decide +kernel
theorem dX12_primary_387 : decode cX12_primary 387 = .ok (.iload_n 2, 1) := by decide +kernel
theorem dX12_primary_388 : decode cX12_primary 388 = .ok (.sipush 215, 3) := by decide +kernel
theorem dX12_primary_391 : decode cX12_primary 391 = .ok (.if_icmp .le 8, 3) := by decide +kernel
theorem dX12_primary_394 : decode cX12_primary 394 = .ok (.aload_n 0, 1) := by decide +kernel
theorem dX12_primary_395 : decode cX12_primary 395 = .ok (.invokevirtual 544, 3) := by decide +kernel
theorem dX12_primary_398 : decode cX12_primary 398 = .ok (.ireturn, 1) := by decide +kernel
theorem dX12_primary_399 : decode cX12_primary 399 = .ok (.aload_n 0, 1) := by decide +kernel
theorem dX12_primary_400 : decode cX12_primary 400 = .ok (.aload_n 0, 1) := by decide +kernel
theorem dX12_primary_401 : decode cX12_primary 401 = .ok (.getfield 116, 3) := by decide +kernel
theorem dX12_primary_404 : decode cX12_primary 404 = .ok (.invokevirtual 554, 3) := by decide +kernel
theorem dX12_primary_407 : decode cX12_primary 407 = .ok (.aload_n 0, 1) := by decide +kernel
theorem dX12_primary_408 : decode cX12_primary 408 = .ok (.dup, 1) := by decide +kernel
theorem dX12_primary_409 : decode cX12_primary 409 = .ok (.getfield 116, 3) := by decide +kernel
theorem dX12_primary_412 : decode cX12_primary 412 = .ok (.iconst 1, 1) := by decide +kernel
theorem dX12_primary_413 : decode cX12_primary 413 = .ok (.iadd, 1) := by decide +kernel
theorem dX12_primary_414 : decode cX12_primary 414 = .ok (.putfield 116, 3) := by decide +kernel
theorem dX12_primary_417 : decode cX12_primary 417 = .ok (.aload_n 0, 1) := by decide +kernel
theorem dX12_primary_418 : decode cX12_primary 418 = .ok (.getfield 82, 3) := by decide +kernel
theorem dX12_primary_421 : decode cX12_primary 421 = .ok (.aload_n 0, 1) := by decide +kernel
theorem dX12_primary_422 : decode cX12_primary 422 = .ok (.getfield 116, 3) := by decide +kernel
theorem dX12_primary_425 : decode cX12_primary 425 = .ok (.iaload, 1) := by decide +kernel
theorem dX12_primary_426 : decode cX12_primary 426 = .ok (.bipush 40, 2) := by decide +kernel
theorem dX12_primary_428 : decode cX12_primary 428 = .ok (.if_icmp .eq 8, 3) := by decide +kernel
theorem dX12_primary_431 : decode cX12_primary 431 = .ok (.aload_n 0, 1) := by decide +kernel
theorem dX12_primary_432 : decode cX12_primary 432 = .ok (.invokevirtual 544, 3) := by decide +kernel
theorem dX12_primary_435 : decode cX12_primary 435 = .ok (.ireturn, 1) := by decide +kernel
theorem dX12_primary_436 : decode cX12_primary 436 = .ok (.aload_n 0, 1) := by decide +kernel
theorem dX12_primary_437 : decode cX12_primary 437 = .ok (.invokevirtual 551, 3) := by decide +kernel
theorem dX12_primary_440 : decode cX12_primary 440 = .ok (.ifCond .ne 5, 3) := by decide +kernel
theorem dX12_primary_443 : decode cX12_primary 443 = .ok (.iconst 0, 1) := by decide +kernel
theorem dX12_primary_444 : decode cX12_primary 444 = .ok (.ireturn, 1) := by decide +kernel
theorem dX12_primary_445 : decode cX12_primary 445 = .ok (.aload_n 0, 1) := by decide +kernel
theorem dX12_primary_446 : decode cX12_primary 446 = .ok (.dup, 1) := by decide +kernel
theorem dX12_primary_447 : decode cX12_primary 447 = .ok (.getfield 116, 3) := by decide +kernel
theorem dX12_primary_450 : decode cX12_primary 450 = .ok (.iconst 1, 1) := by decide +kernel
theorem dX12_primary_451 : decode cX12_primary 451 = .ok (.iadd, 1) := by decide +kernel
theorem dX12_primary_452 : decode cX12_primary 452 = .ok (.putfield 116, 3) := by decide +kernel
theorem dX12_primary_455 : decode cX12_primary 455 = .ok (.aload_n 0, 1) := by decide +kernel
theorem dX12_primary_456 : decode cX12_primary 456 = .ok (.invokevirtual 561, 3) := by decide +kernel
theorem dX12_primary_459 : decode cX12_primary 459 = .ok (.ifCond .ne 5, 3) := by decide +kernel
theorem dX12_primary_462 : decode cX12_primary 462 = .ok (.iconst 0, 1) := by decide +kernel
theorem dX12_primary_463 : decode cX12_primary 463 = .ok (.ireturn, 1) := by decide +kernel
theorem dX12_primary_464 : decode cX12_primary 464 = .ok (.iload_n 2, 1) := by decide +kernel
theorem dX12_primary_465 : decode cX12_primary 465 = .ok (.sipush 213, 3) := by decide +kernel
theorem dX12_primary_468 : decode cX12_primary 468 = .ok (.if_icmp .lt 21, 3) := by decide +kernel
theorem dX12_primary_471 : decode cX12_primary 471 = .ok (.aload_n 0, 1) := by decide +kernel
theorem dX12_primary_472 : decode cX12_primary 472 = .ok (.bipush 44, 2) := by decide +kernel
theorem dX12_primary_474 : decode cX12_primary 474 = .ok (.invokevirtual 564, 3) := by decide +kernel
theorem dX12_primary_477 : decode cX12_primary 477 = .ok (.ifCond .eq 10, 3) := by decide +kernel
theorem dX12_primary_480 : decode cX12_primary 480 = .ok (.aload_n 0, 1) := by decide +kernel
theorem dX12_primary_481 : decode cX12_primary 481 = .ok (.invokevirtual 561, 3) := by decide +kernel
theorem dX12_primary_484 : decode cX12_primary 484 = .ok (.ifCond .ne 5, 3) := by decide +kernel
theorem dX12_primary_487 : decode cX12_primary 487 = .ok (.iconst 0, 1) := by decide +kernel
theorem dX12_primary_488 : decode cX12_primary 488 = .ok (.ireturn, 1) := by decide +kernel
theorem dX12_primary_489 : decode cX12_primary 489 = .ok (.aload_n 0, 1) := by decide +kernel
theorem dX12_primary_490 : decode cX12_primary 490 = .ok (.dup, 1) := by decide +kernel
theorem dX12_primary_491 : decode cX12_primary 491 = .ok (.getfield 131, 3) := by decide +kernel
theorem dX12_primary_494 : decode cX12_primary 494 = .ok (.iconst 1, 1) := by decide +kernel
theorem dX12_primary_495 : decode cX12_primary 495 = .ok (.isub, 1) := by decide +kernel
theorem dX12_primary_496 : decode cX12_primary 496 = .ok (.putfield 131, 3) := by decide +kernel
theorem dX12_primary_499 : decode cX12_primary 499 = .ok (.aload_n 0, 1) := by decide +kernel
theorem dX12_primary_500 : decode cX12_primary 500 = .ok (.iload_n 2, 1) := by decide +kernel
theorem dX12_primary_501 : decode cX12_primary 501 = .ok (.sipush 213, 3) := by decide +kernel
theorem dX12_primary_504 : decode cX12_primary 504 = .ok (.if_icmp .lt 8, 3) := by decide +kernel
theorem dX12_primary_507 : decode cX12_primary 507 = .ok (.bipush 11, 2) := by decide +kernel
theorem dX12_primary_509 : decode cX12_primary 509 = .ok (.goto 5, 3) := by decide +kernel
theorem dX12_primary_512 : decode cX12_primary 512 = .ok (.bipush 10, 2) := by decide +kernel
theorem dX12_primary_514 : decode cX12_primary 514 = .ok (.iload_n 2, 1) := by decide +kernel
theorem dX12_primary_515 : decode cX12_primary 515 = .ok (.aload_n 0, 1) := by decide +kernel
theorem dX12_primary_516 : decode cX12_primary 516 = .ok (.getfield 86, 3) := by decide +kernel
theorem dX12_primary_519 : decode cX12_primary 519 = .ok (.iload_n 1, 1) := by decide +kernel
theorem dX12_primary_520 : decode cX12_primary 520 = .ok (.iaload, 1) := by decide +kernel
theorem dX12_primary_521 : decode cX12_primary 521 = .ok (.invokevirtual 557, 3) := by decide +kernel
theorem dX12_primary_524 : decode cX12_primary 524 = .ok (.pop, 1) := by decide +kernel
theorem dX12_primary_525 : decode cX12_primary 525 = .ok (.aload_n 0, 1) := by decide +kernel
theorem dX12_primary_526 : decode cX12_primary 526 = .ok (.bipush 41, 2) := by decide +kernel
theorem dX12_primary_528 : decode cX12_primary 528 = .ok (.invokevirtual 564, 3) := by decide +kernel
theorem dX12_primary_531 : decode cX12_primary 531 = .ok (.ireturn, 1) := by decide +kernel
def b_X12_primary_164 (n : Nat) (rc : RCT) (gT : Gs) (s0 : Int64) (s1 : Int32) : Option (Int32 × Gs) :=
  grd (inB s1 8000) (some ((1 : Int32), (sI (sLA gT 18 (vp_updL (gLA gT 18) s1.toNatClampNeg s0)) 20 ((gI gT 20) + (1 : Int32)))))
def b_X12_primary_117 (n : Nat) (rc : RCT) (gT : Gs) (v2 : Int32) (s0 : Int32) (s1 : Int32) : Option (Int32 × Gs) :=
  grd (inB (gI gT 20) 3001) (bnd (f_X12_act gT s1 s0 (gIA gT 10 (gI gT 20).toNatClampNeg)) (fun q_5 => if v2 = (3 : Int32) then (grd (inB (gI q_5.2 20) 3001) (b_X12_primary_164 n rc q_5.2 (gLA q_5.2 12 (gI q_5.2 20).toNatClampNeg) q_5.1)) else (if v2 = (216 : Int32) then (b_X12_primary_164 n rc q_5.2 (1 : Int64) q_5.1) else (b_X12_primary_164 n rc q_5.2 (0 : Int64) q_5.1))))
def b_X12_primary_89 (n : Nat) (rc : RCT) (gT : Gs) (v2 : Int32) : Option (Int32 × Gs) :=
  bnd (f_X12_node gT (gI gT 20)) (fun q_2 => if v2 = (3 : Int32) then (grd (inB (gI q_2 20) 3001) (b_X12_primary_117 n rc q_2 v2 (gIA q_2 13 (gI q_2 20).toNatClampNeg) (1 : Int32))) else (b_X12_primary_117 n rc q_2 v2 (0 : Int32) (1 : Int32)))
def b_X12_primary_212 (n : Nat) (rc : RCT) (gT : Gs) (s0 : Int32) : Option (Int32 × Gs) :=
  grd (inB (gI gT 20) 3001) (bnd (f_X12_act gT s0 (0 : Int32) (gIA gT 10 (gI gT 20).toNatClampNeg)) (fun q_13 => some ((1 : Int32), (sI q_13.2 20 ((gI q_13.2 20) + (1 : Int32))))))
def b_X12_primary_191 (n : Nat) (rc : RCT) (gT : Gs) (v2 : Int32) : Option (Int32 × Gs) :=
  bnd (f_X12_node gT (gI gT 20)) (fun q_10 => if v2 = (208 : Int32) then (b_X12_primary_212 n rc q_10 (2 : Int32)) else (b_X12_primary_212 n rc q_10 (3 : Int32)))
def b_X12_primary_394 (n : Nat) (rc : RCT) (gT : Gs) : Option (Int32 × Gs) :=
  bnd (f_X12_cannot gT) (fun q_15 => grd (zB q_15.1) (some (q_15.1, q_15.2)))
def b_X12_primary_514 (n : Nat) (rc : RCT) (gT : Gs) (v1 : Int32) (v2 : Int32) (s0 : Int32) : Option (Int32 × Gs) :=
  grd (inB v1 3001) (bnd (f_X12_act gT s0 v2 (gIA gT 10 v1.toNatClampNeg)) (fun q_26 => bnd (f_X12_need q_26.2 (41 : Int32)) (fun q_28 => grd (zB q_28.1) (some (q_28.1, q_28.2)))))
def b_X12_primary_489 (n : Nat) (rc : RCT) (gT : Gs) (v1 : Int32) (v2 : Int32) : Option (Int32 × Gs) :=
  if v2 < (213 : Int32) then (b_X12_primary_514 n rc (sI gT 25 ((gI gT 25) - (1 : Int32))) v1 v2 (10 : Int32)) else (b_X12_primary_514 n rc (sI gT 25 ((gI gT 25) - (1 : Int32))) v1 v2 (11 : Int32))
def f_X12_primary (n : Nat) (rc : RCT) (gT : Gs) : Option (Int32 × Gs) :=
  grd (inB (gI gT 20) 3001) (if (gIA gT 9 (gI gT 20).toNatClampNeg) = (40 : Int32) then (bnd (f_X12_deeper gT) (fun q_61 => if q_61.1 = 0 then (some ((0 : Int32), q_61.2)) else (bnd (rc.2.2.2.2.2.2.2.2 (sI q_61.2 20 ((gI q_61.2 20) + (1 : Int32)))) (fun q_63 => if q_63.1 = 0 then (some ((0 : Int32), q_63.2)) else (bnd (f_X12_need q_63.2 (41 : Int32)) (fun q_65 => if q_65.1 = 0 then (some ((0 : Int32), q_65.2)) else (some ((1 : Int32), (sI q_65.2 25 ((gI q_65.2 25) - (1 : Int32))))))))))) else (if (gIA gT 9 (gI gT 20).toNatClampNeg) = (3 : Int32) then (b_X12_primary_89 n rc gT (gIA gT 9 (gI gT 20).toNatClampNeg)) else (if (gIA gT 9 (gI gT 20).toNatClampNeg) = (216 : Int32) then (b_X12_primary_89 n rc gT (gIA gT 9 (gI gT 20).toNatClampNeg)) else (if (gIA gT 9 (gI gT 20).toNatClampNeg) = (217 : Int32) then (b_X12_primary_89 n rc gT (gIA gT 9 (gI gT 20).toNatClampNeg)) else (if (gIA gT 9 (gI gT 20).toNatClampNeg) = (208 : Int32) then (b_X12_primary_191 n rc gT (gIA gT 9 (gI gT 20).toNatClampNeg)) else (if (gIA gT 9 (gI gT 20).toNatClampNeg) = (207 : Int32) then (b_X12_primary_191 n rc gT (gIA gT 9 (gI gT 20).toNatClampNeg)) else (if (gIA gT 9 (gI gT 20).toNatClampNeg) = (2 : Int32) then (bnd (rc.1 gT) (fun q_58 => grd (zB q_58.1) (some (q_58.1, q_58.2)))) else (if (gIA gT 9 (gI gT 20).toNatClampNeg) = (206 : Int32) then (bnd (f_X12_node gT (gI gT 20)) (fun q_38 => grd (inB ((gI q_38 20) + (1 : Int32)) 3001) (if (gIA q_38 9 ((gI q_38 20) + (1 : Int32)).toNatClampNeg) = (40 : Int32) then (bnd (f_X12_deeper (sI q_38 20 ((gI q_38 20) + (1 : Int32)))) (fun q_41 => if q_41.1 = 0 then (some ((0 : Int32), q_41.2)) else (grd (inB ((gI q_41.2 20) + (1 : Int32)) 3001) (if (gIA q_41.2 9 ((gI q_41.2 20) + (1 : Int32)).toNatClampNeg) = (2 : Int32) then (grd (inB ((gI q_41.2 20) + (1 : Int32)) 3001) (bnd (f_X12_act (sI q_41.2 20 ((gI q_41.2 20) + (1 : Int32))) (5 : Int32) (0 : Int32) (gIA q_41.2 10 ((gI q_41.2 20) + (1 : Int32)).toNatClampNeg)) (fun q_45 => bnd (f_X12_name q_45.2 (1 : Int32) ((gI q_41.2 20) + (1 : Int32)) q_45.1) (fun q_47 => bnd (f_X12_need (sI (sI q_47 20 ((gI q_47 20) + (1 : Int32))) 25 ((gI q_47 25) - (1 : Int32))) (41 : Int32)) (fun q_49 => grd (zB q_49.1) (some (q_49.1, q_49.2))))))) else (bnd (f_X12_cannot (sI q_41.2 20 ((gI q_41.2 20) + (1 : Int32)))) (fun q_52 => grd (zB q_52.1) (some (q_52.1, q_52.2)))))))) else (bnd (f_X12_cannot (sI q_38 20 ((gI q_38 20) + (1 : Int32)))) (fun q_55 => grd (zB q_55.1) (some (q_55.1, q_55.2))))))) else (if (gIA gT 9 (gI gT 20).toNatClampNeg) < (209 : Int32) then (b_X12_primary_394 n rc gT) else (if (gIA gT 9 (gI gT 20).toNatClampNeg) ≤ (215 : Int32) then (bnd (f_X12_node gT (gI gT 20)) (fun q_18 => grd (inB ((gI q_18 20) + (1 : Int32)) 3001) (if (gIA q_18 9 ((gI q_18 20) + (1 : Int32)).toNatClampNeg) = (40 : Int32) then (bnd (f_X12_deeper (sI q_18 20 ((gI q_18 20) + (1 : Int32)))) (fun q_21 => if q_21.1 = 0 then (some ((0 : Int32), q_21.2)) else (bnd (rc.2.2.2.2.2.2.2.2 (sI q_21.2 20 ((gI q_21.2 20) + (1 : Int32)))) (fun q_23 => if q_23.1 = 0 then (some ((0 : Int32), q_23.2)) else (if (gIA gT 9 (gI gT 20).toNatClampNeg) < (213 : Int32) then (b_X12_primary_489 n rc q_23.2 (gI gT 20) (gIA gT 9 (gI gT 20).toNatClampNeg)) else (bnd (f_X12_need q_23.2 (44 : Int32)) (fun q_31 => if q_31.1 = 0 then (some ((0 : Int32), q_31.2)) else (bnd (rc.2.2.2.2.2.2.2.2 q_31.2) (fun q_33 => if q_33.1 = 0 then (some ((0 : Int32), q_33.2)) else (b_X12_primary_489 n rc q_33.2 (gI gT 20) (gIA gT 9 (gI gT 20).toNatClampNeg))))))))))) else (bnd (f_X12_cannot (sI q_18 20 ((gI q_18 20) + (1 : Int32)))) (fun q_35 => grd (zB q_35.1) (some (q_35.1, q_35.2))))))) else (b_X12_primary_394 n rc gT)))))))))))
def S_X12_primary_164 (l : Launch) (D : Dx) (hT : Nat) (aT : Nat → Nat) (yT : Nat → ClassId) (d : Nat) (fn : Gs → Int64 → Int32 → Option (Int32 × Gs)) : Prop :=
  ∀ {p : Program} {e : Env} {s : State} {m : MethodId} {args : Array Value} {below : List Frame} {meth : Method} {c : Code} {H : Heap} {locs : List Loc} {A : Nat → Prop} {ls : Array Slot} {gT : Gs} {s0 : Int64} {s1 : Int32} {q : Int32 × Gs}, Cx p s m args meth c cX12_primary (some .boolean) 4 RX12 lw_all → Hx D (tX12 yT) A s H locs (wX12 hT aT yT gT) → lv_has ls 4 [(0, .ref hT)] → fn gT s0 s1 = some q → W p l e (RMd (d + 1)) s m args below meth c H locs 0 0 (MQ below (QI D A (wX12 hT aT yT q.2) q.1) args s 0 0 A) (F0 m 164 ls [.long s0, .int s1, .ref (aT 18)])
def S_X12_primary_117 (l : Launch) (D : Dx) (hT : Nat) (aT : Nat → Nat) (yT : Nat → ClassId) (d : Nat) (fn : Gs → Int32 → Int32 → Int32 → Option (Int32 × Gs)) : Prop :=
  ∀ {p : Program} {e : Env} {s : State} {m : MethodId} {args : Array Value} {below : List Frame} {meth : Method} {c : Code} {H : Heap} {locs : List Loc} {A : Nat → Prop} {ls : Array Slot} {gT : Gs} {v2 : Int32} {s0 : Int32} {s1 : Int32} {q : Int32 × Gs}, Cx p s m args meth c cX12_primary (some .boolean) 4 RX12 lw_all → Hx D (tX12 yT) A s H locs (wX12 hT aT yT gT) → lv_has ls 4 [(0, .ref hT), (2, .int v2)] → fn gT v2 s0 s1 = some q → W p l e (RMd (d + 1)) s m args below meth c H locs 0 0 (MQ below (QI D A (wX12 hT aT yT q.2) q.1) args s 0 0 A) (F0 m 117 ls [.int s0, .int s1, .ref hT])
def S_X12_primary_89 (l : Launch) (D : Dx) (hT : Nat) (aT : Nat → Nat) (yT : Nat → ClassId) (d : Nat) (fn : Gs → Int32 → Option (Int32 × Gs)) : Prop :=
  ∀ {p : Program} {e : Env} {s : State} {m : MethodId} {args : Array Value} {below : List Frame} {meth : Method} {c : Code} {H : Heap} {locs : List Loc} {A : Nat → Prop} {ls : Array Slot} {gT : Gs} {v2 : Int32} {q : Int32 × Gs}, Cx p s m args meth c cX12_primary (some .boolean) 4 RX12 lw_all → Hx D (tX12 yT) A s H locs (wX12 hT aT yT gT) → lv_has ls 4 [(0, .ref hT), (2, .int v2)] → fn gT v2 = some q → W p l e (RMd (d + 1)) s m args below meth c H locs 0 0 (MQ below (QI D A (wX12 hT aT yT q.2) q.1) args s 0 0 A) (F0 m 89 ls [])
def S_X12_primary_212 (l : Launch) (D : Dx) (hT : Nat) (aT : Nat → Nat) (yT : Nat → ClassId) (d : Nat) (fn : Gs → Int32 → Option (Int32 × Gs)) : Prop :=
  ∀ {p : Program} {e : Env} {s : State} {m : MethodId} {args : Array Value} {below : List Frame} {meth : Method} {c : Code} {H : Heap} {locs : List Loc} {A : Nat → Prop} {ls : Array Slot} {gT : Gs} {s0 : Int32} {q : Int32 × Gs}, Cx p s m args meth c cX12_primary (some .boolean) 4 RX12 lw_all → Hx D (tX12 yT) A s H locs (wX12 hT aT yT gT) → lv_has ls 4 [(0, .ref hT)] → fn gT s0 = some q → W p l e (RMd (d + 1)) s m args below meth c H locs 0 0 (MQ below (QI D A (wX12 hT aT yT q.2) q.1) args s 0 0 A) (F0 m 212 ls [.int s0, .ref hT])
def S_X12_primary_191 (l : Launch) (D : Dx) (hT : Nat) (aT : Nat → Nat) (yT : Nat → ClassId) (d : Nat) (fn : Gs → Int32 → Option (Int32 × Gs)) : Prop :=
  ∀ {p : Program} {e : Env} {s : State} {m : MethodId} {args : Array Value} {below : List Frame} {meth : Method} {c : Code} {H : Heap} {locs : List Loc} {A : Nat → Prop} {ls : Array Slot} {gT : Gs} {v2 : Int32} {q : Int32 × Gs}, Cx p s m args meth c cX12_primary (some .boolean) 4 RX12 lw_all → Hx D (tX12 yT) A s H locs (wX12 hT aT yT gT) → lv_has ls 4 [(0, .ref hT), (2, .int v2)] → fn gT v2 = some q → W p l e (RMd (d + 1)) s m args below meth c H locs 0 0 (MQ below (QI D A (wX12 hT aT yT q.2) q.1) args s 0 0 A) (F0 m 191 ls [])
def S_X12_primary_394 (l : Launch) (D : Dx) (hT : Nat) (aT : Nat → Nat) (yT : Nat → ClassId) (d : Nat) (fn : Gs → Option (Int32 × Gs)) : Prop :=
  ∀ {p : Program} {e : Env} {s : State} {m : MethodId} {args : Array Value} {below : List Frame} {meth : Method} {c : Code} {H : Heap} {locs : List Loc} {A : Nat → Prop} {ls : Array Slot} {gT : Gs} {q : Int32 × Gs}, Cx p s m args meth c cX12_primary (some .boolean) 4 RX12 lw_all → Hx D (tX12 yT) A s H locs (wX12 hT aT yT gT) → lv_has ls 4 [(0, .ref hT)] → fn gT = some q → W p l e (RMd (d + 1)) s m args below meth c H locs 0 0 (MQ below (QI D A (wX12 hT aT yT q.2) q.1) args s 0 0 A) (F0 m 394 ls [])
def S_X12_primary_514 (l : Launch) (D : Dx) (hT : Nat) (aT : Nat → Nat) (yT : Nat → ClassId) (d : Nat) (fn : Gs → Int32 → Int32 → Int32 → Option (Int32 × Gs)) : Prop :=
  ∀ {p : Program} {e : Env} {s : State} {m : MethodId} {args : Array Value} {below : List Frame} {meth : Method} {c : Code} {H : Heap} {locs : List Loc} {A : Nat → Prop} {ls : Array Slot} {gT : Gs} {v1 : Int32} {v2 : Int32} {s0 : Int32} {q : Int32 × Gs}, Cx p s m args meth c cX12_primary (some .boolean) 4 RX12 lw_all → Hx D (tX12 yT) A s H locs (wX12 hT aT yT gT) → lv_has ls 4 [(0, .ref hT), (1, .int v1), (2, .int v2)] → fn gT v1 v2 s0 = some q → W p l e (RMd (d + 1)) s m args below meth c H locs 0 0 (MQ below (QI D A (wX12 hT aT yT q.2) q.1) args s 0 0 A) (F0 m 514 ls [.int s0, .ref hT])
def S_X12_primary_489 (l : Launch) (D : Dx) (hT : Nat) (aT : Nat → Nat) (yT : Nat → ClassId) (d : Nat) (fn : Gs → Int32 → Int32 → Option (Int32 × Gs)) : Prop :=
  ∀ {p : Program} {e : Env} {s : State} {m : MethodId} {args : Array Value} {below : List Frame} {meth : Method} {c : Code} {H : Heap} {locs : List Loc} {A : Nat → Prop} {ls : Array Slot} {gT : Gs} {v1 : Int32} {v2 : Int32} {q : Int32 × Gs}, Cx p s m args meth c cX12_primary (some .boolean) 4 RX12 lw_all → Hx D (tX12 yT) A s H locs (wX12 hT aT yT gT) → lv_has ls 4 [(0, .ref hT), (1, .int v1), (2, .int v2)] → fn gT v1 v2 = some q → W p l e (RMd (d + 1)) s m args below meth c H locs 0 0 (MQ below (QI D A (wX12 hT aT yT q.2) q.1) args s 0 0 A) (F0 m 489 ls [])
set_option maxHeartbeats 4000000 in
set_option maxRecDepth 100000 in
theorem k_X12_primary_164 (l : Launch) (D : Dx) (hT : Nat) (aT : Nat → Nat) (yT : Nat → ClassId) (n : Nat) (rc : RCT) (d : Nat) (IR : SRC l D hT aT yT d rc) : S_X12_primary_164 l D hT aT yT d (b_X12_primary_164 n rc) := by
  intro p e s m args below meth c H locs A ls gT s0 s1 q C X hl hF
  obtain ⟨hx, hb, hr, hml, hown, hts, hlk⟩ := id C
  unfold b_X12_primary_164 at hF
  obtain ⟨h_7, hF⟩ := grd_some hF
  refine va_last (D := D.1) (f := gLA gT 18) hx hb X.1 X.2.1 X.2.2.1 X.2.2.2.1 13 12 rfl rfl (inB_ok h_7) dX12_primary_164 (fun H locs hP hD hS => ?_)
  have X : Hx D (tX12 yT) A s H locs (wX12 hT aT yT (sLA gT 18 (vp_updL (gLA gT 18) s1.toNatClampNeg s0))) := Hx_set X (wG_sLA (i := 12) (k := 18) ndX12 rfl rfl) hP hD hS
  refine lv_aload_n hx hb dX12_primary_165 rfl (lv_at hl 0 rfl) ?_
  refine lv_dup hx hb dX12_primary_166 rfl ?_
  refine va_get (D := D.1) (ci := 12) (v := .int (gI gT 20)) (C := RX12) (T := TX12) (N := 114) hx hb hts wi_X12 hown X.1 X.2.1 0 rfl rfl 20 (by decide) (hts _ q6_214) (fun _ h9 => h9) (fl_get (by decide)) dX12_primary_167 ?_
  refine lv_iconst (v := (1 : Int32)) hx hb dX12_primary_170 (by decide) ?_
  refine lv_iadd hx hb dX12_primary_171 ?_
  refine va_put (D := D.1) (ci := 12) (v := .int ((gI gT 20) + (1 : Int32))) (ty := .int) (C := RX12) (T := TX12) (N := 114) hx hb hts wi_X12 tyX12 tyX12_ok nmX12 hown X.1 X.2.1 X.2.2.1 X.2.2.2.1 0 rfl rfl 20 (by decide) (hts _ q6_214) (fun _ h9 => h9) rfl (by decide +kernel) rfl rfl (by rw [List.length_map, List.length_range]; decide) dX12_primary_172 (fun H locs hP hD hS => ?_)
  have X : Hx D (tX12 yT) A s H locs (wX12 hT aT yT (sI (sLA gT 18 (vp_updL (gLA gT 18) s1.toNatClampNeg s0)) 20 ((gI gT 20) + (1 : Int32)))) := Hx_set X (wG_sI (k := 20) rfl) hP hD hS
  refine lv_iconst (v := (1 : Int32)) hx hb dX12_primary_175 (by decide) ?_
  have hq := Option.some.inj hF
  subst hq
  exact rt_z (v := (1 : Int32)) C X (by decide) dX12_primary_176
set_option maxHeartbeats 4000000 in
set_option maxRecDepth 100000 in
theorem k_X12_primary_117 (l : Launch) (D : Dx) (hT : Nat) (aT : Nat → Nat) (yT : Nat → ClassId) (n : Nat) (rc : RCT) (d : Nat) (IR : SRC l D hT aT yT d rc) : S_X12_primary_117 l D hT aT yT d (b_X12_primary_117 n rc) := by
  intro p e s m args below meth c H locs A ls gT v2 s0 s1 q C X hl hF
  obtain ⟨hx, hb, hr, hml, hown, hts, hlk⟩ := id C
  unfold b_X12_primary_117 at hF
  refine lv_aload_n hx hb dX12_primary_117 rfl (lv_at hl 0 rfl) ?_
  refine va_get (D := D.1) (ci := 12) (v := .ref (aT 10)) (C := RX12) (T := TX12) (N := 114) hx hb hts wi_X12 hown X.1 X.2.1 0 rfl rfl 10 (by decide) (hts _ q6_204) (fun _ h9 => h9) (fl_get (by decide)) dX12_primary_118 ?_
  refine lv_aload_n hx hb dX12_primary_121 rfl (lv_at hl 0 rfl) ?_
  refine va_get (D := D.1) (ci := 12) (v := .int (gI gT 20)) (C := RX12) (T := TX12) (N := 114) hx hb hts wi_X12 hown X.1 X.2.1 0 rfl rfl 20 (by decide) (hts _ q6_214) (fun _ h9 => h9) (fl_get (by decide)) dX12_primary_122 ?_
  obtain ⟨h_4, hF⟩ := grd_some hF
  refine va_iald (D := D.1) (f := gIA gT 10) hx hb X.1 X.2.1 5 4 rfl rfl (inB_ok h_4) dX12_primary_125 ?_
  obtain ⟨q_5, hc_6, hF⟩ := bnd_some hF
  refine cV_i (As := [.int s1, .int s0, .int (gIA gT 10 (gI gT 20).toNatClampNeg)]) (rest := []) C X (c_X12_act l D hT aT yT gT s1 s0 (gIA gT 10 (gI gT 20).toNatClampNeg) q_5 hc_6 _) (cwV 3 hts (good_V q8_236 q8_238 q0_93 q1_9 q8_239) rfl rfl rfl (by decide +kernel) ⟨rmf (by decide), rml (by decide)⟩) (va_recv X.1 X.2.1 (ci := 12) (q0 := 0) rfl rfl) X.1 X.2.1 X.2.2.1 (free_all X) hl.1 rfl rfl (Nat.le_of_ble_eq_true rfl) dX12_primary_126 ⟨Nat.le_of_ble_eq_true rfl, Nat.le_of_ble_eq_true rfl⟩ (fun t H1 locs1 ht hB hk hS => ?_)
  have X : Hx D (tX12 yT) A s H1 locs1 (wX12 hT aT yT q_5.2) := Hx_after_all X ht hB hS
  clear hk hS ht hB
  generalize H1 = H at X ⊢
  generalize locs1 = locs at X ⊢
  refine lv_istore_n (lv' := [(3, .int q_5.1), (0, .ref hT), (2, .int v2)]) hx hb dX12_primary_129 rfl hl (by decide) rfl (fun ls hl => ?_)
  refine lv_aload_n hx hb dX12_primary_130 rfl (lv_at hl 1 rfl) ?_
  refine va_get (D := D.1) (ci := 12) (v := .ref (aT 18)) (C := RX12) (T := TX12) (N := 114) hx hb hts wi_X12 hown X.1 X.2.1 0 rfl rfl 18 (by decide) (hts _ q6_212) (fun _ h9 => h9) (fl_get (by decide)) dX12_primary_131 ?_
  refine lv_iload_n hx hb dX12_primary_134 rfl (lv_at hl 0 rfl) ?_
  refine lv_iload_n hx hb dX12_primary_135 rfl (lv_at hl 2 rfl) ?_
  refine lv_iconst (v := (3 : Int32)) hx hb dX12_primary_136 (by decide) ?_
  refine lv_icmp_ne (tgt := 152) hx hb dX12_primary_137 (by decide) (fun c => ?_) (fun c => ?_)
  · replace hF := iF c hF
    refine lv_iload_n hx hb dX12_primary_152 rfl (lv_at hl 2 rfl) ?_
    refine lv_sipush (v := (216 : Int32)) hx hb dX12_primary_153 (by decide) ?_
    refine lv_icmp_ne (tgt := 163) hx hb dX12_primary_156 (by decide) (fun c => ?_) (fun c => ?_)
    · replace hF := iF c hF
      refine lv_lconst (v := (0 : Int64)) hx hb dX12_primary_163 (by decide) ?_
      exact (k_X12_primary_164 l D hT aT yT n rc d IR) C X (lv_sub hl [1] rfl) hF
    · replace hF := iT c hF
      refine lv_lconst (v := (1 : Int64)) hx hb dX12_primary_159 (by decide) ?_
      refine lv_goto (tgt := 164) hx hb dX12_primary_160 (by decide) ?_
      exact (k_X12_primary_164 l D hT aT yT n rc d IR) C X (lv_sub hl [1] rfl) hF
  · replace hF := iT c hF
    refine lv_aload_n hx hb dX12_primary_140 rfl (lv_at hl 1 rfl) ?_
    refine va_get (D := D.1) (ci := 12) (v := .ref (aT 12)) (C := RX12) (T := TX12) (N := 114) hx hb hts wi_X12 hown X.1 X.2.1 0 rfl rfl 12 (by decide) (hts _ q6_206) (fun _ h9 => h9) (fl_get (by decide)) dX12_primary_141 ?_
    refine lv_aload_n hx hb dX12_primary_144 rfl (lv_at hl 1 rfl) ?_
    refine va_get (D := D.1) (ci := 12) (v := .int (gI q_5.2 20)) (C := RX12) (T := TX12) (N := 114) hx hb hts wi_X12 hown X.1 X.2.1 0 rfl rfl 20 (by decide) (hts _ q6_214) (fun _ h9 => h9) (fl_get (by decide)) dX12_primary_145 ?_
    obtain ⟨h_8, hF⟩ := grd_some hF
    refine va_lald (D := D.1) (f := gLA q_5.2 12) hx hb X.1 X.2.1 7 6 rfl rfl (inB_ok h_8) dX12_primary_148 ?_
    refine lv_goto (tgt := 164) hx hb dX12_primary_149 (by decide) ?_
    exact (k_X12_primary_164 l D hT aT yT n rc d IR) C X (lv_sub hl [1] rfl) hF
set_option maxHeartbeats 4000000 in
set_option maxRecDepth 100000 in
theorem k_X12_primary_89 (l : Launch) (D : Dx) (hT : Nat) (aT : Nat → Nat) (yT : Nat → ClassId) (n : Nat) (rc : RCT) (d : Nat) (IR : SRC l D hT aT yT d rc) : S_X12_primary_89 l D hT aT yT d (b_X12_primary_89 n rc) := by
  intro p e s m args below meth c H locs A ls gT v2 q C X hl hF
  obtain ⟨hx, hb, hr, hml, hown, hts, hlk⟩ := id C
  unfold b_X12_primary_89 at hF
  refine lv_aload_n hx hb dX12_primary_89 rfl (lv_at hl 0 rfl) ?_
  refine lv_aload_n hx hb dX12_primary_90 rfl (lv_at hl 0 rfl) ?_
  refine va_get (D := D.1) (ci := 12) (v := .int (gI gT 20)) (C := RX12) (T := TX12) (N := 114) hx hb hts wi_X12 hown X.1 X.2.1 0 rfl rfl 20 (by decide) (hts _ q6_214) (fun _ h9 => h9) (fl_get (by decide)) dX12_primary_91 ?_
  obtain ⟨q_2, hc_3, hF⟩ := bnd_some hF
  refine cV_v (As := [.int (gI gT 20)]) (rest := []) C X (c_X12_node l D hT aT yT gT (gI gT 20) q_2 hc_3 _) (cwV 1 hts (good_V q8_232 q8_234 q0_92 q1_9 q8_235) rfl rfl rfl (by decide +kernel) ⟨rmf (by decide), rml (by decide)⟩) (va_recv X.1 X.2.1 (ci := 12) (q0 := 0) rfl rfl) X.1 X.2.1 X.2.2.1 (free_all X) hl.1 rfl rfl (Nat.le_of_ble_eq_true rfl) dX12_primary_94 ⟨Nat.le_of_ble_eq_true rfl, Nat.le_of_ble_eq_true rfl⟩ (fun t H1 locs1 ht hB hk hS => ?_)
  have X : Hx D (tX12 yT) A s H1 locs1 (wX12 hT aT yT q_2) := Hx_after_all X ht hB hS
  clear hk hS ht hB
  generalize H1 = H at X ⊢
  generalize locs1 = locs at X ⊢
  refine lv_aload_n hx hb dX12_primary_97 rfl (lv_at hl 0 rfl) ?_
  refine lv_iconst (v := (1 : Int32)) hx hb dX12_primary_98 (by decide) ?_
  refine lv_iload_n hx hb dX12_primary_99 rfl (lv_at hl 1 rfl) ?_
  refine lv_iconst (v := (3 : Int32)) hx hb dX12_primary_100 (by decide) ?_
  refine lv_icmp_ne (tgt := 116) hx hb dX12_primary_101 (by decide) (fun c => ?_) (fun c => ?_)
  · replace hF := iF c hF
    refine lv_iconst (v := (0 : Int32)) hx hb dX12_primary_116 (by decide) ?_
    exact (k_X12_primary_117 l D hT aT yT n rc d IR) C X (lv_sub hl [0, 1] rfl) hF
  · replace hF := iT c hF
    refine lv_aload_n hx hb dX12_primary_104 rfl (lv_at hl 0 rfl) ?_
    refine va_get (D := D.1) (ci := 12) (v := .ref (aT 13)) (C := RX12) (T := TX12) (N := 114) hx hb hts wi_X12 hown X.1 X.2.1 0 rfl rfl 13 (by decide) (hts _ q6_207) (fun _ h9 => h9) (fl_get (by decide)) dX12_primary_105 ?_
    refine lv_aload_n hx hb dX12_primary_108 rfl (lv_at hl 0 rfl) ?_
    refine va_get (D := D.1) (ci := 12) (v := .int (gI q_2 20)) (C := RX12) (T := TX12) (N := 114) hx hb hts wi_X12 hown X.1 X.2.1 0 rfl rfl 20 (by decide) (hts _ q6_214) (fun _ h9 => h9) (fl_get (by decide)) dX12_primary_109 ?_
    obtain ⟨h_9, hF⟩ := grd_some hF
    refine va_iald (D := D.1) (f := gIA q_2 13) hx hb X.1 X.2.1 8 7 rfl rfl (inB_ok h_9) dX12_primary_112 ?_
    refine lv_goto (tgt := 117) hx hb dX12_primary_113 (by decide) ?_
    exact (k_X12_primary_117 l D hT aT yT n rc d IR) C X (lv_sub hl [0, 1] rfl) hF
set_option maxHeartbeats 4000000 in
set_option maxRecDepth 100000 in
theorem k_X12_primary_212 (l : Launch) (D : Dx) (hT : Nat) (aT : Nat → Nat) (yT : Nat → ClassId) (n : Nat) (rc : RCT) (d : Nat) (IR : SRC l D hT aT yT d rc) : S_X12_primary_212 l D hT aT yT d (b_X12_primary_212 n rc) := by
  intro p e s m args below meth c H locs A ls gT s0 q C X hl hF
  obtain ⟨hx, hb, hr, hml, hown, hts, hlk⟩ := id C
  unfold b_X12_primary_212 at hF
  refine lv_iconst (v := (0 : Int32)) hx hb dX12_primary_212 (by decide) ?_
  refine lv_aload_n hx hb dX12_primary_213 rfl (lv_at hl 0 rfl) ?_
  refine va_get (D := D.1) (ci := 12) (v := .ref (aT 10)) (C := RX12) (T := TX12) (N := 114) hx hb hts wi_X12 hown X.1 X.2.1 0 rfl rfl 10 (by decide) (hts _ q6_204) (fun _ h9 => h9) (fl_get (by decide)) dX12_primary_214 ?_
  refine lv_aload_n hx hb dX12_primary_217 rfl (lv_at hl 0 rfl) ?_
  refine va_get (D := D.1) (ci := 12) (v := .int (gI gT 20)) (C := RX12) (T := TX12) (N := 114) hx hb hts wi_X12 hown X.1 X.2.1 0 rfl rfl 20 (by decide) (hts _ q6_214) (fun _ h9 => h9) (fl_get (by decide)) dX12_primary_218 ?_
  obtain ⟨h_12, hF⟩ := grd_some hF
  refine va_iald (D := D.1) (f := gIA gT 10) hx hb X.1 X.2.1 5 4 rfl rfl (inB_ok h_12) dX12_primary_221 ?_
  obtain ⟨q_13, hc_14, hF⟩ := bnd_some hF
  refine cV_i (As := [.int s0, .int (0 : Int32), .int (gIA gT 10 (gI gT 20).toNatClampNeg)]) (rest := []) C X (c_X12_act l D hT aT yT gT s0 (0 : Int32) (gIA gT 10 (gI gT 20).toNatClampNeg) q_13 hc_14 _) (cwV 3 hts (good_V q8_236 q8_238 q0_93 q1_9 q8_239) rfl rfl rfl (by decide +kernel) ⟨rmf (by decide), rml (by decide)⟩) (va_recv X.1 X.2.1 (ci := 12) (q0 := 0) rfl rfl) X.1 X.2.1 X.2.2.1 (free_all X) hl.1 rfl rfl (Nat.le_of_ble_eq_true rfl) dX12_primary_222 ⟨Nat.le_of_ble_eq_true rfl, Nat.le_of_ble_eq_true rfl⟩ (fun t H1 locs1 ht hB hk hS => ?_)
  have X : Hx D (tX12 yT) A s H1 locs1 (wX12 hT aT yT q_13.2) := Hx_after_all X ht hB hS
  clear hk hS ht hB
  generalize H1 = H at X ⊢
  generalize locs1 = locs at X ⊢
  refine lv_pop hx hb dX12_primary_225 rfl ?_
  refine lv_aload_n hx hb dX12_primary_226 rfl (lv_at hl 0 rfl) ?_
  refine lv_dup hx hb dX12_primary_227 rfl ?_
  refine va_get (D := D.1) (ci := 12) (v := .int (gI q_13.2 20)) (C := RX12) (T := TX12) (N := 114) hx hb hts wi_X12 hown X.1 X.2.1 0 rfl rfl 20 (by decide) (hts _ q6_214) (fun _ h9 => h9) (fl_get (by decide)) dX12_primary_228 ?_
  refine lv_iconst (v := (1 : Int32)) hx hb dX12_primary_231 (by decide) ?_
  refine lv_iadd hx hb dX12_primary_232 ?_
  refine va_put (D := D.1) (ci := 12) (v := .int ((gI q_13.2 20) + (1 : Int32))) (ty := .int) (C := RX12) (T := TX12) (N := 114) hx hb hts wi_X12 tyX12 tyX12_ok nmX12 hown X.1 X.2.1 X.2.2.1 X.2.2.2.1 0 rfl rfl 20 (by decide) (hts _ q6_214) (fun _ h9 => h9) rfl (by decide +kernel) rfl rfl (by rw [List.length_map, List.length_range]; decide) dX12_primary_233 (fun H locs hP hD hS => ?_)
  have X : Hx D (tX12 yT) A s H locs (wX12 hT aT yT (sI q_13.2 20 ((gI q_13.2 20) + (1 : Int32)))) := Hx_set X (wG_sI (k := 20) rfl) hP hD hS
  refine lv_iconst (v := (1 : Int32)) hx hb dX12_primary_236 (by decide) ?_
  have hq := Option.some.inj hF
  subst hq
  exact rt_z (v := (1 : Int32)) C X (by decide) dX12_primary_237
set_option maxHeartbeats 4000000 in
set_option maxRecDepth 100000 in
theorem k_X12_primary_191 (l : Launch) (D : Dx) (hT : Nat) (aT : Nat → Nat) (yT : Nat → ClassId) (n : Nat) (rc : RCT) (d : Nat) (IR : SRC l D hT aT yT d rc) : S_X12_primary_191 l D hT aT yT d (b_X12_primary_191 n rc) := by
  intro p e s m args below meth c H locs A ls gT v2 q C X hl hF
  obtain ⟨hx, hb, hr, hml, hown, hts, hlk⟩ := id C
  unfold b_X12_primary_191 at hF
  refine lv_aload_n hx hb dX12_primary_191 rfl (lv_at hl 0 rfl) ?_
  refine lv_aload_n hx hb dX12_primary_192 rfl (lv_at hl 0 rfl) ?_
  refine va_get (D := D.1) (ci := 12) (v := .int (gI gT 20)) (C := RX12) (T := TX12) (N := 114) hx hb hts wi_X12 hown X.1 X.2.1 0 rfl rfl 20 (by decide) (hts _ q6_214) (fun _ h9 => h9) (fl_get (by decide)) dX12_primary_193 ?_
  obtain ⟨q_10, hc_11, hF⟩ := bnd_some hF
  refine cV_v (As := [.int (gI gT 20)]) (rest := []) C X (c_X12_node l D hT aT yT gT (gI gT 20) q_10 hc_11 _) (cwV 1 hts (good_V q8_232 q8_234 q0_92 q1_9 q8_235) rfl rfl rfl (by decide +kernel) ⟨rmf (by decide), rml (by decide)⟩) (va_recv X.1 X.2.1 (ci := 12) (q0 := 0) rfl rfl) X.1 X.2.1 X.2.2.1 (free_all X) hl.1 rfl rfl (Nat.le_of_ble_eq_true rfl) dX12_primary_196 ⟨Nat.le_of_ble_eq_true rfl, Nat.le_of_ble_eq_true rfl⟩ (fun t H1 locs1 ht hB hk hS => ?_)
  have X : Hx D (tX12 yT) A s H1 locs1 (wX12 hT aT yT q_10) := Hx_after_all X ht hB hS
  clear hk hS ht hB
  generalize H1 = H at X ⊢
  generalize locs1 = locs at X ⊢
  refine lv_aload_n hx hb dX12_primary_199 rfl (lv_at hl 0 rfl) ?_
  refine lv_iload_n hx hb dX12_primary_200 rfl (lv_at hl 1 rfl) ?_
  refine lv_sipush (v := (208 : Int32)) hx hb dX12_primary_201 (by decide) ?_
  refine lv_icmp_ne (tgt := 211) hx hb dX12_primary_204 (by decide) (fun c => ?_) (fun c => ?_)
  · replace hF := iF c hF
    refine lv_iconst (v := (3 : Int32)) hx hb dX12_primary_211 (by decide) ?_
    exact (k_X12_primary_212 l D hT aT yT n rc d IR) C X (lv_sub hl [0] rfl) hF
  · replace hF := iT c hF
    refine lv_iconst (v := (2 : Int32)) hx hb dX12_primary_207 (by decide) ?_
    refine lv_goto (tgt := 212) hx hb dX12_primary_208 (by decide) ?_
    exact (k_X12_primary_212 l D hT aT yT n rc d IR) C X (lv_sub hl [0] rfl) hF
set_option maxHeartbeats 4000000 in
set_option maxRecDepth 100000 in
theorem k_X12_primary_394 (l : Launch) (D : Dx) (hT : Nat) (aT : Nat → Nat) (yT : Nat → ClassId) (n : Nat) (rc : RCT) (d : Nat) (IR : SRC l D hT aT yT d rc) : S_X12_primary_394 l D hT aT yT d (b_X12_primary_394 n rc) := by
  intro p e s m args below meth c H locs A ls gT q C X hl hF
  obtain ⟨hx, hb, hr, hml, hown, hts, hlk⟩ := id C
  unfold b_X12_primary_394 at hF
  refine lv_aload_n hx hb dX12_primary_394 rfl (lv_at hl 0 rfl) ?_
  obtain ⟨q_15, hc_16, hF⟩ := bnd_some hF
  refine cV_i (As := []) (rest := []) C X (c_X12_cannot l D hT aT yT gT q_15 hc_16 _) (cwV 0 hts (good_V q8_173 q8_175 q0_78 q1_9 q8_176) rfl rfl rfl (by decide +kernel) ⟨rmf (by decide), rml (by decide)⟩) (va_recv X.1 X.2.1 (ci := 12) (q0 := 0) rfl rfl) X.1 X.2.1 X.2.2.1 (free_all X) hl.1 rfl rfl (Nat.le_of_ble_eq_true rfl) dX12_primary_395 ⟨Nat.le_of_ble_eq_true rfl, Nat.le_of_ble_eq_true rfl⟩ (fun t H1 locs1 ht hB hk hS => ?_)
  have X : Hx D (tX12 yT) A s H1 locs1 (wX12 hT aT yT q_15.2) := Hx_after_all X ht hB hS
  clear hk hS ht hB
  generalize H1 = H at X ⊢
  generalize locs1 = locs at X ⊢
  obtain ⟨h_17, hF⟩ := grd_some hF
  have hq := Option.some.inj hF
  subst hq
  exact rt_z (v := q_15.1) C X (zB_n h_17) dX12_primary_398
set_option maxHeartbeats 4000000 in
set_option maxRecDepth 100000 in
theorem k_X12_primary_514 (l : Launch) (D : Dx) (hT : Nat) (aT : Nat → Nat) (yT : Nat → ClassId) (n : Nat) (rc : RCT) (d : Nat) (IR : SRC l D hT aT yT d rc) : S_X12_primary_514 l D hT aT yT d (b_X12_primary_514 n rc) := by
  intro p e s m args below meth c H locs A ls gT v1 v2 s0 q C X hl hF
  obtain ⟨hx, hb, hr, hml, hown, hts, hlk⟩ := id C
  unfold b_X12_primary_514 at hF
  refine lv_iload_n hx hb dX12_primary_514 rfl (lv_at hl 2 rfl) ?_
  refine lv_aload_n hx hb dX12_primary_515 rfl (lv_at hl 0 rfl) ?_
  refine va_get (D := D.1) (ci := 12) (v := .ref (aT 10)) (C := RX12) (T := TX12) (N := 114) hx hb hts wi_X12 hown X.1 X.2.1 0 rfl rfl 10 (by decide) (hts _ q6_204) (fun _ h9 => h9) (fl_get (by decide)) dX12_primary_516 ?_
  refine lv_iload_n hx hb dX12_primary_519 rfl (lv_at hl 1 rfl) ?_
  obtain ⟨h_25, hF⟩ := grd_some hF
  refine va_iald (D := D.1) (f := gIA gT 10) hx hb X.1 X.2.1 5 4 rfl rfl (inB_ok h_25) dX12_primary_520 ?_
  obtain ⟨q_26, hc_27, hF⟩ := bnd_some hF
  refine cV_i (As := [.int s0, .int v2, .int (gIA gT 10 v1.toNatClampNeg)]) (rest := []) C X (c_X12_act l D hT aT yT gT s0 v2 (gIA gT 10 v1.toNatClampNeg) q_26 hc_27 _) (cwV 3 hts (good_V q8_236 q8_238 q0_93 q1_9 q8_239) rfl rfl rfl (by decide +kernel) ⟨rmf (by decide), rml (by decide)⟩) (va_recv X.1 X.2.1 (ci := 12) (q0 := 0) rfl rfl) X.1 X.2.1 X.2.2.1 (free_all X) hl.1 rfl rfl (Nat.le_of_ble_eq_true rfl) dX12_primary_521 ⟨Nat.le_of_ble_eq_true rfl, Nat.le_of_ble_eq_true rfl⟩ (fun t H1 locs1 ht hB hk hS => ?_)
  have X : Hx D (tX12 yT) A s H1 locs1 (wX12 hT aT yT q_26.2) := Hx_after_all X ht hB hS
  clear hk hS ht hB
  generalize H1 = H at X ⊢
  generalize locs1 = locs at X ⊢
  refine lv_pop hx hb dX12_primary_524 rfl ?_
  refine lv_aload_n hx hb dX12_primary_525 rfl (lv_at hl 0 rfl) ?_
  refine lv_bipush (v := (41 : Int32)) hx hb dX12_primary_526 (by decide) ?_
  obtain ⟨q_28, hc_29, hF⟩ := bnd_some hF
  refine cV_i (As := [.int (41 : Int32)]) (rest := []) C X (c_X12_need l D hT aT yT q_26.2 (41 : Int32) q_28 hc_29 _) (cwV 1 hts (good_V q8_189 q8_191 q0_82 q1_9 q8_192) rfl rfl rfl (by decide +kernel) ⟨rmf (by decide), rml (by decide)⟩) (va_recv X.1 X.2.1 (ci := 12) (q0 := 0) rfl rfl) X.1 X.2.1 X.2.2.1 (free_all X) hl.1 rfl rfl (Nat.le_of_ble_eq_true rfl) dX12_primary_528 ⟨Nat.le_of_ble_eq_true rfl, Nat.le_of_ble_eq_true rfl⟩ (fun t H1 locs1 ht hB hk hS => ?_)
  have X : Hx D (tX12 yT) A s H1 locs1 (wX12 hT aT yT q_28.2) := Hx_after_all X ht hB hS
  clear hk hS ht hB
  generalize H1 = H at X ⊢
  generalize locs1 = locs at X ⊢
  obtain ⟨h_30, hF⟩ := grd_some hF
  have hq := Option.some.inj hF
  subst hq
  exact rt_z (v := q_28.1) C X (zB_n h_30) dX12_primary_531
set_option maxHeartbeats 4000000 in
set_option maxRecDepth 100000 in
theorem k_X12_primary_489 (l : Launch) (D : Dx) (hT : Nat) (aT : Nat → Nat) (yT : Nat → ClassId) (n : Nat) (rc : RCT) (d : Nat) (IR : SRC l D hT aT yT d rc) : S_X12_primary_489 l D hT aT yT d (b_X12_primary_489 n rc) := by
  intro p e s m args below meth c H locs A ls gT v1 v2 q C X hl hF
  obtain ⟨hx, hb, hr, hml, hown, hts, hlk⟩ := id C
  unfold b_X12_primary_489 at hF
  refine lv_aload_n hx hb dX12_primary_489 rfl (lv_at hl 0 rfl) ?_
  refine lv_dup hx hb dX12_primary_490 rfl ?_
  refine va_get (D := D.1) (ci := 12) (v := .int (gI gT 25)) (C := RX12) (T := TX12) (N := 114) hx hb hts wi_X12 hown X.1 X.2.1 0 rfl rfl 25 (by decide) (hts _ q6_219) (fun _ h9 => h9) (fl_get (by decide)) dX12_primary_491 ?_
  refine lv_iconst (v := (1 : Int32)) hx hb dX12_primary_494 (by decide) ?_
  refine lv_isub hx hb dX12_primary_495 ?_
  refine va_put (D := D.1) (ci := 12) (v := .int ((gI gT 25) - (1 : Int32))) (ty := .int) (C := RX12) (T := TX12) (N := 114) hx hb hts wi_X12 tyX12 tyX12_ok nmX12 hown X.1 X.2.1 X.2.2.1 X.2.2.2.1 0 rfl rfl 25 (by decide) (hts _ q6_219) (fun _ h9 => h9) rfl (by decide +kernel) rfl rfl (by rw [List.length_map, List.length_range]; decide) dX12_primary_496 (fun H locs hP hD hS => ?_)
  have X : Hx D (tX12 yT) A s H locs (wX12 hT aT yT (sI gT 25 ((gI gT 25) - (1 : Int32)))) := Hx_set X (wG_sI (k := 25) rfl) hP hD hS
  refine lv_aload_n hx hb dX12_primary_499 rfl (lv_at hl 0 rfl) ?_
  refine lv_iload_n hx hb dX12_primary_500 rfl (lv_at hl 2 rfl) ?_
  refine lv_sipush (v := (213 : Int32)) hx hb dX12_primary_501 (by decide) ?_
  refine lv_icmp_lt (tgt := 512) hx hb dX12_primary_504 (by decide) (fun c => ?_) (fun c => ?_)
  · replace hF := iT c hF
    refine lv_bipush (v := (10 : Int32)) hx hb dX12_primary_512 (by decide) ?_
    exact (k_X12_primary_514 l D hT aT yT n rc d IR) C X (lv_sub hl [0, 1, 2] rfl) hF
  · replace hF := iF c hF
    refine lv_bipush (v := (11 : Int32)) hx hb dX12_primary_507 (by decide) ?_
    refine lv_goto (tgt := 514) hx hb dX12_primary_509 (by decide) ?_
    exact (k_X12_primary_514 l D hT aT yT n rc d IR) C X (lv_sub hl [0, 1, 2] rfl) hF
set_option maxHeartbeats 4000000 in
set_option maxRecDepth 100000 in
theorem c_X12_primary (l : Launch) (D : Dx) (hT : Nat) (aT : Nat → Nat) (yT : Nat → ClassId) (n : Nat) (rc : RCT) (d : Nat) (IR : SRC l D hT aT yT d rc) (gT : Gs) (q : Int32 × Gs) (hF : f_X12_primary n rc gT = some q) (sz : Nat) : Met l yX12_primary (ws_ yX12_primary cX12_primary 4 (some .boolean)) (RMd (d + 1)) (PC D (tX12 yT) [.ref hT] (wX12 hT aT yT gT) sz) (QI D (va_A (wX12 hT aT yT gT) sz) (wX12 hT aT yT q.2) q.1) 0 0 (va_A (wX12 hT aT yT gT) sz) := by
  refine Met.ofW (cc := cX12_primary) (maxL := 4) (ret := (some .boolean)) (by decide) rfl ?_
  intro p e s m args below meth c s₁ B hml hv
  obtain ⟨rfl, hsz, hP, hK, hD, hN⟩ := hv
  subst hsz
  have C : Cx p s m _ meth c cX12_primary (some .boolean) 4 RX12 lw_all := Cx_of B hml
  have X := Hx_start hP hK hD hN
  obtain ⟨hx, hb, hr, -, hown, hts, hlk⟩ := id C
  generalize va_A (wX12 hT aT yT gT) s.heap.size = A at X ⊢
  have hl := lv_entry ([.ref hT]) (n := 4) (Nat.le_of_ble_eq_true rfl)
  rw [lg_entry_eq]
  generalize (lg_sl ([.ref hT]) ++ List.replicate (4 - (lg_sl ([.ref hT])).length) Slot.unset).toArray = ls at hl ⊢
  have hl : lv_has ls 4 [(0, .ref hT)] := hl
  unfold f_X12_primary at hF
  refine lv_aload_n hx hb dX12_primary_0 rfl (lv_at hl 0 rfl) ?_
  refine va_get (D := D.1) (ci := 12) (v := .int (gI gT 20)) (C := RX12) (T := TX12) (N := 114) hx hb hts wi_X12 hown X.1 X.2.1 0 rfl rfl 20 (by decide) (hts _ q6_214) (fun _ h9 => h9) (fl_get (by decide)) dX12_primary_1 ?_
  refine lv_istore_n (lv' := [(1, .int (gI gT 20)), (0, .ref hT)]) hx hb dX12_primary_4 rfl hl (by decide) rfl (fun ls hl => ?_)
  refine lv_aload_n hx hb dX12_primary_5 rfl (lv_at hl 1 rfl) ?_
  refine va_get (D := D.1) (ci := 12) (v := .ref (aT 9)) (C := RX12) (T := TX12) (N := 114) hx hb hts wi_X12 hown X.1 X.2.1 0 rfl rfl 9 (by decide) (hts _ q6_203) (fun _ h9 => h9) (fl_get (by decide)) dX12_primary_6 ?_
  refine lv_aload_n hx hb dX12_primary_9 rfl (lv_at hl 1 rfl) ?_
  refine va_get (D := D.1) (ci := 12) (v := .int (gI gT 20)) (C := RX12) (T := TX12) (N := 114) hx hb hts wi_X12 hown X.1 X.2.1 0 rfl rfl 20 (by decide) (hts _ q6_214) (fun _ h9 => h9) (fl_get (by decide)) dX12_primary_10 ?_
  obtain ⟨h_1, hF⟩ := grd_some hF
  refine va_iald (D := D.1) (f := gIA gT 9) hx hb X.1 X.2.1 4 3 rfl rfl (inB_ok h_1) dX12_primary_13 ?_
  refine lv_istore_n (lv' := [(2, .int (gIA gT 9 (gI gT 20).toNatClampNeg)), (1, .int (gI gT 20)), (0, .ref hT)]) hx hb dX12_primary_14 rfl hl (by decide) rfl (fun ls hl => ?_)
  refine lv_iload_n hx hb dX12_primary_15 rfl (lv_at hl 0 rfl) ?_
  refine lv_bipush (v := (40 : Int32)) hx hb dX12_primary_16 (by decide) ?_
  refine lv_icmp_ne (tgt := 70) hx hb dX12_primary_18 (by decide) (fun c => ?_) (fun c => ?_)
  · replace hF := iF c hF
    refine lv_iload_n hx hb dX12_primary_70 rfl (lv_at hl 0 rfl) ?_
    refine lv_iconst (v := (3 : Int32)) hx hb dX12_primary_71 (by decide) ?_
    refine lv_icmp_eq (tgt := 89) hx hb dX12_primary_72 (by decide) (fun c => ?_) (fun c => ?_)
    · replace hF := iT c hF
      exact (k_X12_primary_89 l D hT aT yT n rc d IR) C X (lv_sub hl [2, 0] rfl) hF
    · replace hF := iF c hF
      refine lv_iload_n hx hb dX12_primary_75 rfl (lv_at hl 0 rfl) ?_
      refine lv_sipush (v := (216 : Int32)) hx hb dX12_primary_76 (by decide) ?_
      refine lv_icmp_eq (tgt := 89) hx hb dX12_primary_79 (by decide) (fun c => ?_) (fun c => ?_)
      · replace hF := iT c hF
        exact (k_X12_primary_89 l D hT aT yT n rc d IR) C X (lv_sub hl [2, 0] rfl) hF
      · replace hF := iF c hF
        refine lv_iload_n hx hb dX12_primary_82 rfl (lv_at hl 0 rfl) ?_
        refine lv_sipush (v := (217 : Int32)) hx hb dX12_primary_83 (by decide) ?_
        refine lv_icmp_ne (tgt := 177) hx hb dX12_primary_86 (by decide) (fun c => ?_) (fun c => ?_)
        · replace hF := iF c hF
          refine lv_iload_n hx hb dX12_primary_177 rfl (lv_at hl 0 rfl) ?_
          refine lv_sipush (v := (208 : Int32)) hx hb dX12_primary_178 (by decide) ?_
          refine lv_icmp_eq (tgt := 191) hx hb dX12_primary_181 (by decide) (fun c => ?_) (fun c => ?_)
          · replace hF := iT c hF
            exact (k_X12_primary_191 l D hT aT yT n rc d IR) C X (lv_sub hl [2, 0] rfl) hF
          · replace hF := iF c hF
            refine lv_iload_n hx hb dX12_primary_184 rfl (lv_at hl 0 rfl) ?_
            refine lv_sipush (v := (207 : Int32)) hx hb dX12_primary_185 (by decide) ?_
            refine lv_icmp_ne (tgt := 238) hx hb dX12_primary_188 (by decide) (fun c => ?_) (fun c => ?_)
            · replace hF := iF c hF
              refine lv_iload_n hx hb dX12_primary_238 rfl (lv_at hl 0 rfl) ?_
              refine lv_iconst (v := (2 : Int32)) hx hb dX12_primary_239 (by decide) ?_
              refine lv_icmp_ne (tgt := 248) hx hb dX12_primary_240 (by decide) (fun c => ?_) (fun c => ?_)
              · replace hF := iF c hF
                refine lv_iload_n hx hb dX12_primary_248 rfl (lv_at hl 0 rfl) ?_
                refine lv_sipush (v := (206 : Int32)) hx hb dX12_primary_249 (by decide) ?_
                refine lv_icmp_ne (tgt := 380) hx hb dX12_primary_252 (by decide) (fun c => ?_) (fun c => ?_)
                · replace hF := iF c hF
                  refine lv_iload_n hx hb dX12_primary_380 rfl (lv_at hl 0 rfl) ?_
                  refine lv_sipush (v := (209 : Int32)) hx hb dX12_primary_381 (by decide) ?_
                  refine lv_icmp_lt (tgt := 394) hx hb dX12_primary_384 (by decide) (fun c => ?_) (fun c => ?_)
                  · replace hF := iT c hF
                    exact (k_X12_primary_394 l D hT aT yT n rc d IR) C X (lv_sub hl [2] rfl) hF
                  · replace hF := iF c hF
                    refine lv_iload_n hx hb dX12_primary_387 rfl (lv_at hl 0 rfl) ?_
                    refine lv_sipush (v := (215 : Int32)) hx hb dX12_primary_388 (by decide) ?_
                    refine lv_icmp_le (tgt := 399) hx hb dX12_primary_391 (by decide) (fun c => ?_) (fun c => ?_)
                    · replace hF := iT c hF
                      refine lv_aload_n hx hb dX12_primary_399 rfl (lv_at hl 2 rfl) ?_
                      refine lv_aload_n hx hb dX12_primary_400 rfl (lv_at hl 2 rfl) ?_
                      refine va_get (D := D.1) (ci := 12) (v := .int (gI gT 20)) (C := RX12) (T := TX12) (N := 114) hx hb hts wi_X12 hown X.1 X.2.1 0 rfl rfl 20 (by decide) (hts _ q6_214) (fun _ h9 => h9) (fl_get (by decide)) dX12_primary_401 ?_
                      obtain ⟨q_18, hc_19, hF⟩ := bnd_some hF
                      refine cV_v (As := [.int (gI gT 20)]) (rest := []) C X (c_X12_node l D hT aT yT gT (gI gT 20) q_18 hc_19 _) (cwV 1 hts (good_V q8_232 q8_234 q0_92 q1_9 q8_235) rfl rfl rfl (by decide +kernel) ⟨rmf (by decide), rml (by decide)⟩) (va_recv X.1 X.2.1 (ci := 12) (q0 := 0) rfl rfl) X.1 X.2.1 X.2.2.1 (free_all X) hl.1 rfl rfl (Nat.le_of_ble_eq_true rfl) dX12_primary_404 ⟨Nat.le_of_ble_eq_true rfl, Nat.le_of_ble_eq_true rfl⟩ (fun t H1 locs1 ht hB hk hS => ?_)
                      have X : Hx D (tX12 yT) A s H1 locs1 (wX12 hT aT yT q_18) := Hx_after_all X ht hB hS
                      clear hk hS ht hB
                      generalize H1 = H at X ⊢
                      generalize locs1 = locs at X ⊢
                      refine lv_aload_n hx hb dX12_primary_407 rfl (lv_at hl 2 rfl) ?_
                      refine lv_dup hx hb dX12_primary_408 rfl ?_
                      refine va_get (D := D.1) (ci := 12) (v := .int (gI q_18 20)) (C := RX12) (T := TX12) (N := 114) hx hb hts wi_X12 hown X.1 X.2.1 0 rfl rfl 20 (by decide) (hts _ q6_214) (fun _ h9 => h9) (fl_get (by decide)) dX12_primary_409 ?_
                      refine lv_iconst (v := (1 : Int32)) hx hb dX12_primary_412 (by decide) ?_
                      refine lv_iadd hx hb dX12_primary_413 ?_
                      refine va_put (D := D.1) (ci := 12) (v := .int ((gI q_18 20) + (1 : Int32))) (ty := .int) (C := RX12) (T := TX12) (N := 114) hx hb hts wi_X12 tyX12 tyX12_ok nmX12 hown X.1 X.2.1 X.2.2.1 X.2.2.2.1 0 rfl rfl 20 (by decide) (hts _ q6_214) (fun _ h9 => h9) rfl (by decide +kernel) rfl rfl (by rw [List.length_map, List.length_range]; decide) dX12_primary_414 (fun H locs hP hD hS => ?_)
                      have X : Hx D (tX12 yT) A s H locs (wX12 hT aT yT (sI q_18 20 ((gI q_18 20) + (1 : Int32)))) := Hx_set X (wG_sI (k := 20) rfl) hP hD hS
                      refine lv_aload_n hx hb dX12_primary_417 rfl (lv_at hl 2 rfl) ?_
                      refine va_get (D := D.1) (ci := 12) (v := .ref (aT 9)) (C := RX12) (T := TX12) (N := 114) hx hb hts wi_X12 hown X.1 X.2.1 0 rfl rfl 9 (by decide) (hts _ q6_203) (fun _ h9 => h9) (fl_get (by decide)) dX12_primary_418 ?_
                      refine lv_aload_n hx hb dX12_primary_421 rfl (lv_at hl 2 rfl) ?_
                      refine va_get (D := D.1) (ci := 12) (v := .int ((gI q_18 20) + (1 : Int32))) (C := RX12) (T := TX12) (N := 114) hx hb hts wi_X12 hown X.1 X.2.1 0 rfl rfl 20 (by decide) (hts _ q6_214) (fun _ h9 => h9) (fl_get (by decide)) dX12_primary_422 ?_
                      obtain ⟨h_20, hF⟩ := grd_some hF
                      refine va_iald (D := D.1) (f := gIA q_18 9) hx hb X.1 X.2.1 4 3 rfl rfl (inB_ok h_20) dX12_primary_425 ?_
                      refine lv_bipush (v := (40 : Int32)) hx hb dX12_primary_426 (by decide) ?_
                      refine lv_icmp_eq (tgt := 436) hx hb dX12_primary_428 (by decide) (fun c => ?_) (fun c => ?_)
                      · replace hF := iT c hF
                        refine lv_aload_n hx hb dX12_primary_436 rfl (lv_at hl 2 rfl) ?_
                        obtain ⟨q_21, hc_22, hF⟩ := bnd_some hF
                        refine cV_i (As := []) (rest := []) C X (c_X12_deeper l D hT aT yT (sI q_18 20 ((gI q_18 20) + (1 : Int32))) q_21 hc_22 _) (cwV 0 hts (good_V q8_228 q8_230 q0_91 q1_9 q8_231) rfl rfl rfl (by decide +kernel) ⟨rmf (by decide), rml (by decide)⟩) (va_recv X.1 X.2.1 (ci := 12) (q0 := 0) rfl rfl) X.1 X.2.1 X.2.2.1 (free_all X) hl.1 rfl rfl (Nat.le_of_ble_eq_true rfl) dX12_primary_437 ⟨Nat.le_of_ble_eq_true rfl, Nat.le_of_ble_eq_true rfl⟩ (fun t H1 locs1 ht hB hk hS => ?_)
                        have X : Hx D (tX12 yT) A s H1 locs1 (wX12 hT aT yT q_21.2) := Hx_after_all X ht hB hS
                        clear hk hS ht hB
                        generalize H1 = H at X ⊢
                        generalize locs1 = locs at X ⊢
                        refine lv_if_ne (tgt := 445) hx hb dX12_primary_440 (by decide) (fun c => ?_) (fun c => ?_)
                        · replace hF := iF c hF
                          refine lv_aload_n hx hb dX12_primary_445 rfl (lv_at hl 2 rfl) ?_
                          refine lv_dup hx hb dX12_primary_446 rfl ?_
                          refine va_get (D := D.1) (ci := 12) (v := .int (gI q_21.2 20)) (C := RX12) (T := TX12) (N := 114) hx hb hts wi_X12 hown X.1 X.2.1 0 rfl rfl 20 (by decide) (hts _ q6_214) (fun _ h9 => h9) (fl_get (by decide)) dX12_primary_447 ?_
                          refine lv_iconst (v := (1 : Int32)) hx hb dX12_primary_450 (by decide) ?_
                          refine lv_iadd hx hb dX12_primary_451 ?_
                          refine va_put (D := D.1) (ci := 12) (v := .int ((gI q_21.2 20) + (1 : Int32))) (ty := .int) (C := RX12) (T := TX12) (N := 114) hx hb hts wi_X12 tyX12 tyX12_ok nmX12 hown X.1 X.2.1 X.2.2.1 X.2.2.2.1 0 rfl rfl 20 (by decide) (hts _ q6_214) (fun _ h9 => h9) rfl (by decide +kernel) rfl rfl (by rw [List.length_map, List.length_range]; decide) dX12_primary_452 (fun H locs hP hD hS => ?_)
                          have X : Hx D (tX12 yT) A s H locs (wX12 hT aT yT (sI q_21.2 20 ((gI q_21.2 20) + (1 : Int32)))) := Hx_set X (wG_sI (k := 20) rfl) hP hD hS
                          refine lv_aload_n hx hb dX12_primary_455 rfl (lv_at hl 2 rfl) ?_
                          obtain ⟨q_23, hc_24, hF⟩ := bnd_some hF
                          refine cV_i (As := []) (rest := []) C X (IR.2.2.2.2.2.2.2.2 (sI q_21.2 20 ((gI q_21.2 20) + (1 : Int32))) q_23 hc_24 _) (cwV 0 hts (good_V q8_196 q8_198 q0_83 q1_9 q8_199) rfl rfl rfl (by decide +kernel) ⟨rgf, rgl (by decide)⟩) (va_recv X.1 X.2.1 (ci := 12) (q0 := 0) rfl rfl) X.1 X.2.1 X.2.2.1 (free_all X) hl.1 rfl rfl (Nat.le_of_ble_eq_true rfl) dX12_primary_456 ⟨Nat.le_of_ble_eq_true rfl, Nat.le_of_ble_eq_true rfl⟩ (fun t H1 locs1 ht hB hk hS => ?_)
                          have X : Hx D (tX12 yT) A s H1 locs1 (wX12 hT aT yT q_23.2) := Hx_after_all X ht hB hS
                          clear hk hS ht hB
                          generalize H1 = H at X ⊢
                          generalize locs1 = locs at X ⊢
                          refine lv_if_ne (tgt := 464) hx hb dX12_primary_459 (by decide) (fun c => ?_) (fun c => ?_)
                          · replace hF := iF c hF
                            refine lv_iload_n hx hb dX12_primary_464 rfl (lv_at hl 0 rfl) ?_
                            refine lv_sipush (v := (213 : Int32)) hx hb dX12_primary_465 (by decide) ?_
                            refine lv_icmp_lt (tgt := 489) hx hb dX12_primary_468 (by decide) (fun c => ?_) (fun c => ?_)
                            · replace hF := iT c hF
                              exact (k_X12_primary_489 l D hT aT yT n rc d IR) C X (lv_sub hl [2, 1, 0] rfl) hF
                            · replace hF := iF c hF
                              refine lv_aload_n hx hb dX12_primary_471 rfl (lv_at hl 2 rfl) ?_
                              refine lv_bipush (v := (44 : Int32)) hx hb dX12_primary_472 (by decide) ?_
                              obtain ⟨q_31, hc_32, hF⟩ := bnd_some hF
                              refine cV_i (As := [.int (44 : Int32)]) (rest := []) C X (c_X12_need l D hT aT yT q_23.2 (44 : Int32) q_31 hc_32 _) (cwV 1 hts (good_V q8_189 q8_191 q0_82 q1_9 q8_192) rfl rfl rfl (by decide +kernel) ⟨rmf (by decide), rml (by decide)⟩) (va_recv X.1 X.2.1 (ci := 12) (q0 := 0) rfl rfl) X.1 X.2.1 X.2.2.1 (free_all X) hl.1 rfl rfl (Nat.le_of_ble_eq_true rfl) dX12_primary_474 ⟨Nat.le_of_ble_eq_true rfl, Nat.le_of_ble_eq_true rfl⟩ (fun t H1 locs1 ht hB hk hS => ?_)
                              have X : Hx D (tX12 yT) A s H1 locs1 (wX12 hT aT yT q_31.2) := Hx_after_all X ht hB hS
                              clear hk hS ht hB
                              generalize H1 = H at X ⊢
                              generalize locs1 = locs at X ⊢
                              refine lv_if_eq (tgt := 487) hx hb dX12_primary_477 (by decide) (fun c => ?_) (fun c => ?_)
                              · replace hF := iT c hF
                                refine lv_iconst (v := (0 : Int32)) hx hb dX12_primary_487 (by decide) ?_
                                have hq := Option.some.inj hF
                                subst hq
                                exact rt_z (v := (0 : Int32)) C X (by decide) dX12_primary_488
                              · replace hF := iF c hF
                                refine lv_aload_n hx hb dX12_primary_480 rfl (lv_at hl 2 rfl) ?_
                                obtain ⟨q_33, hc_34, hF⟩ := bnd_some hF
                                refine cV_i (As := []) (rest := []) C X (IR.2.2.2.2.2.2.2.2 q_31.2 q_33 hc_34 _) (cwV 0 hts (good_V q8_196 q8_198 q0_83 q1_9 q8_199) rfl rfl rfl (by decide +kernel) ⟨rgf, rgl (by decide)⟩) (va_recv X.1 X.2.1 (ci := 12) (q0 := 0) rfl rfl) X.1 X.2.1 X.2.2.1 (free_all X) hl.1 rfl rfl (Nat.le_of_ble_eq_true rfl) dX12_primary_481 ⟨Nat.le_of_ble_eq_true rfl, Nat.le_of_ble_eq_true rfl⟩ (fun t H1 locs1 ht hB hk hS => ?_)
                                have X : Hx D (tX12 yT) A s H1 locs1 (wX12 hT aT yT q_33.2) := Hx_after_all X ht hB hS
                                clear hk hS ht hB
                                generalize H1 = H at X ⊢
                                generalize locs1 = locs at X ⊢
                                refine lv_if_ne (tgt := 489) hx hb dX12_primary_484 (by decide) (fun c => ?_) (fun c => ?_)
                                · replace hF := iF c hF
                                  exact (k_X12_primary_489 l D hT aT yT n rc d IR) C X (lv_sub hl [2, 1, 0] rfl) hF
                                · replace hF := iT c hF
                                  refine lv_iconst (v := (0 : Int32)) hx hb dX12_primary_487 (by decide) ?_
                                  have hq := Option.some.inj hF
                                  subst hq
                                  exact rt_z (v := (0 : Int32)) C X (by decide) dX12_primary_488
                          · replace hF := iT c hF
                            refine lv_iconst (v := (0 : Int32)) hx hb dX12_primary_462 (by decide) ?_
                            have hq := Option.some.inj hF
                            subst hq
                            exact rt_z (v := (0 : Int32)) C X (by decide) dX12_primary_463
                        · replace hF := iT c hF
                          refine lv_iconst (v := (0 : Int32)) hx hb dX12_primary_443 (by decide) ?_
                          have hq := Option.some.inj hF
                          subst hq
                          exact rt_z (v := (0 : Int32)) C X (by decide) dX12_primary_444
                      · replace hF := iF c hF
                        refine lv_aload_n hx hb dX12_primary_431 rfl (lv_at hl 2 rfl) ?_
                        obtain ⟨q_35, hc_36, hF⟩ := bnd_some hF
                        refine cV_i (As := []) (rest := []) C X (c_X12_cannot l D hT aT yT (sI q_18 20 ((gI q_18 20) + (1 : Int32))) q_35 hc_36 _) (cwV 0 hts (good_V q8_173 q8_175 q0_78 q1_9 q8_176) rfl rfl rfl (by decide +kernel) ⟨rmf (by decide), rml (by decide)⟩) (va_recv X.1 X.2.1 (ci := 12) (q0 := 0) rfl rfl) X.1 X.2.1 X.2.2.1 (free_all X) hl.1 rfl rfl (Nat.le_of_ble_eq_true rfl) dX12_primary_432 ⟨Nat.le_of_ble_eq_true rfl, Nat.le_of_ble_eq_true rfl⟩ (fun t H1 locs1 ht hB hk hS => ?_)
                        have X : Hx D (tX12 yT) A s H1 locs1 (wX12 hT aT yT q_35.2) := Hx_after_all X ht hB hS
                        clear hk hS ht hB
                        generalize H1 = H at X ⊢
                        generalize locs1 = locs at X ⊢
                        obtain ⟨h_37, hF⟩ := grd_some hF
                        have hq := Option.some.inj hF
                        subst hq
                        exact rt_z (v := q_35.1) C X (zB_n h_37) dX12_primary_435
                    · replace hF := iF c hF
                      exact (k_X12_primary_394 l D hT aT yT n rc d IR) C X (lv_sub hl [2] rfl) hF
                · replace hF := iT c hF
                  refine lv_aload_n hx hb dX12_primary_255 rfl (lv_at hl 2 rfl) ?_
                  refine lv_aload_n hx hb dX12_primary_256 rfl (lv_at hl 2 rfl) ?_
                  refine va_get (D := D.1) (ci := 12) (v := .int (gI gT 20)) (C := RX12) (T := TX12) (N := 114) hx hb hts wi_X12 hown X.1 X.2.1 0 rfl rfl 20 (by decide) (hts _ q6_214) (fun _ h9 => h9) (fl_get (by decide)) dX12_primary_257 ?_
                  obtain ⟨q_38, hc_39, hF⟩ := bnd_some hF
                  refine cV_v (As := [.int (gI gT 20)]) (rest := []) C X (c_X12_node l D hT aT yT gT (gI gT 20) q_38 hc_39 _) (cwV 1 hts (good_V q8_232 q8_234 q0_92 q1_9 q8_235) rfl rfl rfl (by decide +kernel) ⟨rmf (by decide), rml (by decide)⟩) (va_recv X.1 X.2.1 (ci := 12) (q0 := 0) rfl rfl) X.1 X.2.1 X.2.2.1 (free_all X) hl.1 rfl rfl (Nat.le_of_ble_eq_true rfl) dX12_primary_260 ⟨Nat.le_of_ble_eq_true rfl, Nat.le_of_ble_eq_true rfl⟩ (fun t H1 locs1 ht hB hk hS => ?_)
                  have X : Hx D (tX12 yT) A s H1 locs1 (wX12 hT aT yT q_38) := Hx_after_all X ht hB hS
                  clear hk hS ht hB
                  generalize H1 = H at X ⊢
                  generalize locs1 = locs at X ⊢
                  refine lv_aload_n hx hb dX12_primary_263 rfl (lv_at hl 2 rfl) ?_
                  refine lv_dup hx hb dX12_primary_264 rfl ?_
                  refine va_get (D := D.1) (ci := 12) (v := .int (gI q_38 20)) (C := RX12) (T := TX12) (N := 114) hx hb hts wi_X12 hown X.1 X.2.1 0 rfl rfl 20 (by decide) (hts _ q6_214) (fun _ h9 => h9) (fl_get (by decide)) dX12_primary_265 ?_
                  refine lv_iconst (v := (1 : Int32)) hx hb dX12_primary_268 (by decide) ?_
                  refine lv_iadd hx hb dX12_primary_269 ?_
                  refine va_put (D := D.1) (ci := 12) (v := .int ((gI q_38 20) + (1 : Int32))) (ty := .int) (C := RX12) (T := TX12) (N := 114) hx hb hts wi_X12 tyX12 tyX12_ok nmX12 hown X.1 X.2.1 X.2.2.1 X.2.2.2.1 0 rfl rfl 20 (by decide) (hts _ q6_214) (fun _ h9 => h9) rfl (by decide +kernel) rfl rfl (by rw [List.length_map, List.length_range]; decide) dX12_primary_270 (fun H locs hP hD hS => ?_)
                  have X : Hx D (tX12 yT) A s H locs (wX12 hT aT yT (sI q_38 20 ((gI q_38 20) + (1 : Int32)))) := Hx_set X (wG_sI (k := 20) rfl) hP hD hS
                  refine lv_aload_n hx hb dX12_primary_273 rfl (lv_at hl 2 rfl) ?_
                  refine va_get (D := D.1) (ci := 12) (v := .ref (aT 9)) (C := RX12) (T := TX12) (N := 114) hx hb hts wi_X12 hown X.1 X.2.1 0 rfl rfl 9 (by decide) (hts _ q6_203) (fun _ h9 => h9) (fl_get (by decide)) dX12_primary_274 ?_
                  refine lv_aload_n hx hb dX12_primary_277 rfl (lv_at hl 2 rfl) ?_
                  refine va_get (D := D.1) (ci := 12) (v := .int ((gI q_38 20) + (1 : Int32))) (C := RX12) (T := TX12) (N := 114) hx hb hts wi_X12 hown X.1 X.2.1 0 rfl rfl 20 (by decide) (hts _ q6_214) (fun _ h9 => h9) (fl_get (by decide)) dX12_primary_278 ?_
                  obtain ⟨h_40, hF⟩ := grd_some hF
                  refine va_iald (D := D.1) (f := gIA q_38 9) hx hb X.1 X.2.1 4 3 rfl rfl (inB_ok h_40) dX12_primary_281 ?_
                  refine lv_bipush (v := (40 : Int32)) hx hb dX12_primary_282 (by decide) ?_
                  refine lv_icmp_eq (tgt := 292) hx hb dX12_primary_284 (by decide) (fun c => ?_) (fun c => ?_)
                  · replace hF := iT c hF
                    refine lv_aload_n hx hb dX12_primary_292 rfl (lv_at hl 2 rfl) ?_
                    obtain ⟨q_41, hc_42, hF⟩ := bnd_some hF
                    refine cV_i (As := []) (rest := []) C X (c_X12_deeper l D hT aT yT (sI q_38 20 ((gI q_38 20) + (1 : Int32))) q_41 hc_42 _) (cwV 0 hts (good_V q8_228 q8_230 q0_91 q1_9 q8_231) rfl rfl rfl (by decide +kernel) ⟨rmf (by decide), rml (by decide)⟩) (va_recv X.1 X.2.1 (ci := 12) (q0 := 0) rfl rfl) X.1 X.2.1 X.2.2.1 (free_all X) hl.1 rfl rfl (Nat.le_of_ble_eq_true rfl) dX12_primary_293 ⟨Nat.le_of_ble_eq_true rfl, Nat.le_of_ble_eq_true rfl⟩ (fun t H1 locs1 ht hB hk hS => ?_)
                    have X : Hx D (tX12 yT) A s H1 locs1 (wX12 hT aT yT q_41.2) := Hx_after_all X ht hB hS
                    clear hk hS ht hB
                    generalize H1 = H at X ⊢
                    generalize locs1 = locs at X ⊢
                    refine lv_if_ne (tgt := 301) hx hb dX12_primary_296 (by decide) (fun c => ?_) (fun c => ?_)
                    · replace hF := iF c hF
                      refine lv_aload_n hx hb dX12_primary_301 rfl (lv_at hl 2 rfl) ?_
                      refine lv_dup hx hb dX12_primary_302 rfl ?_
                      refine va_get (D := D.1) (ci := 12) (v := .int (gI q_41.2 20)) (C := RX12) (T := TX12) (N := 114) hx hb hts wi_X12 hown X.1 X.2.1 0 rfl rfl 20 (by decide) (hts _ q6_214) (fun _ h9 => h9) (fl_get (by decide)) dX12_primary_303 ?_
                      refine lv_iconst (v := (1 : Int32)) hx hb dX12_primary_306 (by decide) ?_
                      refine lv_iadd hx hb dX12_primary_307 ?_
                      refine va_put (D := D.1) (ci := 12) (v := .int ((gI q_41.2 20) + (1 : Int32))) (ty := .int) (C := RX12) (T := TX12) (N := 114) hx hb hts wi_X12 tyX12 tyX12_ok nmX12 hown X.1 X.2.1 X.2.2.1 X.2.2.2.1 0 rfl rfl 20 (by decide) (hts _ q6_214) (fun _ h9 => h9) rfl (by decide +kernel) rfl rfl (by rw [List.length_map, List.length_range]; decide) dX12_primary_308 (fun H locs hP hD hS => ?_)
                      have X : Hx D (tX12 yT) A s H locs (wX12 hT aT yT (sI q_41.2 20 ((gI q_41.2 20) + (1 : Int32)))) := Hx_set X (wG_sI (k := 20) rfl) hP hD hS
                      refine lv_aload_n hx hb dX12_primary_311 rfl (lv_at hl 2 rfl) ?_
                      refine va_get (D := D.1) (ci := 12) (v := .ref (aT 9)) (C := RX12) (T := TX12) (N := 114) hx hb hts wi_X12 hown X.1 X.2.1 0 rfl rfl 9 (by decide) (hts _ q6_203) (fun _ h9 => h9) (fl_get (by decide)) dX12_primary_312 ?_
                      refine lv_aload_n hx hb dX12_primary_315 rfl (lv_at hl 2 rfl) ?_
                      refine va_get (D := D.1) (ci := 12) (v := .int ((gI q_41.2 20) + (1 : Int32))) (C := RX12) (T := TX12) (N := 114) hx hb hts wi_X12 hown X.1 X.2.1 0 rfl rfl 20 (by decide) (hts _ q6_214) (fun _ h9 => h9) (fl_get (by decide)) dX12_primary_316 ?_
                      obtain ⟨h_43, hF⟩ := grd_some hF
                      refine va_iald (D := D.1) (f := gIA q_41.2 9) hx hb X.1 X.2.1 4 3 rfl rfl (inB_ok h_43) dX12_primary_319 ?_
                      refine lv_iconst (v := (2 : Int32)) hx hb dX12_primary_320 (by decide) ?_
                      refine lv_icmp_eq (tgt := 329) hx hb dX12_primary_321 (by decide) (fun c => ?_) (fun c => ?_)
                      · replace hF := iT c hF
                        refine lv_aload_n hx hb dX12_primary_329 rfl (lv_at hl 2 rfl) ?_
                        refine lv_iconst (v := (1 : Int32)) hx hb dX12_primary_330 (by decide) ?_
                        refine lv_aload_n hx hb dX12_primary_331 rfl (lv_at hl 2 rfl) ?_
                        refine va_get (D := D.1) (ci := 12) (v := .int ((gI q_41.2 20) + (1 : Int32))) (C := RX12) (T := TX12) (N := 114) hx hb hts wi_X12 hown X.1 X.2.1 0 rfl rfl 20 (by decide) (hts _ q6_214) (fun _ h9 => h9) (fl_get (by decide)) dX12_primary_332 ?_
                        refine lv_aload_n hx hb dX12_primary_335 rfl (lv_at hl 2 rfl) ?_
                        refine lv_iconst (v := (5 : Int32)) hx hb dX12_primary_336 (by decide) ?_
                        refine lv_iconst (v := (0 : Int32)) hx hb dX12_primary_337 (by decide) ?_
                        refine lv_aload_n hx hb dX12_primary_338 rfl (lv_at hl 2 rfl) ?_
                        refine va_get (D := D.1) (ci := 12) (v := .ref (aT 10)) (C := RX12) (T := TX12) (N := 114) hx hb hts wi_X12 hown X.1 X.2.1 0 rfl rfl 10 (by decide) (hts _ q6_204) (fun _ h9 => h9) (fl_get (by decide)) dX12_primary_339 ?_
                        refine lv_aload_n hx hb dX12_primary_342 rfl (lv_at hl 2 rfl) ?_
                        refine va_get (D := D.1) (ci := 12) (v := .int ((gI q_41.2 20) + (1 : Int32))) (C := RX12) (T := TX12) (N := 114) hx hb hts wi_X12 hown X.1 X.2.1 0 rfl rfl 20 (by decide) (hts _ q6_214) (fun _ h9 => h9) (fl_get (by decide)) dX12_primary_343 ?_
                        obtain ⟨h_44, hF⟩ := grd_some hF
                        refine va_iald (D := D.1) (f := gIA q_41.2 10) hx hb X.1 X.2.1 5 4 rfl rfl (inB_ok h_44) dX12_primary_346 ?_
                        obtain ⟨q_45, hc_46, hF⟩ := bnd_some hF
                        refine cV_i (As := [.int (5 : Int32), .int (0 : Int32), .int (gIA q_41.2 10 ((gI q_41.2 20) + (1 : Int32)).toNatClampNeg)]) (rest := [.int ((gI q_41.2 20) + (1 : Int32)), .int (1 : Int32), .ref hT]) C X (c_X12_act l D hT aT yT (sI q_41.2 20 ((gI q_41.2 20) + (1 : Int32))) (5 : Int32) (0 : Int32) (gIA q_41.2 10 ((gI q_41.2 20) + (1 : Int32)).toNatClampNeg) q_45 hc_46 _) (cwV 3 hts (good_V q8_236 q8_238 q0_93 q1_9 q8_239) rfl rfl rfl (by decide +kernel) ⟨rmf (by decide), rml (by decide)⟩) (va_recv X.1 X.2.1 (ci := 12) (q0 := 0) rfl rfl) X.1 X.2.1 X.2.2.1 (free_all X) hl.1 rfl rfl (Nat.le_of_ble_eq_true rfl) dX12_primary_347 ⟨Nat.le_of_ble_eq_true rfl, Nat.le_of_ble_eq_true rfl⟩ (fun t H1 locs1 ht hB hk hS => ?_)
                        have X : Hx D (tX12 yT) A s H1 locs1 (wX12 hT aT yT q_45.2) := Hx_after_all X ht hB hS
                        clear hk hS ht hB
                        generalize H1 = H at X ⊢
                        generalize locs1 = locs at X ⊢
                        obtain ⟨q_47, hc_48, hF⟩ := bnd_some hF
                        refine cV_v (As := [.int (1 : Int32), .int ((gI q_41.2 20) + (1 : Int32)), .int q_45.1]) (rest := []) C X (c_X12_name l D hT aT yT q_45.2 (1 : Int32) ((gI q_41.2 20) + (1 : Int32)) q_45.1 q_47 hc_48 _) (cwV 3 hts (good_V q8_185 q8_187 q0_81 q1_9 q8_188) rfl rfl rfl (by decide +kernel) ⟨rmf (by decide), rml (by decide)⟩) (va_recv X.1 X.2.1 (ci := 12) (q0 := 0) rfl rfl) X.1 X.2.1 X.2.2.1 (free_all X) hl.1 rfl rfl (Nat.le_of_ble_eq_true rfl) dX12_primary_350 ⟨Nat.le_of_ble_eq_true rfl, Nat.le_of_ble_eq_true rfl⟩ (fun t H1 locs1 ht hB hk hS => ?_)
                        have X : Hx D (tX12 yT) A s H1 locs1 (wX12 hT aT yT q_47) := Hx_after_all X ht hB hS
                        clear hk hS ht hB
                        generalize H1 = H at X ⊢
                        generalize locs1 = locs at X ⊢
                        refine lv_aload_n hx hb dX12_primary_353 rfl (lv_at hl 2 rfl) ?_
                        refine lv_dup hx hb dX12_primary_354 rfl ?_
                        refine va_get (D := D.1) (ci := 12) (v := .int (gI q_47 20)) (C := RX12) (T := TX12) (N := 114) hx hb hts wi_X12 hown X.1 X.2.1 0 rfl rfl 20 (by decide) (hts _ q6_214) (fun _ h9 => h9) (fl_get (by decide)) dX12_primary_355 ?_
                        refine lv_iconst (v := (1 : Int32)) hx hb dX12_primary_358 (by decide) ?_
                        refine lv_iadd hx hb dX12_primary_359 ?_
                        refine va_put (D := D.1) (ci := 12) (v := .int ((gI q_47 20) + (1 : Int32))) (ty := .int) (C := RX12) (T := TX12) (N := 114) hx hb hts wi_X12 tyX12 tyX12_ok nmX12 hown X.1 X.2.1 X.2.2.1 X.2.2.2.1 0 rfl rfl 20 (by decide) (hts _ q6_214) (fun _ h9 => h9) rfl (by decide +kernel) rfl rfl (by rw [List.length_map, List.length_range]; decide) dX12_primary_360 (fun H locs hP hD hS => ?_)
                        have X : Hx D (tX12 yT) A s H locs (wX12 hT aT yT (sI q_47 20 ((gI q_47 20) + (1 : Int32)))) := Hx_set X (wG_sI (k := 20) rfl) hP hD hS
                        refine lv_aload_n hx hb dX12_primary_363 rfl (lv_at hl 2 rfl) ?_
                        refine lv_dup hx hb dX12_primary_364 rfl ?_
                        refine va_get (D := D.1) (ci := 12) (v := .int (gI q_47 25)) (C := RX12) (T := TX12) (N := 114) hx hb hts wi_X12 hown X.1 X.2.1 0 rfl rfl 25 (by decide) (hts _ q6_219) (fun _ h9 => h9) (fl_get (by decide)) dX12_primary_365 ?_
                        refine lv_iconst (v := (1 : Int32)) hx hb dX12_primary_368 (by decide) ?_
                        refine lv_isub hx hb dX12_primary_369 ?_
                        refine va_put (D := D.1) (ci := 12) (v := .int ((gI q_47 25) - (1 : Int32))) (ty := .int) (C := RX12) (T := TX12) (N := 114) hx hb hts wi_X12 tyX12 tyX12_ok nmX12 hown X.1 X.2.1 X.2.2.1 X.2.2.2.1 0 rfl rfl 25 (by decide) (hts _ q6_219) (fun _ h9 => h9) rfl (by decide +kernel) rfl rfl (by rw [List.length_map, List.length_range]; decide) dX12_primary_370 (fun H locs hP hD hS => ?_)
                        have X : Hx D (tX12 yT) A s H locs (wX12 hT aT yT (sI (sI q_47 20 ((gI q_47 20) + (1 : Int32))) 25 ((gI q_47 25) - (1 : Int32)))) := Hx_set X (wG_sI (k := 25) rfl) hP hD hS
                        refine lv_aload_n hx hb dX12_primary_373 rfl (lv_at hl 2 rfl) ?_
                        refine lv_bipush (v := (41 : Int32)) hx hb dX12_primary_374 (by decide) ?_
                        obtain ⟨q_49, hc_50, hF⟩ := bnd_some hF
                        refine cV_i (As := [.int (41 : Int32)]) (rest := []) C X (c_X12_need l D hT aT yT (sI (sI q_47 20 ((gI q_47 20) + (1 : Int32))) 25 ((gI q_47 25) - (1 : Int32))) (41 : Int32) q_49 hc_50 _) (cwV 1 hts (good_V q8_189 q8_191 q0_82 q1_9 q8_192) rfl rfl rfl (by decide +kernel) ⟨rmf (by decide), rml (by decide)⟩) (va_recv X.1 X.2.1 (ci := 12) (q0 := 0) rfl rfl) X.1 X.2.1 X.2.2.1 (free_all X) hl.1 rfl rfl (Nat.le_of_ble_eq_true rfl) dX12_primary_376 ⟨Nat.le_of_ble_eq_true rfl, Nat.le_of_ble_eq_true rfl⟩ (fun t H1 locs1 ht hB hk hS => ?_)
                        have X : Hx D (tX12 yT) A s H1 locs1 (wX12 hT aT yT q_49.2) := Hx_after_all X ht hB hS
                        clear hk hS ht hB
                        generalize H1 = H at X ⊢
                        generalize locs1 = locs at X ⊢
                        obtain ⟨h_51, hF⟩ := grd_some hF
                        have hq := Option.some.inj hF
                        subst hq
                        exact rt_z (v := q_49.1) C X (zB_n h_51) dX12_primary_379
                      · replace hF := iF c hF
                        refine lv_aload_n hx hb dX12_primary_324 rfl (lv_at hl 2 rfl) ?_
                        obtain ⟨q_52, hc_53, hF⟩ := bnd_some hF
                        refine cV_i (As := []) (rest := []) C X (c_X12_cannot l D hT aT yT (sI q_41.2 20 ((gI q_41.2 20) + (1 : Int32))) q_52 hc_53 _) (cwV 0 hts (good_V q8_173 q8_175 q0_78 q1_9 q8_176) rfl rfl rfl (by decide +kernel) ⟨rmf (by decide), rml (by decide)⟩) (va_recv X.1 X.2.1 (ci := 12) (q0 := 0) rfl rfl) X.1 X.2.1 X.2.2.1 (free_all X) hl.1 rfl rfl (Nat.le_of_ble_eq_true rfl) dX12_primary_325 ⟨Nat.le_of_ble_eq_true rfl, Nat.le_of_ble_eq_true rfl⟩ (fun t H1 locs1 ht hB hk hS => ?_)
                        have X : Hx D (tX12 yT) A s H1 locs1 (wX12 hT aT yT q_52.2) := Hx_after_all X ht hB hS
                        clear hk hS ht hB
                        generalize H1 = H at X ⊢
                        generalize locs1 = locs at X ⊢
                        obtain ⟨h_54, hF⟩ := grd_some hF
                        have hq := Option.some.inj hF
                        subst hq
                        exact rt_z (v := q_52.1) C X (zB_n h_54) dX12_primary_328
                    · replace hF := iT c hF
                      refine lv_iconst (v := (0 : Int32)) hx hb dX12_primary_299 (by decide) ?_
                      have hq := Option.some.inj hF
                      subst hq
                      exact rt_z (v := (0 : Int32)) C X (by decide) dX12_primary_300
                  · replace hF := iF c hF
                    refine lv_aload_n hx hb dX12_primary_287 rfl (lv_at hl 2 rfl) ?_
                    obtain ⟨q_55, hc_56, hF⟩ := bnd_some hF
                    refine cV_i (As := []) (rest := []) C X (c_X12_cannot l D hT aT yT (sI q_38 20 ((gI q_38 20) + (1 : Int32))) q_55 hc_56 _) (cwV 0 hts (good_V q8_173 q8_175 q0_78 q1_9 q8_176) rfl rfl rfl (by decide +kernel) ⟨rmf (by decide), rml (by decide)⟩) (va_recv X.1 X.2.1 (ci := 12) (q0 := 0) rfl rfl) X.1 X.2.1 X.2.2.1 (free_all X) hl.1 rfl rfl (Nat.le_of_ble_eq_true rfl) dX12_primary_288 ⟨Nat.le_of_ble_eq_true rfl, Nat.le_of_ble_eq_true rfl⟩ (fun t H1 locs1 ht hB hk hS => ?_)
                    have X : Hx D (tX12 yT) A s H1 locs1 (wX12 hT aT yT q_55.2) := Hx_after_all X ht hB hS
                    clear hk hS ht hB
                    generalize H1 = H at X ⊢
                    generalize locs1 = locs at X ⊢
                    obtain ⟨h_57, hF⟩ := grd_some hF
                    have hq := Option.some.inj hF
                    subst hq
                    exact rt_z (v := q_55.1) C X (zB_n h_57) dX12_primary_291
              · replace hF := iT c hF
                refine lv_aload_n hx hb dX12_primary_243 rfl (lv_at hl 2 rfl) ?_
                obtain ⟨q_58, hc_59, hF⟩ := bnd_some hF
                refine cV_i (As := []) (rest := []) C X (IR.1 gT q_58 hc_59 _) (cwV 0 hts (good_V q9_0 q9_2 q0_94 q1_9 q9_3) rfl rfl rfl (by decide +kernel) ⟨rgf, rgl (by decide)⟩) (va_recv X.1 X.2.1 (ci := 12) (q0 := 0) rfl rfl) X.1 X.2.1 X.2.2.1 (free_all X) hl.1 rfl rfl (Nat.le_of_ble_eq_true rfl) dX12_primary_244 ⟨Nat.le_of_ble_eq_true rfl, Nat.le_of_ble_eq_true rfl⟩ (fun t H1 locs1 ht hB hk hS => ?_)
                have X : Hx D (tX12 yT) A s H1 locs1 (wX12 hT aT yT q_58.2) := Hx_after_all X ht hB hS
                clear hk hS ht hB
                generalize H1 = H at X ⊢
                generalize locs1 = locs at X ⊢
                obtain ⟨h_60, hF⟩ := grd_some hF
                have hq := Option.some.inj hF
                subst hq
                exact rt_z (v := q_58.1) C X (zB_n h_60) dX12_primary_247
            · replace hF := iT c hF
              exact (k_X12_primary_191 l D hT aT yT n rc d IR) C X (lv_sub hl [2, 0] rfl) hF
        · replace hF := iT c hF
          exact (k_X12_primary_89 l D hT aT yT n rc d IR) C X (lv_sub hl [2, 0] rfl) hF
  · replace hF := iT c hF
    refine lv_aload_n hx hb dX12_primary_21 rfl (lv_at hl 2 rfl) ?_
    obtain ⟨q_61, hc_62, hF⟩ := bnd_some hF
    refine cV_i (As := []) (rest := []) C X (c_X12_deeper l D hT aT yT gT q_61 hc_62 _) (cwV 0 hts (good_V q8_228 q8_230 q0_91 q1_9 q8_231) rfl rfl rfl (by decide +kernel) ⟨rmf (by decide), rml (by decide)⟩) (va_recv X.1 X.2.1 (ci := 12) (q0 := 0) rfl rfl) X.1 X.2.1 X.2.2.1 (free_all X) hl.1 rfl rfl (Nat.le_of_ble_eq_true rfl) dX12_primary_22 ⟨Nat.le_of_ble_eq_true rfl, Nat.le_of_ble_eq_true rfl⟩ (fun t H1 locs1 ht hB hk hS => ?_)
    have X : Hx D (tX12 yT) A s H1 locs1 (wX12 hT aT yT q_61.2) := Hx_after_all X ht hB hS
    clear hk hS ht hB
    generalize H1 = H at X ⊢
    generalize locs1 = locs at X ⊢
    refine lv_if_ne (tgt := 30) hx hb dX12_primary_25 (by decide) (fun c => ?_) (fun c => ?_)
    · replace hF := iF c hF
      refine lv_aload_n hx hb dX12_primary_30 rfl (lv_at hl 2 rfl) ?_
      refine lv_dup hx hb dX12_primary_31 rfl ?_
      refine va_get (D := D.1) (ci := 12) (v := .int (gI q_61.2 20)) (C := RX12) (T := TX12) (N := 114) hx hb hts wi_X12 hown X.1 X.2.1 0 rfl rfl 20 (by decide) (hts _ q6_214) (fun _ h9 => h9) (fl_get (by decide)) dX12_primary_32 ?_
      refine lv_iconst (v := (1 : Int32)) hx hb dX12_primary_35 (by decide) ?_
      refine lv_iadd hx hb dX12_primary_36 ?_
      refine va_put (D := D.1) (ci := 12) (v := .int ((gI q_61.2 20) + (1 : Int32))) (ty := .int) (C := RX12) (T := TX12) (N := 114) hx hb hts wi_X12 tyX12 tyX12_ok nmX12 hown X.1 X.2.1 X.2.2.1 X.2.2.2.1 0 rfl rfl 20 (by decide) (hts _ q6_214) (fun _ h9 => h9) rfl (by decide +kernel) rfl rfl (by rw [List.length_map, List.length_range]; decide) dX12_primary_37 (fun H locs hP hD hS => ?_)
      have X : Hx D (tX12 yT) A s H locs (wX12 hT aT yT (sI q_61.2 20 ((gI q_61.2 20) + (1 : Int32)))) := Hx_set X (wG_sI (k := 20) rfl) hP hD hS
      refine lv_aload_n hx hb dX12_primary_40 rfl (lv_at hl 2 rfl) ?_
      obtain ⟨q_63, hc_64, hF⟩ := bnd_some hF
      refine cV_i (As := []) (rest := []) C X (IR.2.2.2.2.2.2.2.2 (sI q_61.2 20 ((gI q_61.2 20) + (1 : Int32))) q_63 hc_64 _) (cwV 0 hts (good_V q8_196 q8_198 q0_83 q1_9 q8_199) rfl rfl rfl (by decide +kernel) ⟨rgf, rgl (by decide)⟩) (va_recv X.1 X.2.1 (ci := 12) (q0 := 0) rfl rfl) X.1 X.2.1 X.2.2.1 (free_all X) hl.1 rfl rfl (Nat.le_of_ble_eq_true rfl) dX12_primary_41 ⟨Nat.le_of_ble_eq_true rfl, Nat.le_of_ble_eq_true rfl⟩ (fun t H1 locs1 ht hB hk hS => ?_)
      have X : Hx D (tX12 yT) A s H1 locs1 (wX12 hT aT yT q_63.2) := Hx_after_all X ht hB hS
      clear hk hS ht hB
      generalize H1 = H at X ⊢
      generalize locs1 = locs at X ⊢
      refine lv_if_eq (tgt := 56) hx hb dX12_primary_44 (by decide) (fun c => ?_) (fun c => ?_)
      · replace hF := iT c hF
        refine lv_iconst (v := (0 : Int32)) hx hb dX12_primary_56 (by decide) ?_
        have hq := Option.some.inj hF
        subst hq
        exact rt_z (v := (0 : Int32)) C X (by decide) dX12_primary_57
      · replace hF := iF c hF
        refine lv_aload_n hx hb dX12_primary_47 rfl (lv_at hl 2 rfl) ?_
        refine lv_bipush (v := (41 : Int32)) hx hb dX12_primary_48 (by decide) ?_
        obtain ⟨q_65, hc_66, hF⟩ := bnd_some hF
        refine cV_i (As := [.int (41 : Int32)]) (rest := []) C X (c_X12_need l D hT aT yT q_63.2 (41 : Int32) q_65 hc_66 _) (cwV 1 hts (good_V q8_189 q8_191 q0_82 q1_9 q8_192) rfl rfl rfl (by decide +kernel) ⟨rmf (by decide), rml (by decide)⟩) (va_recv X.1 X.2.1 (ci := 12) (q0 := 0) rfl rfl) X.1 X.2.1 X.2.2.1 (free_all X) hl.1 rfl rfl (Nat.le_of_ble_eq_true rfl) dX12_primary_50 ⟨Nat.le_of_ble_eq_true rfl, Nat.le_of_ble_eq_true rfl⟩ (fun t H1 locs1 ht hB hk hS => ?_)
        have X : Hx D (tX12 yT) A s H1 locs1 (wX12 hT aT yT q_65.2) := Hx_after_all X ht hB hS
        clear hk hS ht hB
        generalize H1 = H at X ⊢
        generalize locs1 = locs at X ⊢
        refine lv_if_ne (tgt := 58) hx hb dX12_primary_53 (by decide) (fun c => ?_) (fun c => ?_)
        · replace hF := iF c hF
          refine lv_aload_n hx hb dX12_primary_58 rfl (lv_at hl 2 rfl) ?_
          refine lv_dup hx hb dX12_primary_59 rfl ?_
          refine va_get (D := D.1) (ci := 12) (v := .int (gI q_65.2 25)) (C := RX12) (T := TX12) (N := 114) hx hb hts wi_X12 hown X.1 X.2.1 0 rfl rfl 25 (by decide) (hts _ q6_219) (fun _ h9 => h9) (fl_get (by decide)) dX12_primary_60 ?_
          refine lv_iconst (v := (1 : Int32)) hx hb dX12_primary_63 (by decide) ?_
          refine lv_isub hx hb dX12_primary_64 ?_
          refine va_put (D := D.1) (ci := 12) (v := .int ((gI q_65.2 25) - (1 : Int32))) (ty := .int) (C := RX12) (T := TX12) (N := 114) hx hb hts wi_X12 tyX12 tyX12_ok nmX12 hown X.1 X.2.1 X.2.2.1 X.2.2.2.1 0 rfl rfl 25 (by decide) (hts _ q6_219) (fun _ h9 => h9) rfl (by decide +kernel) rfl rfl (by rw [List.length_map, List.length_range]; decide) dX12_primary_65 (fun H locs hP hD hS => ?_)
          have X : Hx D (tX12 yT) A s H locs (wX12 hT aT yT (sI q_65.2 25 ((gI q_65.2 25) - (1 : Int32)))) := Hx_set X (wG_sI (k := 25) rfl) hP hD hS
          refine lv_iconst (v := (1 : Int32)) hx hb dX12_primary_68 (by decide) ?_
          have hq := Option.some.inj hF
          subst hq
          exact rt_z (v := (1 : Int32)) C X (by decide) dX12_primary_69
        · replace hF := iT c hF
          refine lv_iconst (v := (0 : Int32)) hx hb dX12_primary_56 (by decide) ?_
          have hq := Option.some.inj hF
          subst hq
          exact rt_z (v := (0 : Int32)) C X (by decide) dX12_primary_57
    · replace hF := iT c hF
      refine lv_iconst (v := (0 : Int32)) hx hb dX12_primary_28 (by decide) ?_
      have hq := Option.some.inj hF
      subst hq
      exact rt_z (v := (0 : Int32)) C X (by decide) dX12_primary_29

/-! ### X12_single -/
theorem dX12_single_0 : decode cX12_single 0 = .ok (.aload_n 0, 1) := by decide +kernel
theorem dX12_single_1 : decode cX12_single 1 = .ok (.getfield 116, 3) := by decide +kernel
theorem dX12_single_4 : decode cX12_single 4 = .ok (.istore_n 1, 1) := by decide +kernel
theorem dX12_single_5 : decode cX12_single 5 = .ok (.aload_n 0, 1) := by decide +kernel
theorem dX12_single_6 : decode cX12_single 6 = .ok (.getfield 82, 3) := by decide +kernel
theorem dX12_single_9 : decode cX12_single 9 = .ok (.aload_n 0, 1) := by decide +kernel
theorem dX12_single_10 : decode cX12_single 10 = .ok (.getfield 116, 3) := by decide +kernel
theorem dX12_single_13 : decode cX12_single 13 = .ok (.iaload, 1) := by decide +kernel
theorem dX12_single_14 : decode cX12_single 14 = .ok (.istore_n 2, 1) := by decide +kernel
theorem dX12_single_15 : decode cX12_single 15 = .ok (.iload_n 2, 1) := by decide +kernel
theorem dX12_single_16 : decode cX12_single 16 = .ok (.bipush 40, 2) := by decide +kernel
theorem dX12_single_18 : decode cX12_single 18 = .ok (.if_icmp .ne 24, 3) := by decide +kernel
theorem dX12_single_21 : decode cX12_single 21 = .ok (.aload_n 0, 1) := by decide +kernel
theorem dX12_single_22 : decode cX12_single 22 = .ok (.getfield 82, 3) := by decide +kernel
theorem dX12_single_25 : decode cX12_single 25 = .ok (.aload_n 0, 1) := by decide +kernel
theorem dX12_single_26 : decode cX12_single 26 = .ok (.getfield 116, 3) := by decide +kernel
theorem dX12_single_29 : decode cX12_single 29 = .ok (.iconst 1, 1) := by decide +kernel
theorem dX12_single_30 : decode cX12_single 30 = .ok (.iadd, 1) := by decide +kernel
theorem dX12_single_31 : decode cX12_single 31 = .ok (.iaload, 1) := by decide +kernel
theorem dX12_single_32 : decode cX12_single 32 = .ok (.invokestatic 582, 3) := by decide +kernel
theorem dX12_single_35 : decode cX12_single 35 = .ok (.ifCond .eq 7, 3) := by decide +kernel
theorem dX12_single_38 : decode cX12_single 38 = .ok (.iconst 1, 1) := by decide +kernel
theorem dX12_single_39 : decode cX12_single 39 = .ok (.goto 4, 3) := by decide +kernel
theorem dX12_single_42 : decode cX12_single 42 = .ok (.iconst 0, 1) := by decide +kernel
theorem dX12_single_43 : decode cX12_single 43 = .ok (.istore_n 3, 1) := by decide +kernel
theorem dX12_single_44 : decode cX12_single 44 = .ok (.iload_n 2, 1) := by decide +kernel
theorem dX12_single_45 : decode cX12_single 45 = .ok (.bipush 45, 2) := by decide +kernel
theorem dX12_single_47 : decode cX12_single 47 = .ok (.if_icmp .eq 18, 3) := by decide +kernel
theorem dX12_single_50 : decode cX12_single 50 = .ok (.iload_n 2, 1) := by decide +kernel
theorem dX12_single_51 : decode cX12_single 51 = .ok (.bipush 33, 2) := by decide +kernel
theorem dX12_single_53 : decode cX12_single 53 = .ok (.if_icmp .eq 12, 3) := by decide +kernel
theorem dX12_single_56 : decode cX12_single 56 = .ok (.iload_n 3, 1) := by decide +kernel
theorem dX12_single_57 : decode cX12_single 57 = .ok (.ifCond .ne 8, 3) := by decide +kernel
theorem dX12_single_60 : decode cX12_single 60 = .ok (.aload_n 0, 1) := by decide +kernel
theorem dX12_single_61 : decode cX12_single 61 = .ok (.invokevirtual 585, 3) := by decide +kernel
theorem dX12_single_64 : decode cX12_single 64 = .ok (.ireturn, 1) := by decide +kernel
theorem dX12_single_65 : decode cX12_single 65 = .ok (.aload_n 0, 1) := by decide +kernel
theorem dX12_single_66 : decode cX12_single 66 = .ok (.invokevirtual 551, 3) := by decide +kernel
theorem dX12_single_69 : decode cX12_single 69 = .ok (.ifCond .ne 5, 3) := by decide +kernel
theorem dX12_single_72 : decode cX12_single 72 = .ok (.iconst 0, 1) := by decide +kernel
theorem dX12_single_73 : decode cX12_single 73 = .ok (.ireturn, 1) := by decide +kernel
theorem dX12_single_74 : decode cX12_single 74 = .ok (.aload_n 0, 1) := by decide +kernel
theorem dX12_single_75 : decode cX12_single 75 = .ok (.aload_n 0, 1) := by decide +kernel
theorem dX12_single_76 : decode cX12_single 76 = .ok (.getfield 116, 3) := by decide +kernel
theorem dX12_single_79 : decode cX12_single 79 = .ok (.invokevirtual 554, 3) := by decide +kernel
theorem dX12_single_82 : decode cX12_single 82 = .ok (.aload_n 0, 1) := by decide +kernel
theorem dX12_single_83 : decode cX12_single 83 = .ok (.dup, 1) := by decide +kernel
theorem dX12_single_84 : decode cX12_single 84 = .ok (.getfield 116, 3) := by decide +kernel
theorem dX12_single_87 : decode cX12_single 87 = .ok (.iconst 1, 1) := by decide +kernel
theorem dX12_single_88 : decode cX12_single 88 = .ok (.iadd, 1) := by decide +kernel
theorem dX12_single_89 : decode cX12_single 89 = .ok (.putfield 116, 3) := by decide +kernel
theorem dX12_single_92 : decode cX12_single 92 = .ok (.aload_n 0, 1) := by decide +kernel
theorem dX12_single_93 : decode cX12_single 93 = .ok (.getfield 82, 3) := by decide +kernel
theorem dX12_single_96 : decode cX12_single 96 = .ok (.aload_n 0, 1) := by decide +kernel
theorem dX12_single_97 : decode cX12_single 97 = .ok (.getfield 116, 3) := by decide +kernel
theorem dX12_single_100 : decode cX12_single 100 = .ok (.iaload, 1) := by decide +kernel
theorem dX12_single_101 : decode cX12_single 101 = .ok (.sipush 218, 3) := by decide +kernel
theorem dX12_single_104 : decode cX12_single 104 = .ok (.isub, 1) := by decide +kernel
theorem dX12_single_105 : decode cX12_single 105 = .ok (.istore 4, 2) := by decide +kernel
theorem dX12_single_107 : decode cX12_single 107 = .ok (.iload_n 3, 1) := by decide +kernel
theorem dX12_single_108 : decode cX12_single 108 = .ok (.ifCond .eq 24, 3) := by decide +kernel
theorem dX12_single_111 : decode cX12_single 111 = .ok (.aload_n 0, 1) := by decide +kernel
theorem dX12_single_112 : decode cX12_single 112 = .ok (.dup, 1) := by decide +kernel
theorem dX12_single_113 : decode cX12_single 113 = .ok (.getfield 116, 3) := by decide +kernel
theorem dX12_single_116 : decode cX12_single 116 = .ok (.iconst 1, 1) := by decide +kernel
theorem dX12_single_117 : decode cX12_single 117 = .ok (.iadd, 1) := by decide +kernel
theorem dX12_single_118 : decode cX12_single 118 = .ok (.putfield 116, 3) := by decide +kernel
theorem dX12_single_121 : decode cX12_single 121 = .ok (.aload_n 0, 1) := by decide +kernel
theorem dX12_single_122 : decode cX12_single 122 = .ok (.bipush 41, 2) := by decide +kernel
theorem dX12_single_124 : decode cX12_single 124 = .ok (.invokevirtual 564, 3) := by decide +kernel
theorem dX12_single_127 : decode cX12_single 127 = .ok (.ifCond .ne 5, 3) := by decide +kernel
theorem dX12_single_130 : decode cX12_single 130 = .ok (.iconst 0, 1) := by decide +kernel
theorem dX12_single_131 : decode cX12_single 131 = .ok (.ireturn, 1) := by decide +kernel
theorem dX12_single_132 : decode cX12_single 132 = .ok (.aload_n 0, 1) := by decide +kernel
theorem dX12_single_133 : decode cX12_single 133 = .ok (.invokevirtual 579, 3) := by decide +kernel
theorem dX12_single_136 : decode cX12_single 136 = .ok (.ifCond .ne 5, 3) := by decide +kernel
theorem dX12_single_139 : decode cX12_single 139 = .ok (.iconst 0, 1) := by decide +kernel
theorem dX12_single_140 : decode cX12_single 140 = .ok (.ireturn, 1) := by decide +kernel
theorem dX12_single_141 : decode cX12_single 141 = .ok (.aload_n 0, 1) := by decide +kernel
theorem dX12_single_142 : decode cX12_single 142 = .ok (.dup, 1) := by decide +kernel
theorem dX12_single_143 : decode cX12_single 143 = .ok (.getfield 131, 3) := by decide +kernel
theorem dX12_single_146 : decode cX12_single 146 = .ok (.iconst 1, 1) := by decide +kernel
theorem dX12_single_147 : decode cX12_single 147 = .ok (.isub, 1) := by decide +kernel
theorem dX12_single_148 : decode cX12_single 148 = .ok (.putfield 131, 3) := by decide +kernel
theorem dX12_single_151 : decode cX12_single 151 = .ok (.aload_n 0, 1) := by decide +kernel
theorem dX12_single_152 : decode cX12_single 152 = .ok (.iload_n 3, 1) := by decide +kernel
theorem dX12_single_153 : decode cX12_single 153 = .ok (.ifCond .eq 8, 3) := by decide +kernel
theorem dX12_single_156 : decode cX12_single 156 = .ok (.bipush 9, 2) := by decide +kernel
theorem dX12_single_158 : decode cX12_single 158 = .ok (.goto 16, 3) := by decide +kernel
theorem dX12_single_161 : decode cX12_single 161 = .ok (.iload_n 2, 1) := by decide +kernel
theorem dX12_single_162 : decode cX12_single 162 = .ok (.bipush 45, 2) := by decide +kernel
theorem dX12_single_164 : decode cX12_single 164 = .ok (.if_icmp .ne 8, 3) := by decide +kernel
theorem dX12_single_167 : decode cX12_single 167 = .ok (.bipush 7, 2) := by decide +kernel
theorem dX12_single_169 : decode cX12_single 169 = .ok (.goto 5, 3) := by decide +kernel
theorem dX12_single_172 : decode cX12_single 172 = .ok (.bipush 8, 2) := by decide +kernel
theorem dX12_single_174 : decode cX12_single 174 = .ok (.iload_n 3, 1) := by decide +kernel
theorem dX12_single_175 : decode cX12_single 175 = .ok (.ifCond .eq 8, 3) := by decide +kernel
theorem dX12_single_178 : decode cX12_single 178 = .ok (.iload 4, 2) := by decide +kernel
theorem dX12_single_180 : decode cX12_single 180 = .ok (.goto 4, 3) := by decide +kernel
theorem dX12_single_183 : decode cX12_single 183 = .ok (.iconst 0, 1) := by decide +kernel
theorem dX12_single_184 : decode cX12_single 184 = .ok (.aload_n 0, 1) := by decide +kernel
theorem dX12_single_185 : decode cX12_single 185 = .ok (.getfield 86, 3) := by decide +kernel
theorem dX12_single_188 : decode cX12_single 188 = .ok (.iload_n 1, 1) := by decide +kernel
theorem dX12_single_189 : decode cX12_single 189 = .ok (.iaload, 1) := by decide +kernel
theorem dX12_single_190 : decode cX12_single 190 = .ok (.invokevirtual 557, 3) := by decide +kernel
theorem dX12_single_193 : decode cX12_single 193 = .ok (.pop, 1) := by decide +kernel
theorem dX12_single_194 : decode cX12_single 194 = .ok (.iconst 1, 1) := by decide +kernel
theorem dX12_single_195 : decode cX12_single 195 = .ok (.ireturn, 1) := by decide +kernel
def b_X12_single_184 (n : Nat) (rc : RCT) (gT : Gs) (v1 : Int32) (s0 : Int32) (s1 : Int32) : Option (Int32 × Gs) :=
  grd (inB v1 3001) (bnd (f_X12_act gT s1 s0 (gIA gT 10 v1.toNatClampNeg)) (fun q_10 => some ((1 : Int32), q_10.2)))
def b_X12_single_174 (n : Nat) (rc : RCT) (gT : Gs) (v1 : Int32) (v3 : Int32) (v4 : Int32) (s0 : Int32) : Option (Int32 × Gs) :=
  if v3 = 0 then (b_X12_single_184 n rc gT v1 (0 : Int32) s0) else (b_X12_single_184 n rc gT v1 v4 s0)
def b_X12_single_132 (n : Nat) (rc : RCT) (gT : Gs) (v1 : Int32) (v2 : Int32) (v3 : Int32) (v4 : Int32) : Option (Int32 × Gs) :=
  bnd (rc.2.2.1 gT) (fun q_7 => if q_7.1 = 0 then (some ((0 : Int32), q_7.2)) else (if v3 = 0 then (if v2 = (45 : Int32) then (b_X12_single_174 n rc (sI q_7.2 25 ((gI q_7.2 25) - (1 : Int32))) v1 v3 v4 (7 : Int32)) else (b_X12_single_174 n rc (sI q_7.2 25 ((gI q_7.2 25) - (1 : Int32))) v1 v3 v4 (8 : Int32))) else (b_X12_single_174 n rc (sI q_7.2 25 ((gI q_7.2 25) - (1 : Int32))) v1 v3 v4 (9 : Int32))))
def b_X12_single_65 (n : Nat) (rc : RCT) (gT : Gs) (v1 : Int32) (v2 : Int32) (v3 : Int32) : Option (Int32 × Gs) :=
  bnd (f_X12_deeper gT) (fun q_2 => if q_2.1 = 0 then (some ((0 : Int32), q_2.2)) else (bnd (f_X12_node q_2.2 (gI q_2.2 20)) (fun q_4 => grd (inB ((gI q_4 20) + (1 : Int32)) 3001) (if v3 = 0 then (b_X12_single_132 n rc (sI q_4 20 ((gI q_4 20) + (1 : Int32))) v1 v2 v3 ((gIA q_4 9 ((gI q_4 20) + (1 : Int32)).toNatClampNeg) - (218 : Int32))) else (bnd (f_X12_need (sI (sI q_4 20 ((gI q_4 20) + (1 : Int32))) 20 (((gI q_4 20) + (1 : Int32)) + (1 : Int32))) (41 : Int32)) (fun q_12 => if q_12.1 = 0 then (some ((0 : Int32), q_12.2)) else (b_X12_single_132 n rc q_12.2 v1 v2 v3 ((gIA q_4 9 ((gI q_4 20) + (1 : Int32)).toNatClampNeg) - (218 : Int32)))))))))
def b_X12_single_43 (n : Nat) (rc : RCT) (gT : Gs) (v1 : Int32) (v2 : Int32) (s0 : Int32) : Option (Int32 × Gs) :=
  if v2 = (45 : Int32) then (b_X12_single_65 n rc gT v1 v2 s0) else (if v2 = (33 : Int32) then (b_X12_single_65 n rc gT v1 v2 s0) else (if s0 = 0 then (bnd (rc.2.1 gT) (fun q_14 => grd (zB q_14.1) (some (q_14.1, q_14.2)))) else (b_X12_single_65 n rc gT v1 v2 s0)))
def b_X12_single_42 (n : Nat) (rc : RCT) (gT : Gs) (v1 : Int32) (v2 : Int32) : Option (Int32 × Gs) :=
  b_X12_single_43 n rc gT v1 v2 (0 : Int32)
def f_X12_single (n : Nat) (rc : RCT) (gT : Gs) : Option (Int32 × Gs) :=
  grd (inB (gI gT 20) 3001) (if (gIA gT 9 (gI gT 20).toNatClampNeg) = (40 : Int32) then (grd (inB ((gI gT 20) + (1 : Int32)) 3001) (bnd (f_X12_isSort (gIA gT 9 ((gI gT 20) + (1 : Int32)).toNatClampNeg)) (fun q_18 => if q_18 = 0 then (b_X12_single_42 n rc gT (gI gT 20) (gIA gT 9 (gI gT 20).toNatClampNeg)) else (b_X12_single_43 n rc gT (gI gT 20) (gIA gT 9 (gI gT 20).toNatClampNeg) (1 : Int32))))) else (b_X12_single_42 n rc gT (gI gT 20) (gIA gT 9 (gI gT 20).toNatClampNeg)))
def S_X12_single_184 (l : Launch) (D : Dx) (hT : Nat) (aT : Nat → Nat) (yT : Nat → ClassId) (d : Nat) (fn : Gs → Int32 → Int32 → Int32 → Option (Int32 × Gs)) : Prop :=
  ∀ {p : Program} {e : Env} {s : State} {m : MethodId} {args : Array Value} {below : List Frame} {meth : Method} {c : Code} {H : Heap} {locs : List Loc} {A : Nat → Prop} {ls : Array Slot} {gT : Gs} {v1 : Int32} {s0 : Int32} {s1 : Int32} {q : Int32 × Gs}, Cx p s m args meth c cX12_single (some .boolean) 5 RX12 lw_all → Hx D (tX12 yT) A s H locs (wX12 hT aT yT gT) → lv_has ls 5 [(0, .ref hT), (1, .int v1)] → fn gT v1 s0 s1 = some q → W p l e (RMd (d + 1)) s m args below meth c H locs 0 0 (MQ below (QI D A (wX12 hT aT yT q.2) q.1) args s 0 0 A) (F0 m 184 ls [.int s0, .int s1, .ref hT])
def S_X12_single_174 (l : Launch) (D : Dx) (hT : Nat) (aT : Nat → Nat) (yT : Nat → ClassId) (d : Nat) (fn : Gs → Int32 → Int32 → Int32 → Int32 → Option (Int32 × Gs)) : Prop :=
  ∀ {p : Program} {e : Env} {s : State} {m : MethodId} {args : Array Value} {below : List Frame} {meth : Method} {c : Code} {H : Heap} {locs : List Loc} {A : Nat → Prop} {ls : Array Slot} {gT : Gs} {v1 : Int32} {v3 : Int32} {v4 : Int32} {s0 : Int32} {q : Int32 × Gs}, Cx p s m args meth c cX12_single (some .boolean) 5 RX12 lw_all → Hx D (tX12 yT) A s H locs (wX12 hT aT yT gT) → lv_has ls 5 [(0, .ref hT), (1, .int v1), (3, .int v3), (4, .int v4)] → fn gT v1 v3 v4 s0 = some q → W p l e (RMd (d + 1)) s m args below meth c H locs 0 0 (MQ below (QI D A (wX12 hT aT yT q.2) q.1) args s 0 0 A) (F0 m 174 ls [.int s0, .ref hT])
def S_X12_single_132 (l : Launch) (D : Dx) (hT : Nat) (aT : Nat → Nat) (yT : Nat → ClassId) (d : Nat) (fn : Gs → Int32 → Int32 → Int32 → Int32 → Option (Int32 × Gs)) : Prop :=
  ∀ {p : Program} {e : Env} {s : State} {m : MethodId} {args : Array Value} {below : List Frame} {meth : Method} {c : Code} {H : Heap} {locs : List Loc} {A : Nat → Prop} {ls : Array Slot} {gT : Gs} {v1 : Int32} {v2 : Int32} {v3 : Int32} {v4 : Int32} {q : Int32 × Gs}, Cx p s m args meth c cX12_single (some .boolean) 5 RX12 lw_all → Hx D (tX12 yT) A s H locs (wX12 hT aT yT gT) → lv_has ls 5 [(0, .ref hT), (1, .int v1), (2, .int v2), (3, .int v3), (4, .int v4)] → fn gT v1 v2 v3 v4 = some q → W p l e (RMd (d + 1)) s m args below meth c H locs 0 0 (MQ below (QI D A (wX12 hT aT yT q.2) q.1) args s 0 0 A) (F0 m 132 ls [])
def S_X12_single_65 (l : Launch) (D : Dx) (hT : Nat) (aT : Nat → Nat) (yT : Nat → ClassId) (d : Nat) (fn : Gs → Int32 → Int32 → Int32 → Option (Int32 × Gs)) : Prop :=
  ∀ {p : Program} {e : Env} {s : State} {m : MethodId} {args : Array Value} {below : List Frame} {meth : Method} {c : Code} {H : Heap} {locs : List Loc} {A : Nat → Prop} {ls : Array Slot} {gT : Gs} {v1 : Int32} {v2 : Int32} {v3 : Int32} {q : Int32 × Gs}, Cx p s m args meth c cX12_single (some .boolean) 5 RX12 lw_all → Hx D (tX12 yT) A s H locs (wX12 hT aT yT gT) → lv_has ls 5 [(0, .ref hT), (1, .int v1), (2, .int v2), (3, .int v3)] → fn gT v1 v2 v3 = some q → W p l e (RMd (d + 1)) s m args below meth c H locs 0 0 (MQ below (QI D A (wX12 hT aT yT q.2) q.1) args s 0 0 A) (F0 m 65 ls [])
def S_X12_single_43 (l : Launch) (D : Dx) (hT : Nat) (aT : Nat → Nat) (yT : Nat → ClassId) (d : Nat) (fn : Gs → Int32 → Int32 → Int32 → Option (Int32 × Gs)) : Prop :=
  ∀ {p : Program} {e : Env} {s : State} {m : MethodId} {args : Array Value} {below : List Frame} {meth : Method} {c : Code} {H : Heap} {locs : List Loc} {A : Nat → Prop} {ls : Array Slot} {gT : Gs} {v1 : Int32} {v2 : Int32} {s0 : Int32} {q : Int32 × Gs}, Cx p s m args meth c cX12_single (some .boolean) 5 RX12 lw_all → Hx D (tX12 yT) A s H locs (wX12 hT aT yT gT) → lv_has ls 5 [(0, .ref hT), (1, .int v1), (2, .int v2)] → fn gT v1 v2 s0 = some q → W p l e (RMd (d + 1)) s m args below meth c H locs 0 0 (MQ below (QI D A (wX12 hT aT yT q.2) q.1) args s 0 0 A) (F0 m 43 ls [.int s0])
def S_X12_single_42 (l : Launch) (D : Dx) (hT : Nat) (aT : Nat → Nat) (yT : Nat → ClassId) (d : Nat) (fn : Gs → Int32 → Int32 → Option (Int32 × Gs)) : Prop :=
  ∀ {p : Program} {e : Env} {s : State} {m : MethodId} {args : Array Value} {below : List Frame} {meth : Method} {c : Code} {H : Heap} {locs : List Loc} {A : Nat → Prop} {ls : Array Slot} {gT : Gs} {v1 : Int32} {v2 : Int32} {q : Int32 × Gs}, Cx p s m args meth c cX12_single (some .boolean) 5 RX12 lw_all → Hx D (tX12 yT) A s H locs (wX12 hT aT yT gT) → lv_has ls 5 [(0, .ref hT), (1, .int v1), (2, .int v2)] → fn gT v1 v2 = some q → W p l e (RMd (d + 1)) s m args below meth c H locs 0 0 (MQ below (QI D A (wX12 hT aT yT q.2) q.1) args s 0 0 A) (F0 m 42 ls [])
set_option maxHeartbeats 4000000 in
set_option maxRecDepth 100000 in
theorem k_X12_single_184 (l : Launch) (D : Dx) (hT : Nat) (aT : Nat → Nat) (yT : Nat → ClassId) (n : Nat) (rc : RCT) (d : Nat) (IR : SRC l D hT aT yT d rc) : S_X12_single_184 l D hT aT yT d (b_X12_single_184 n rc) := by
  intro p e s m args below meth c H locs A ls gT v1 s0 s1 q C X hl hF
  obtain ⟨hx, hb, hr, hml, hown, hts, hlk⟩ := id C
  unfold b_X12_single_184 at hF
  refine lv_aload_n hx hb dX12_single_184 rfl (lv_at hl 0 rfl) ?_
  refine va_get (D := D.1) (ci := 12) (v := .ref (aT 10)) (C := RX12) (T := TX12) (N := 114) hx hb hts wi_X12 hown X.1 X.2.1 0 rfl rfl 10 (by decide) (hts _ q6_204) (fun _ h9 => h9) (fl_get (by decide)) dX12_single_185 ?_
  refine lv_iload_n hx hb dX12_single_188 rfl (lv_at hl 1 rfl) ?_
  obtain ⟨h_9, hF⟩ := grd_some hF
  refine va_iald (D := D.1) (f := gIA gT 10) hx hb X.1 X.2.1 5 4 rfl rfl (inB_ok h_9) dX12_single_189 ?_
  obtain ⟨q_10, hc_11, hF⟩ := bnd_some hF
  refine cV_i (As := [.int s1, .int s0, .int (gIA gT 10 v1.toNatClampNeg)]) (rest := []) C X (c_X12_act l D hT aT yT gT s1 s0 (gIA gT 10 v1.toNatClampNeg) q_10 hc_11 _) (cwV 3 hts (good_V q8_236 q8_238 q0_93 q1_9 q8_239) rfl rfl rfl (by decide +kernel) ⟨rmf (by decide), rml (by decide)⟩) (va_recv X.1 X.2.1 (ci := 12) (q0 := 0) rfl rfl) X.1 X.2.1 X.2.2.1 (free_all X) hl.1 rfl rfl (Nat.le_of_ble_eq_true rfl) dX12_single_190 ⟨Nat.le_of_ble_eq_true rfl, Nat.le_of_ble_eq_true rfl⟩ (fun t H1 locs1 ht hB hk hS => ?_)
  have X : Hx D (tX12 yT) A s H1 locs1 (wX12 hT aT yT q_10.2) := Hx_after_all X ht hB hS
  clear hk hS ht hB
  generalize H1 = H at X ⊢
  generalize locs1 = locs at X ⊢
  refine lv_pop hx hb dX12_single_193 rfl ?_
  refine lv_iconst (v := (1 : Int32)) hx hb dX12_single_194 (by decide) ?_
  have hq := Option.some.inj hF
  subst hq
  exact rt_z (v := (1 : Int32)) C X (by decide) dX12_single_195
set_option maxHeartbeats 4000000 in
set_option maxRecDepth 100000 in
theorem k_X12_single_174 (l : Launch) (D : Dx) (hT : Nat) (aT : Nat → Nat) (yT : Nat → ClassId) (n : Nat) (rc : RCT) (d : Nat) (IR : SRC l D hT aT yT d rc) : S_X12_single_174 l D hT aT yT d (b_X12_single_174 n rc) := by
  intro p e s m args below meth c H locs A ls gT v1 v3 v4 s0 q C X hl hF
  obtain ⟨hx, hb, hr, hml, hown, hts, hlk⟩ := id C
  unfold b_X12_single_174 at hF
  refine lv_iload_n hx hb dX12_single_174 rfl (lv_at hl 2 rfl) ?_
  refine lv_if_eq (tgt := 183) hx hb dX12_single_175 (by decide) (fun c => ?_) (fun c => ?_)
  · replace hF := iT c hF
    refine lv_iconst (v := (0 : Int32)) hx hb dX12_single_183 (by decide) ?_
    exact (k_X12_single_184 l D hT aT yT n rc d IR) C X (lv_sub hl [0, 1] rfl) hF
  · replace hF := iF c hF
    refine lv_iload hx hb dX12_single_178 (lv_at hl 3 rfl) ?_
    refine lv_goto (tgt := 184) hx hb dX12_single_180 (by decide) ?_
    exact (k_X12_single_184 l D hT aT yT n rc d IR) C X (lv_sub hl [0, 1] rfl) hF
set_option maxHeartbeats 4000000 in
set_option maxRecDepth 100000 in
theorem k_X12_single_132 (l : Launch) (D : Dx) (hT : Nat) (aT : Nat → Nat) (yT : Nat → ClassId) (n : Nat) (rc : RCT) (d : Nat) (IR : SRC l D hT aT yT d rc) : S_X12_single_132 l D hT aT yT d (b_X12_single_132 n rc) := by
  intro p e s m args below meth c H locs A ls gT v1 v2 v3 v4 q C X hl hF
  obtain ⟨hx, hb, hr, hml, hown, hts, hlk⟩ := id C
  unfold b_X12_single_132 at hF
  refine lv_aload_n hx hb dX12_single_132 rfl (lv_at hl 0 rfl) ?_
  obtain ⟨q_7, hc_8, hF⟩ := bnd_some hF
  refine cV_i (As := []) (rest := []) C X (IR.2.2.1 gT q_7 hc_8 _) (cwV 0 hts (good_V q8_220 q8_222 q0_89 q1_9 q8_223) rfl rfl rfl (by decide +kernel) ⟨rgf, rgl (by decide)⟩) (va_recv X.1 X.2.1 (ci := 12) (q0 := 0) rfl rfl) X.1 X.2.1 X.2.2.1 (free_all X) hl.1 rfl rfl (Nat.le_of_ble_eq_true rfl) dX12_single_133 ⟨Nat.le_of_ble_eq_true rfl, Nat.le_of_ble_eq_true rfl⟩ (fun t H1 locs1 ht hB hk hS => ?_)
  have X : Hx D (tX12 yT) A s H1 locs1 (wX12 hT aT yT q_7.2) := Hx_after_all X ht hB hS
  clear hk hS ht hB
  generalize H1 = H at X ⊢
  generalize locs1 = locs at X ⊢
  refine lv_if_ne (tgt := 141) hx hb dX12_single_136 (by decide) (fun c => ?_) (fun c => ?_)
  · replace hF := iF c hF
    refine lv_aload_n hx hb dX12_single_141 rfl (lv_at hl 0 rfl) ?_
    refine lv_dup hx hb dX12_single_142 rfl ?_
    refine va_get (D := D.1) (ci := 12) (v := .int (gI q_7.2 25)) (C := RX12) (T := TX12) (N := 114) hx hb hts wi_X12 hown X.1 X.2.1 0 rfl rfl 25 (by decide) (hts _ q6_219) (fun _ h9 => h9) (fl_get (by decide)) dX12_single_143 ?_
    refine lv_iconst (v := (1 : Int32)) hx hb dX12_single_146 (by decide) ?_
    refine lv_isub hx hb dX12_single_147 ?_
    refine va_put (D := D.1) (ci := 12) (v := .int ((gI q_7.2 25) - (1 : Int32))) (ty := .int) (C := RX12) (T := TX12) (N := 114) hx hb hts wi_X12 tyX12 tyX12_ok nmX12 hown X.1 X.2.1 X.2.2.1 X.2.2.2.1 0 rfl rfl 25 (by decide) (hts _ q6_219) (fun _ h9 => h9) rfl (by decide +kernel) rfl rfl (by rw [List.length_map, List.length_range]; decide) dX12_single_148 (fun H locs hP hD hS => ?_)
    have X : Hx D (tX12 yT) A s H locs (wX12 hT aT yT (sI q_7.2 25 ((gI q_7.2 25) - (1 : Int32)))) := Hx_set X (wG_sI (k := 25) rfl) hP hD hS
    refine lv_aload_n hx hb dX12_single_151 rfl (lv_at hl 0 rfl) ?_
    refine lv_iload_n hx hb dX12_single_152 rfl (lv_at hl 3 rfl) ?_
    refine lv_if_eq (tgt := 161) hx hb dX12_single_153 (by decide) (fun c => ?_) (fun c => ?_)
    · replace hF := iT c hF
      refine lv_iload_n hx hb dX12_single_161 rfl (lv_at hl 2 rfl) ?_
      refine lv_bipush (v := (45 : Int32)) hx hb dX12_single_162 (by decide) ?_
      refine lv_icmp_ne (tgt := 172) hx hb dX12_single_164 (by decide) (fun c => ?_) (fun c => ?_)
      · replace hF := iF c hF
        refine lv_bipush (v := (8 : Int32)) hx hb dX12_single_172 (by decide) ?_
        exact (k_X12_single_174 l D hT aT yT n rc d IR) C X (lv_sub hl [0, 1, 3, 4] rfl) hF
      · replace hF := iT c hF
        refine lv_bipush (v := (7 : Int32)) hx hb dX12_single_167 (by decide) ?_
        refine lv_goto (tgt := 174) hx hb dX12_single_169 (by decide) ?_
        exact (k_X12_single_174 l D hT aT yT n rc d IR) C X (lv_sub hl [0, 1, 3, 4] rfl) hF
    · replace hF := iF c hF
      refine lv_bipush (v := (9 : Int32)) hx hb dX12_single_156 (by decide) ?_
      refine lv_goto (tgt := 174) hx hb dX12_single_158 (by decide) ?_
      exact (k_X12_single_174 l D hT aT yT n rc d IR) C X (lv_sub hl [0, 1, 3, 4] rfl) hF
  · replace hF := iT c hF
    refine lv_iconst (v := (0 : Int32)) hx hb dX12_single_139 (by decide) ?_
    have hq := Option.some.inj hF
    subst hq
    exact rt_z (v := (0 : Int32)) C X (by decide) dX12_single_140
set_option maxHeartbeats 4000000 in
set_option maxRecDepth 100000 in
theorem k_X12_single_65 (l : Launch) (D : Dx) (hT : Nat) (aT : Nat → Nat) (yT : Nat → ClassId) (n : Nat) (rc : RCT) (d : Nat) (IR : SRC l D hT aT yT d rc) : S_X12_single_65 l D hT aT yT d (b_X12_single_65 n rc) := by
  intro p e s m args below meth c H locs A ls gT v1 v2 v3 q C X hl hF
  obtain ⟨hx, hb, hr, hml, hown, hts, hlk⟩ := id C
  unfold b_X12_single_65 at hF
  refine lv_aload_n hx hb dX12_single_65 rfl (lv_at hl 0 rfl) ?_
  obtain ⟨q_2, hc_3, hF⟩ := bnd_some hF
  refine cV_i (As := []) (rest := []) C X (c_X12_deeper l D hT aT yT gT q_2 hc_3 _) (cwV 0 hts (good_V q8_228 q8_230 q0_91 q1_9 q8_231) rfl rfl rfl (by decide +kernel) ⟨rmf (by decide), rml (by decide)⟩) (va_recv X.1 X.2.1 (ci := 12) (q0 := 0) rfl rfl) X.1 X.2.1 X.2.2.1 (free_all X) hl.1 rfl rfl (Nat.le_of_ble_eq_true rfl) dX12_single_66 ⟨Nat.le_of_ble_eq_true rfl, Nat.le_of_ble_eq_true rfl⟩ (fun t H1 locs1 ht hB hk hS => ?_)
  have X : Hx D (tX12 yT) A s H1 locs1 (wX12 hT aT yT q_2.2) := Hx_after_all X ht hB hS
  clear hk hS ht hB
  generalize H1 = H at X ⊢
  generalize locs1 = locs at X ⊢
  refine lv_if_ne (tgt := 74) hx hb dX12_single_69 (by decide) (fun c => ?_) (fun c => ?_)
  · replace hF := iF c hF
    refine lv_aload_n hx hb dX12_single_74 rfl (lv_at hl 0 rfl) ?_
    refine lv_aload_n hx hb dX12_single_75 rfl (lv_at hl 0 rfl) ?_
    refine va_get (D := D.1) (ci := 12) (v := .int (gI q_2.2 20)) (C := RX12) (T := TX12) (N := 114) hx hb hts wi_X12 hown X.1 X.2.1 0 rfl rfl 20 (by decide) (hts _ q6_214) (fun _ h9 => h9) (fl_get (by decide)) dX12_single_76 ?_
    obtain ⟨q_4, hc_5, hF⟩ := bnd_some hF
    refine cV_v (As := [.int (gI q_2.2 20)]) (rest := []) C X (c_X12_node l D hT aT yT q_2.2 (gI q_2.2 20) q_4 hc_5 _) (cwV 1 hts (good_V q8_232 q8_234 q0_92 q1_9 q8_235) rfl rfl rfl (by decide +kernel) ⟨rmf (by decide), rml (by decide)⟩) (va_recv X.1 X.2.1 (ci := 12) (q0 := 0) rfl rfl) X.1 X.2.1 X.2.2.1 (free_all X) hl.1 rfl rfl (Nat.le_of_ble_eq_true rfl) dX12_single_79 ⟨Nat.le_of_ble_eq_true rfl, Nat.le_of_ble_eq_true rfl⟩ (fun t H1 locs1 ht hB hk hS => ?_)
    have X : Hx D (tX12 yT) A s H1 locs1 (wX12 hT aT yT q_4) := Hx_after_all X ht hB hS
    clear hk hS ht hB
    generalize H1 = H at X ⊢
    generalize locs1 = locs at X ⊢
    refine lv_aload_n hx hb dX12_single_82 rfl (lv_at hl 0 rfl) ?_
    refine lv_dup hx hb dX12_single_83 rfl ?_
    refine va_get (D := D.1) (ci := 12) (v := .int (gI q_4 20)) (C := RX12) (T := TX12) (N := 114) hx hb hts wi_X12 hown X.1 X.2.1 0 rfl rfl 20 (by decide) (hts _ q6_214) (fun _ h9 => h9) (fl_get (by decide)) dX12_single_84 ?_
    refine lv_iconst (v := (1 : Int32)) hx hb dX12_single_87 (by decide) ?_
    refine lv_iadd hx hb dX12_single_88 ?_
    refine va_put (D := D.1) (ci := 12) (v := .int ((gI q_4 20) + (1 : Int32))) (ty := .int) (C := RX12) (T := TX12) (N := 114) hx hb hts wi_X12 tyX12 tyX12_ok nmX12 hown X.1 X.2.1 X.2.2.1 X.2.2.2.1 0 rfl rfl 20 (by decide) (hts _ q6_214) (fun _ h9 => h9) rfl (by decide +kernel) rfl rfl (by rw [List.length_map, List.length_range]; decide) dX12_single_89 (fun H locs hP hD hS => ?_)
    have X : Hx D (tX12 yT) A s H locs (wX12 hT aT yT (sI q_4 20 ((gI q_4 20) + (1 : Int32)))) := Hx_set X (wG_sI (k := 20) rfl) hP hD hS
    refine lv_aload_n hx hb dX12_single_92 rfl (lv_at hl 0 rfl) ?_
    refine va_get (D := D.1) (ci := 12) (v := .ref (aT 9)) (C := RX12) (T := TX12) (N := 114) hx hb hts wi_X12 hown X.1 X.2.1 0 rfl rfl 9 (by decide) (hts _ q6_203) (fun _ h9 => h9) (fl_get (by decide)) dX12_single_93 ?_
    refine lv_aload_n hx hb dX12_single_96 rfl (lv_at hl 0 rfl) ?_
    refine va_get (D := D.1) (ci := 12) (v := .int ((gI q_4 20) + (1 : Int32))) (C := RX12) (T := TX12) (N := 114) hx hb hts wi_X12 hown X.1 X.2.1 0 rfl rfl 20 (by decide) (hts _ q6_214) (fun _ h9 => h9) (fl_get (by decide)) dX12_single_97 ?_
    obtain ⟨h_6, hF⟩ := grd_some hF
    refine va_iald (D := D.1) (f := gIA q_4 9) hx hb X.1 X.2.1 4 3 rfl rfl (inB_ok h_6) dX12_single_100 ?_
    refine lv_sipush (v := (218 : Int32)) hx hb dX12_single_101 (by decide) ?_
    refine lv_isub hx hb dX12_single_104 ?_
    refine lv_istore (lv' := [(4, .int ((gIA q_4 9 ((gI q_4 20) + (1 : Int32)).toNatClampNeg) - (218 : Int32))), (0, .ref hT), (1, .int v1), (2, .int v2), (3, .int v3)]) hx hb dX12_single_105 hl (by decide) rfl (fun ls hl => ?_)
    refine lv_iload_n hx hb dX12_single_107 rfl (lv_at hl 4 rfl) ?_
    refine lv_if_eq (tgt := 132) hx hb dX12_single_108 (by decide) (fun c => ?_) (fun c => ?_)
    · replace hF := iT c hF
      exact (k_X12_single_132 l D hT aT yT n rc d IR) C X (lv_sub hl [1, 2, 3, 4, 0] rfl) hF
    · replace hF := iF c hF
      refine lv_aload_n hx hb dX12_single_111 rfl (lv_at hl 1 rfl) ?_
      refine lv_dup hx hb dX12_single_112 rfl ?_
      refine va_get (D := D.1) (ci := 12) (v := .int ((gI q_4 20) + (1 : Int32))) (C := RX12) (T := TX12) (N := 114) hx hb hts wi_X12 hown X.1 X.2.1 0 rfl rfl 20 (by decide) (hts _ q6_214) (fun _ h9 => h9) (fl_get (by decide)) dX12_single_113 ?_
      refine lv_iconst (v := (1 : Int32)) hx hb dX12_single_116 (by decide) ?_
      refine lv_iadd hx hb dX12_single_117 ?_
      refine va_put (D := D.1) (ci := 12) (v := .int (((gI q_4 20) + (1 : Int32)) + (1 : Int32))) (ty := .int) (C := RX12) (T := TX12) (N := 114) hx hb hts wi_X12 tyX12 tyX12_ok nmX12 hown X.1 X.2.1 X.2.2.1 X.2.2.2.1 0 rfl rfl 20 (by decide) (hts _ q6_214) (fun _ h9 => h9) rfl (by decide +kernel) rfl rfl (by rw [List.length_map, List.length_range]; decide) dX12_single_118 (fun H locs hP hD hS => ?_)
      have X : Hx D (tX12 yT) A s H locs (wX12 hT aT yT (sI (sI q_4 20 ((gI q_4 20) + (1 : Int32))) 20 (((gI q_4 20) + (1 : Int32)) + (1 : Int32)))) := Hx_set X (wG_sI (k := 20) rfl) hP hD hS
      refine lv_aload_n hx hb dX12_single_121 rfl (lv_at hl 1 rfl) ?_
      refine lv_bipush (v := (41 : Int32)) hx hb dX12_single_122 (by decide) ?_
      obtain ⟨q_12, hc_13, hF⟩ := bnd_some hF
      refine cV_i (As := [.int (41 : Int32)]) (rest := []) C X (c_X12_need l D hT aT yT (sI (sI q_4 20 ((gI q_4 20) + (1 : Int32))) 20 (((gI q_4 20) + (1 : Int32)) + (1 : Int32))) (41 : Int32) q_12 hc_13 _) (cwV 1 hts (good_V q8_189 q8_191 q0_82 q1_9 q8_192) rfl rfl rfl (by decide +kernel) ⟨rmf (by decide), rml (by decide)⟩) (va_recv X.1 X.2.1 (ci := 12) (q0 := 0) rfl rfl) X.1 X.2.1 X.2.2.1 (free_all X) hl.1 rfl rfl (Nat.le_of_ble_eq_true rfl) dX12_single_124 ⟨Nat.le_of_ble_eq_true rfl, Nat.le_of_ble_eq_true rfl⟩ (fun t H1 locs1 ht hB hk hS => ?_)
      have X : Hx D (tX12 yT) A s H1 locs1 (wX12 hT aT yT q_12.2) := Hx_after_all X ht hB hS
      clear hk hS ht hB
      generalize H1 = H at X ⊢
      generalize locs1 = locs at X ⊢
      refine lv_if_ne (tgt := 132) hx hb dX12_single_127 (by decide) (fun c => ?_) (fun c => ?_)
      · replace hF := iF c hF
        exact (k_X12_single_132 l D hT aT yT n rc d IR) C X (lv_sub hl [1, 2, 3, 4, 0] rfl) hF
      · replace hF := iT c hF
        refine lv_iconst (v := (0 : Int32)) hx hb dX12_single_130 (by decide) ?_
        have hq := Option.some.inj hF
        subst hq
        exact rt_z (v := (0 : Int32)) C X (by decide) dX12_single_131
  · replace hF := iT c hF
    refine lv_iconst (v := (0 : Int32)) hx hb dX12_single_72 (by decide) ?_
    have hq := Option.some.inj hF
    subst hq
    exact rt_z (v := (0 : Int32)) C X (by decide) dX12_single_73
set_option maxHeartbeats 4000000 in
set_option maxRecDepth 100000 in
theorem k_X12_single_43 (l : Launch) (D : Dx) (hT : Nat) (aT : Nat → Nat) (yT : Nat → ClassId) (n : Nat) (rc : RCT) (d : Nat) (IR : SRC l D hT aT yT d rc) : S_X12_single_43 l D hT aT yT d (b_X12_single_43 n rc) := by
  intro p e s m args below meth c H locs A ls gT v1 v2 s0 q C X hl hF
  obtain ⟨hx, hb, hr, hml, hown, hts, hlk⟩ := id C
  unfold b_X12_single_43 at hF
  refine lv_istore_n (lv' := [(3, .int s0), (0, .ref hT), (1, .int v1), (2, .int v2)]) hx hb dX12_single_43 rfl hl (by decide) rfl (fun ls hl => ?_)
  refine lv_iload_n hx hb dX12_single_44 rfl (lv_at hl 3 rfl) ?_
  refine lv_bipush (v := (45 : Int32)) hx hb dX12_single_45 (by decide) ?_
  refine lv_icmp_eq (tgt := 65) hx hb dX12_single_47 (by decide) (fun c => ?_) (fun c => ?_)
  · replace hF := iT c hF
    exact (k_X12_single_65 l D hT aT yT n rc d IR) C X (lv_sub hl [1, 2, 3, 0] rfl) hF
  · replace hF := iF c hF
    refine lv_iload_n hx hb dX12_single_50 rfl (lv_at hl 3 rfl) ?_
    refine lv_bipush (v := (33 : Int32)) hx hb dX12_single_51 (by decide) ?_
    refine lv_icmp_eq (tgt := 65) hx hb dX12_single_53 (by decide) (fun c => ?_) (fun c => ?_)
    · replace hF := iT c hF
      exact (k_X12_single_65 l D hT aT yT n rc d IR) C X (lv_sub hl [1, 2, 3, 0] rfl) hF
    · replace hF := iF c hF
      refine lv_iload_n hx hb dX12_single_56 rfl (lv_at hl 0 rfl) ?_
      refine lv_if_ne (tgt := 65) hx hb dX12_single_57 (by decide) (fun c => ?_) (fun c => ?_)
      · replace hF := iF c hF
        exact (k_X12_single_65 l D hT aT yT n rc d IR) C X (lv_sub hl [1, 2, 3, 0] rfl) hF
      · replace hF := iT c hF
        refine lv_aload_n hx hb dX12_single_60 rfl (lv_at hl 1 rfl) ?_
        obtain ⟨q_14, hc_15, hF⟩ := bnd_some hF
        refine cV_i (As := []) (rest := []) C X (IR.2.1 gT q_14 hc_15 _) (cwV 0 hts (good_V q8_224 q8_226 q0_90 q1_9 q8_227) rfl rfl rfl (by decide +kernel) ⟨rgf, rgl (by decide)⟩) (va_recv X.1 X.2.1 (ci := 12) (q0 := 0) rfl rfl) X.1 X.2.1 X.2.2.1 (free_all X) hl.1 rfl rfl (Nat.le_of_ble_eq_true rfl) dX12_single_61 ⟨Nat.le_of_ble_eq_true rfl, Nat.le_of_ble_eq_true rfl⟩ (fun t H1 locs1 ht hB hk hS => ?_)
        have X : Hx D (tX12 yT) A s H1 locs1 (wX12 hT aT yT q_14.2) := Hx_after_all X ht hB hS
        clear hk hS ht hB
        generalize H1 = H at X ⊢
        generalize locs1 = locs at X ⊢
        obtain ⟨h_16, hF⟩ := grd_some hF
        have hq := Option.some.inj hF
        subst hq
        exact rt_z (v := q_14.1) C X (zB_n h_16) dX12_single_64
set_option maxHeartbeats 4000000 in
set_option maxRecDepth 100000 in
theorem k_X12_single_42 (l : Launch) (D : Dx) (hT : Nat) (aT : Nat → Nat) (yT : Nat → ClassId) (n : Nat) (rc : RCT) (d : Nat) (IR : SRC l D hT aT yT d rc) : S_X12_single_42 l D hT aT yT d (b_X12_single_42 n rc) := by
  intro p e s m args below meth c H locs A ls gT v1 v2 q C X hl hF
  obtain ⟨hx, hb, hr, hml, hown, hts, hlk⟩ := id C
  unfold b_X12_single_42 at hF
  refine lv_iconst (v := (0 : Int32)) hx hb dX12_single_42 (by decide) ?_
  exact (k_X12_single_43 l D hT aT yT n rc d IR) C X (lv_sub hl [0, 1, 2] rfl) hF
set_option maxHeartbeats 4000000 in
set_option maxRecDepth 100000 in
theorem c_X12_single (l : Launch) (D : Dx) (hT : Nat) (aT : Nat → Nat) (yT : Nat → ClassId) (n : Nat) (rc : RCT) (d : Nat) (IR : SRC l D hT aT yT d rc) (gT : Gs) (q : Int32 × Gs) (hF : f_X12_single n rc gT = some q) (sz : Nat) : Met l yX12_single (ws_ yX12_single cX12_single 5 (some .boolean)) (RMd (d + 1)) (PC D (tX12 yT) [.ref hT] (wX12 hT aT yT gT) sz) (QI D (va_A (wX12 hT aT yT gT) sz) (wX12 hT aT yT q.2) q.1) 0 0 (va_A (wX12 hT aT yT gT) sz) := by
  refine Met.ofW (cc := cX12_single) (maxL := 5) (ret := (some .boolean)) (by decide) rfl ?_
  intro p e s m args below meth c s₁ B hml hv
  obtain ⟨rfl, hsz, hP, hK, hD, hN⟩ := hv
  subst hsz
  have C : Cx p s m _ meth c cX12_single (some .boolean) 5 RX12 lw_all := Cx_of B hml
  have X := Hx_start hP hK hD hN
  obtain ⟨hx, hb, hr, -, hown, hts, hlk⟩ := id C
  generalize va_A (wX12 hT aT yT gT) s.heap.size = A at X ⊢
  have hl := lv_entry ([.ref hT]) (n := 5) (Nat.le_of_ble_eq_true rfl)
  rw [lg_entry_eq]
  generalize (lg_sl ([.ref hT]) ++ List.replicate (5 - (lg_sl ([.ref hT])).length) Slot.unset).toArray = ls at hl ⊢
  have hl : lv_has ls 5 [(0, .ref hT)] := hl
  unfold f_X12_single at hF
  refine lv_aload_n hx hb dX12_single_0 rfl (lv_at hl 0 rfl) ?_
  refine va_get (D := D.1) (ci := 12) (v := .int (gI gT 20)) (C := RX12) (T := TX12) (N := 114) hx hb hts wi_X12 hown X.1 X.2.1 0 rfl rfl 20 (by decide) (hts _ q6_214) (fun _ h9 => h9) (fl_get (by decide)) dX12_single_1 ?_
  refine lv_istore_n (lv' := [(1, .int (gI gT 20)), (0, .ref hT)]) hx hb dX12_single_4 rfl hl (by decide) rfl (fun ls hl => ?_)
  refine lv_aload_n hx hb dX12_single_5 rfl (lv_at hl 1 rfl) ?_
  refine va_get (D := D.1) (ci := 12) (v := .ref (aT 9)) (C := RX12) (T := TX12) (N := 114) hx hb hts wi_X12 hown X.1 X.2.1 0 rfl rfl 9 (by decide) (hts _ q6_203) (fun _ h9 => h9) (fl_get (by decide)) dX12_single_6 ?_
  refine lv_aload_n hx hb dX12_single_9 rfl (lv_at hl 1 rfl) ?_
  refine va_get (D := D.1) (ci := 12) (v := .int (gI gT 20)) (C := RX12) (T := TX12) (N := 114) hx hb hts wi_X12 hown X.1 X.2.1 0 rfl rfl 20 (by decide) (hts _ q6_214) (fun _ h9 => h9) (fl_get (by decide)) dX12_single_10 ?_
  obtain ⟨h_1, hF⟩ := grd_some hF
  refine va_iald (D := D.1) (f := gIA gT 9) hx hb X.1 X.2.1 4 3 rfl rfl (inB_ok h_1) dX12_single_13 ?_
  refine lv_istore_n (lv' := [(2, .int (gIA gT 9 (gI gT 20).toNatClampNeg)), (1, .int (gI gT 20)), (0, .ref hT)]) hx hb dX12_single_14 rfl hl (by decide) rfl (fun ls hl => ?_)
  refine lv_iload_n hx hb dX12_single_15 rfl (lv_at hl 0 rfl) ?_
  refine lv_bipush (v := (40 : Int32)) hx hb dX12_single_16 (by decide) ?_
  refine lv_icmp_ne (tgt := 42) hx hb dX12_single_18 (by decide) (fun c => ?_) (fun c => ?_)
  · replace hF := iF c hF
    exact (k_X12_single_42 l D hT aT yT n rc d IR) C X (lv_sub hl [2, 1, 0] rfl) hF
  · replace hF := iT c hF
    refine lv_aload_n hx hb dX12_single_21 rfl (lv_at hl 2 rfl) ?_
    refine va_get (D := D.1) (ci := 12) (v := .ref (aT 9)) (C := RX12) (T := TX12) (N := 114) hx hb hts wi_X12 hown X.1 X.2.1 0 rfl rfl 9 (by decide) (hts _ q6_203) (fun _ h9 => h9) (fl_get (by decide)) dX12_single_22 ?_
    refine lv_aload_n hx hb dX12_single_25 rfl (lv_at hl 2 rfl) ?_
    refine va_get (D := D.1) (ci := 12) (v := .int (gI gT 20)) (C := RX12) (T := TX12) (N := 114) hx hb hts wi_X12 hown X.1 X.2.1 0 rfl rfl 20 (by decide) (hts _ q6_214) (fun _ h9 => h9) (fl_get (by decide)) dX12_single_26 ?_
    refine lv_iconst (v := (1 : Int32)) hx hb dX12_single_29 (by decide) ?_
    refine lv_iadd hx hb dX12_single_30 ?_
    obtain ⟨h_17, hF⟩ := grd_some hF
    refine va_iald (D := D.1) (f := gIA gT 9) hx hb X.1 X.2.1 4 3 rfl rfl (inB_ok h_17) dX12_single_31 ?_
    obtain ⟨q_18, hc_19, hF⟩ := bnd_some hF
    refine cS_i (As := [.int (gIA gT 9 ((gI gT 20) + (1 : Int32)).toNatClampNeg)]) (rest := []) C X (c_X12_isSort l D  (gIA gT 9 ((gI gT 20) + (1 : Int32)).toNatClampNeg) q_18 hc_19 _) (va_cwS 1 hts (good_S q8_193 q8_194 q1_9 q8_195) rfl rfl rfl (by decide +kernel) ⟨rmf (by decide), rml (by decide)⟩) (eK X) eP (eD (A := A)) (eF X) hl.1 rfl rfl (Nat.le_of_ble_eq_true rfl) dX12_single_32 ⟨Nat.le_of_ble_eq_true rfl, Nat.le_of_ble_eq_true rfl⟩ (fun t H1 locs1 ht hB hk hS => ?_)
    have X := Hx_after_none X hk hS
    clear hk hS ht hB
    generalize H1 = H at X ⊢
    generalize locs1 = locs at X ⊢
    refine lv_if_eq (tgt := 42) hx hb dX12_single_35 (by decide) (fun c => ?_) (fun c => ?_)
    · replace hF := iT c hF
      exact (k_X12_single_42 l D hT aT yT n rc d IR) C X (lv_sub hl [2, 1, 0] rfl) hF
    · replace hF := iF c hF
      refine lv_iconst (v := (1 : Int32)) hx hb dX12_single_38 (by decide) ?_
      refine lv_goto (tgt := 43) hx hb dX12_single_39 (by decide) ?_
      exact (k_X12_single_43 l D hT aT yT n rc d IR) C X (lv_sub hl [2, 1, 0] rfl) hF

/-! ### X12_product -/
theorem dX12_product_0 : decode cX12_product 0 = .ok (.aload_n 0, 1) := by decide +kernel
theorem dX12_product_1 : decode cX12_product 1 = .ok (.invokevirtual 579, 3) := by decide +kernel
theorem dX12_product_4 : decode cX12_product 4 = .ok (.ifCond .ne 5, 3) := by decide +kernel
theorem dX12_product_7 : decode cX12_product 7 = .ok (.iconst 0, 1) := by decide +kernel
theorem dX12_product_8 : decode cX12_product 8 = .ok (.ireturn, 1) := by decide +kernel
theorem dX12_product_9 : decode cX12_product 9 = .ok (.aload_n 0, 1) := by decide +kernel
theorem dX12_product_10 : decode cX12_product 10 = .ok (.getfield 82, 3) := by decide +kernel
theorem dX12_product_13 : decode cX12_product 13 = .ok (.aload_n 0, 1) := by decide +kernel
theorem dX12_product_14 : decode cX12_product 14 = .ok (.getfield 116, 3) := by decide +kernel
theorem dX12_product_17 : decode cX12_product 17 = .ok (.iaload, 1) := by decide +kernel
theorem dX12_product_18 : decode cX12_product 18 = .ok (.bipush 42, 2) := by decide +kernel
theorem dX12_product_20 : decode cX12_product 20 = .ok (.if_icmp .eq 31, 3) := by decide +kernel
theorem dX12_product_23 : decode cX12_product 23 = .ok (.aload_n 0, 1) := by decide +kernel
theorem dX12_product_24 : decode cX12_product 24 = .ok (.getfield 82, 3) := by decide +kernel
theorem dX12_product_27 : decode cX12_product 27 = .ok (.aload_n 0, 1) := by decide +kernel
theorem dX12_product_28 : decode cX12_product 28 = .ok (.getfield 116, 3) := by decide +kernel
theorem dX12_product_31 : decode cX12_product 31 = .ok (.iaload, 1) := by decide +kernel
theorem dX12_product_32 : decode cX12_product 32 = .ok (.bipush 47, 2) := by decide +kernel
theorem dX12_product_34 : decode cX12_product 34 = .ok (.if_icmp .eq 17, 3) := by decide +kernel
theorem dX12_product_37 : decode cX12_product 37 = .ok (.aload_n 0, 1) := by decide +kernel
theorem dX12_product_38 : decode cX12_product 38 = .ok (.getfield 82, 3) := by decide +kernel
theorem dX12_product_41 : decode cX12_product 41 = .ok (.aload_n 0, 1) := by decide +kernel
theorem dX12_product_42 : decode cX12_product 42 = .ok (.getfield 116, 3) := by decide +kernel
theorem dX12_product_45 : decode cX12_product 45 = .ok (.iaload, 1) := by decide +kernel
theorem dX12_product_46 : decode cX12_product 46 = .ok (.bipush 37, 2) := by decide +kernel
theorem dX12_product_48 : decode cX12_product 48 = .ok (.if_icmp .ne 57, 3) := by decide +kernel
theorem dX12_product_51 : decode cX12_product 51 = .ok (.aload_n 0, 1) := by decide +kernel
theorem dX12_product_52 : decode cX12_product 52 = .ok (.getfield 116, 3) := by decide +kernel
theorem dX12_product_55 : decode cX12_product 55 = .ok (.istore_n 1, 1) := by decide +kernel
theorem dX12_product_56 : decode cX12_product 56 = .ok (.aload_n 0, 1) := by decide +kernel
theorem dX12_product_57 : decode cX12_product 57 = .ok (.aload_n 0, 1) := by decide +kernel
theorem dX12_product_58 : decode cX12_product 58 = .ok (.getfield 116, 3) := by decide +kernel
theorem dX12_product_61 : decode cX12_product 61 = .ok (.invokevirtual 554, 3) := by decide +kernel
theorem dX12_product_64 : decode cX12_product 64 = .ok (.aload_n 0, 1) := by decide +kernel
theorem dX12_product_65 : decode cX12_product 65 = .ok (.dup, 1) := by decide +kernel
theorem dX12_product_66 : decode cX12_product 66 = .ok (.getfield 116, 3) := by decide +kernel
theorem dX12_product_69 : decode cX12_product 69 = .ok (.iconst 1, 1) := by decide +kernel
theorem dX12_product_70 : decode cX12_product 70 = .ok (.iadd, 1) := by decide +kernel
theorem dX12_product_71 : decode cX12_product 71 = .ok (.putfield 116, 3) := by decide +kernel
theorem dX12_product_74 : decode cX12_product 74 = .ok (.aload_n 0, 1) := by decide +kernel
theorem dX12_product_75 : decode cX12_product 75 = .ok (.invokevirtual 579, 3) := by decide +kernel
theorem dX12_product_78 : decode cX12_product 78 = .ok (.ifCond .ne 5, 3) := by decide +kernel
theorem dX12_product_81 : decode cX12_product 81 = .ok (.iconst 0, 1) := by decide +kernel
theorem dX12_product_82 : decode cX12_product 82 = .ok (.ireturn, 1) := by decide +kernel
theorem dX12_product_83 : decode cX12_product 83 = .ok (.aload_n 0, 1) := by decide +kernel
theorem dX12_product_84 : decode cX12_product 84 = .ok (.bipush 12, 2) := by decide +kernel
theorem dX12_product_86 : decode cX12_product 86 = .ok (.aload_n 0, 1) := by decide +kernel
theorem dX12_product_87 : decode cX12_product 87 = .ok (.getfield 82, 3) := by decide +kernel
theorem dX12_product_90 : decode cX12_product 90 = .ok (.iload_n 1, 1) := by decide +kernel
theorem dX12_product_91 : decode cX12_product 91 = .ok (.iaload, 1) := by decide +kernel
theorem dX12_product_92 : decode cX12_product 92 = .ok (.aload_n 0, 1) := by decide +kernel
theorem dX12_product_93 : decode cX12_product 93 = .ok (.getfield 86, 3) := by decide +kernel
theorem dX12_product_96 : decode cX12_product 96 = .ok (.iload_n 1, 1) := by decide +kernel
theorem dX12_product_97 : decode cX12_product 97 = .ok (.iaload, 1) := by decide +kernel
theorem dX12_product_98 : decode cX12_product 98 = .ok (.invokevirtual 557, 3) := by decide +kernel
theorem dX12_product_101 : decode cX12_product 101 = .ok (.pop, 1) := by decide +kernel
theorem dX12_product_102 : decode cX12_product 102 = .ok (.goto (-93), 3) := by decide +kernel
theorem dX12_product_105 : decode cX12_product 105 = .ok (.iconst 1, 1) := by decide +kernel
theorem dX12_product_106 : decode cX12_product 106 = .ok (.ireturn, 1) := by decide +kernel
def b_X12_product_51 (n : Nat) (rc : RCT) (rec : (Gs → Option (Int32 × Gs))) (gT : Gs) : Option (Int32 × Gs) :=
  bnd (f_X12_node gT (gI gT 20)) (fun q_4 => bnd (rc.2.2.1 (sI q_4 20 ((gI q_4 20) + (1 : Int32)))) (fun q_6 => if q_6.1 = 0 then (some ((0 : Int32), q_6.2)) else (grd (inB (gI gT 20) 3001) (grd (inB (gI gT 20) 3001) (bnd (f_X12_act q_6.2 (12 : Int32) (gIA q_6.2 9 (gI gT 20).toNatClampNeg) (gIA q_6.2 10 (gI gT 20).toNatClampNeg)) (fun q_10 => rec q_10.2))))))
def h_X12_product_9 (n : Nat) (rc : RCT) (rec : (Gs → Option (Int32 × Gs))) (gT : Gs) : Option (Int32 × Gs) :=
  grd (inB (gI gT 20) 3001) (if (gIA gT 9 (gI gT 20).toNatClampNeg) = (42 : Int32) then (b_X12_product_51 n rc rec gT) else (grd (inB (gI gT 20) 3001) (if (gIA gT 9 (gI gT 20).toNatClampNeg) = (47 : Int32) then (b_X12_product_51 n rc rec gT) else (grd (inB (gI gT 20) 3001) (if (gIA gT 9 (gI gT 20).toNatClampNeg) = (37 : Int32) then (b_X12_product_51 n rc rec gT) else (some ((1 : Int32), gT)))))))
def L_X12_product (n : Nat) (rc : RCT) : Nat → (Gs → Option (Int32 × Gs))
  | 0 => ((fun _ => none))
  | k + 1 => (h_X12_product_9 n rc (L_X12_product n rc k))
def f_X12_product (n : Nat) (rc : RCT) (gT : Gs) : Option (Int32 × Gs) :=
  bnd (rc.2.2.1 gT) (fun q_1 => if q_1.1 = 0 then (some ((0 : Int32), q_1.2)) else ((L_X12_product n rc n) q_1.2))
def S_X12_product_51 (l : Launch) (D : Dx) (hT : Nat) (aT : Nat → Nat) (yT : Nat → ClassId) (d : Nat) (fn : Gs → Option (Int32 × Gs)) : Prop :=
  ∀ {p : Program} {e : Env} {s : State} {m : MethodId} {args : Array Value} {below : List Frame} {meth : Method} {c : Code} {H : Heap} {locs : List Loc} {A : Nat → Prop} {ls : Array Slot} {gT : Gs} {q : Int32 × Gs}, Cx p s m args meth c cX12_product (some .boolean) 2 RX12 lw_all → Hx D (tX12 yT) A s H locs (wX12 hT aT yT gT) → lv_has ls 2 [(0, .ref hT)] → fn gT = some q → W p l e (RMd (d + 1)) s m args below meth c H locs 0 0 (MQ below (QI D A (wX12 hT aT yT q.2) q.1) args s 0 0 A) (F0 m 51 ls [])
def S_X12_product_9 (l : Launch) (D : Dx) (hT : Nat) (aT : Nat → Nat) (yT : Nat → ClassId) (d : Nat) (fn : Gs → Option (Int32 × Gs)) : Prop :=
  ∀ {p : Program} {e : Env} {s : State} {m : MethodId} {args : Array Value} {below : List Frame} {meth : Method} {c : Code} {H : Heap} {locs : List Loc} {A : Nat → Prop} {ls : Array Slot} {gT : Gs} {q : Int32 × Gs}, Cx p s m args meth c cX12_product (some .boolean) 2 RX12 lw_all → Hx D (tX12 yT) A s H locs (wX12 hT aT yT gT) → lv_has ls 2 [(0, .ref hT)] → fn gT = some q → W p l e (RMd (d + 1)) s m args below meth c H locs 0 0 (MQ below (QI D A (wX12 hT aT yT q.2) q.1) args s 0 0 A) (F0 m 9 ls [])
def SH_X12_product (l : Launch) (D : Dx) (hT : Nat) (aT : Nat → Nat) (yT : Nat → ClassId) (d : Nat) (rec : (Gs → Option (Int32 × Gs))) : Prop := S_X12_product_9 l D hT aT yT d rec
set_option maxHeartbeats 4000000 in
set_option maxRecDepth 100000 in
theorem k_X12_product_51 (l : Launch) (D : Dx) (hT : Nat) (aT : Nat → Nat) (yT : Nat → ClassId) (n : Nat) (rc : RCT) (d : Nat) (IR : SRC l D hT aT yT d rc) (rec : (Gs → Option (Int32 × Gs))) (IH : SH_X12_product l D hT aT yT d rec) : S_X12_product_51 l D hT aT yT d (b_X12_product_51 n rc rec) := by
  intro p e s m args below meth c H locs A ls gT q C X hl hF
  obtain ⟨hx, hb, hr, hml, hown, hts, hlk⟩ := id C
  unfold b_X12_product_51 at hF
  refine lv_aload_n hx hb dX12_product_51 rfl (lv_at hl 0 rfl) ?_
  refine va_get (D := D.1) (ci := 12) (v := .int (gI gT 20)) (C := RX12) (T := TX12) (N := 114) hx hb hts wi_X12 hown X.1 X.2.1 0 rfl rfl 20 (by decide) (hts _ q6_214) (fun _ h9 => h9) (fl_get (by decide)) dX12_product_52 ?_
  refine lv_istore_n (lv' := [(1, .int (gI gT 20)), (0, .ref hT)]) hx hb dX12_product_55 rfl hl (by decide) rfl (fun ls hl => ?_)
  refine lv_aload_n hx hb dX12_product_56 rfl (lv_at hl 1 rfl) ?_
  refine lv_aload_n hx hb dX12_product_57 rfl (lv_at hl 1 rfl) ?_
  refine va_get (D := D.1) (ci := 12) (v := .int (gI gT 20)) (C := RX12) (T := TX12) (N := 114) hx hb hts wi_X12 hown X.1 X.2.1 0 rfl rfl 20 (by decide) (hts _ q6_214) (fun _ h9 => h9) (fl_get (by decide)) dX12_product_58 ?_
  obtain ⟨q_4, hc_5, hF⟩ := bnd_some hF
  refine cV_v (As := [.int (gI gT 20)]) (rest := []) C X (c_X12_node l D hT aT yT gT (gI gT 20) q_4 hc_5 _) (cwV 1 hts (good_V q8_232 q8_234 q0_92 q1_9 q8_235) rfl rfl rfl (by decide +kernel) ⟨rmf (by decide), rml (by decide)⟩) (va_recv X.1 X.2.1 (ci := 12) (q0 := 0) rfl rfl) X.1 X.2.1 X.2.2.1 (free_all X) hl.1 rfl rfl (Nat.le_of_ble_eq_true rfl) dX12_product_61 ⟨Nat.le_of_ble_eq_true rfl, Nat.le_of_ble_eq_true rfl⟩ (fun t H1 locs1 ht hB hk hS => ?_)
  have X : Hx D (tX12 yT) A s H1 locs1 (wX12 hT aT yT q_4) := Hx_after_all X ht hB hS
  clear hk hS ht hB
  generalize H1 = H at X ⊢
  generalize locs1 = locs at X ⊢
  refine lv_aload_n hx hb dX12_product_64 rfl (lv_at hl 1 rfl) ?_
  refine lv_dup hx hb dX12_product_65 rfl ?_
  refine va_get (D := D.1) (ci := 12) (v := .int (gI q_4 20)) (C := RX12) (T := TX12) (N := 114) hx hb hts wi_X12 hown X.1 X.2.1 0 rfl rfl 20 (by decide) (hts _ q6_214) (fun _ h9 => h9) (fl_get (by decide)) dX12_product_66 ?_
  refine lv_iconst (v := (1 : Int32)) hx hb dX12_product_69 (by decide) ?_
  refine lv_iadd hx hb dX12_product_70 ?_
  refine va_put (D := D.1) (ci := 12) (v := .int ((gI q_4 20) + (1 : Int32))) (ty := .int) (C := RX12) (T := TX12) (N := 114) hx hb hts wi_X12 tyX12 tyX12_ok nmX12 hown X.1 X.2.1 X.2.2.1 X.2.2.2.1 0 rfl rfl 20 (by decide) (hts _ q6_214) (fun _ h9 => h9) rfl (by decide +kernel) rfl rfl (by rw [List.length_map, List.length_range]; decide) dX12_product_71 (fun H locs hP hD hS => ?_)
  have X : Hx D (tX12 yT) A s H locs (wX12 hT aT yT (sI q_4 20 ((gI q_4 20) + (1 : Int32)))) := Hx_set X (wG_sI (k := 20) rfl) hP hD hS
  refine lv_aload_n hx hb dX12_product_74 rfl (lv_at hl 1 rfl) ?_
  obtain ⟨q_6, hc_7, hF⟩ := bnd_some hF
  refine cV_i (As := []) (rest := []) C X (IR.2.2.1 (sI q_4 20 ((gI q_4 20) + (1 : Int32))) q_6 hc_7 _) (cwV 0 hts (good_V q8_220 q8_222 q0_89 q1_9 q8_223) rfl rfl rfl (by decide +kernel) ⟨rgf, rgl (by decide)⟩) (va_recv X.1 X.2.1 (ci := 12) (q0 := 0) rfl rfl) X.1 X.2.1 X.2.2.1 (free_all X) hl.1 rfl rfl (Nat.le_of_ble_eq_true rfl) dX12_product_75 ⟨Nat.le_of_ble_eq_true rfl, Nat.le_of_ble_eq_true rfl⟩ (fun t H1 locs1 ht hB hk hS => ?_)
  have X : Hx D (tX12 yT) A s H1 locs1 (wX12 hT aT yT q_6.2) := Hx_after_all X ht hB hS
  clear hk hS ht hB
  generalize H1 = H at X ⊢
  generalize locs1 = locs at X ⊢
  refine lv_if_ne (tgt := 83) hx hb dX12_product_78 (by decide) (fun c => ?_) (fun c => ?_)
  · replace hF := iF c hF
    refine lv_aload_n hx hb dX12_product_83 rfl (lv_at hl 1 rfl) ?_
    refine lv_bipush (v := (12 : Int32)) hx hb dX12_product_84 (by decide) ?_
    refine lv_aload_n hx hb dX12_product_86 rfl (lv_at hl 1 rfl) ?_
    refine va_get (D := D.1) (ci := 12) (v := .ref (aT 9)) (C := RX12) (T := TX12) (N := 114) hx hb hts wi_X12 hown X.1 X.2.1 0 rfl rfl 9 (by decide) (hts _ q6_203) (fun _ h9 => h9) (fl_get (by decide)) dX12_product_87 ?_
    refine lv_iload_n hx hb dX12_product_90 rfl (lv_at hl 0 rfl) ?_
    obtain ⟨h_8, hF⟩ := grd_some hF
    refine va_iald (D := D.1) (f := gIA q_6.2 9) hx hb X.1 X.2.1 4 3 rfl rfl (inB_ok h_8) dX12_product_91 ?_
    refine lv_aload_n hx hb dX12_product_92 rfl (lv_at hl 1 rfl) ?_
    refine va_get (D := D.1) (ci := 12) (v := .ref (aT 10)) (C := RX12) (T := TX12) (N := 114) hx hb hts wi_X12 hown X.1 X.2.1 0 rfl rfl 10 (by decide) (hts _ q6_204) (fun _ h9 => h9) (fl_get (by decide)) dX12_product_93 ?_
    refine lv_iload_n hx hb dX12_product_96 rfl (lv_at hl 0 rfl) ?_
    obtain ⟨h_9, hF⟩ := grd_some hF
    refine va_iald (D := D.1) (f := gIA q_6.2 10) hx hb X.1 X.2.1 5 4 rfl rfl (inB_ok h_9) dX12_product_97 ?_
    obtain ⟨q_10, hc_11, hF⟩ := bnd_some hF
    refine cV_i (As := [.int (12 : Int32), .int (gIA q_6.2 9 (gI gT 20).toNatClampNeg), .int (gIA q_6.2 10 (gI gT 20).toNatClampNeg)]) (rest := []) C X (c_X12_act l D hT aT yT q_6.2 (12 : Int32) (gIA q_6.2 9 (gI gT 20).toNatClampNeg) (gIA q_6.2 10 (gI gT 20).toNatClampNeg) q_10 hc_11 _) (cwV 3 hts (good_V q8_236 q8_238 q0_93 q1_9 q8_239) rfl rfl rfl (by decide +kernel) ⟨rmf (by decide), rml (by decide)⟩) (va_recv X.1 X.2.1 (ci := 12) (q0 := 0) rfl rfl) X.1 X.2.1 X.2.2.1 (free_all X) hl.1 rfl rfl (Nat.le_of_ble_eq_true rfl) dX12_product_98 ⟨Nat.le_of_ble_eq_true rfl, Nat.le_of_ble_eq_true rfl⟩ (fun t H1 locs1 ht hB hk hS => ?_)
    have X : Hx D (tX12 yT) A s H1 locs1 (wX12 hT aT yT q_10.2) := Hx_after_all X ht hB hS
    clear hk hS ht hB
    generalize H1 = H at X ⊢
    generalize locs1 = locs at X ⊢
    refine lv_pop hx hb dX12_product_101 rfl ?_
    refine lv_goto (tgt := 9) hx hb dX12_product_102 (by decide) ?_
    exact IH C X (lv_sub hl [1] rfl) hF
  · replace hF := iT c hF
    refine lv_iconst (v := (0 : Int32)) hx hb dX12_product_81 (by decide) ?_
    have hq := Option.some.inj hF
    subst hq
    exact rt_z (v := (0 : Int32)) C X (by decide) dX12_product_82
set_option maxHeartbeats 4000000 in
set_option maxRecDepth 100000 in
theorem k_X12_product_9 (l : Launch) (D : Dx) (hT : Nat) (aT : Nat → Nat) (yT : Nat → ClassId) (n : Nat) (rc : RCT) (d : Nat) (IR : SRC l D hT aT yT d rc) (rec : (Gs → Option (Int32 × Gs))) (IH : SH_X12_product l D hT aT yT d rec) : S_X12_product_9 l D hT aT yT d (h_X12_product_9 n rc rec) := by
  intro p e s m args below meth c H locs A ls gT q C X hl hF
  obtain ⟨hx, hb, hr, hml, hown, hts, hlk⟩ := id C
  unfold h_X12_product_9 at hF
  refine lv_aload_n hx hb dX12_product_9 rfl (lv_at hl 0 rfl) ?_
  refine va_get (D := D.1) (ci := 12) (v := .ref (aT 9)) (C := RX12) (T := TX12) (N := 114) hx hb hts wi_X12 hown X.1 X.2.1 0 rfl rfl 9 (by decide) (hts _ q6_203) (fun _ h9 => h9) (fl_get (by decide)) dX12_product_10 ?_
  refine lv_aload_n hx hb dX12_product_13 rfl (lv_at hl 0 rfl) ?_
  refine va_get (D := D.1) (ci := 12) (v := .int (gI gT 20)) (C := RX12) (T := TX12) (N := 114) hx hb hts wi_X12 hown X.1 X.2.1 0 rfl rfl 20 (by decide) (hts _ q6_214) (fun _ h9 => h9) (fl_get (by decide)) dX12_product_14 ?_
  obtain ⟨h_3, hF⟩ := grd_some hF
  refine va_iald (D := D.1) (f := gIA gT 9) hx hb X.1 X.2.1 4 3 rfl rfl (inB_ok h_3) dX12_product_17 ?_
  refine lv_bipush (v := (42 : Int32)) hx hb dX12_product_18 (by decide) ?_
  refine lv_icmp_eq (tgt := 51) hx hb dX12_product_20 (by decide) (fun c => ?_) (fun c => ?_)
  · replace hF := iT c hF
    exact (k_X12_product_51 l D hT aT yT n rc d IR rec IH) C X (lv_sub hl [0] rfl) hF
  · replace hF := iF c hF
    refine lv_aload_n hx hb dX12_product_23 rfl (lv_at hl 0 rfl) ?_
    refine va_get (D := D.1) (ci := 12) (v := .ref (aT 9)) (C := RX12) (T := TX12) (N := 114) hx hb hts wi_X12 hown X.1 X.2.1 0 rfl rfl 9 (by decide) (hts _ q6_203) (fun _ h9 => h9) (fl_get (by decide)) dX12_product_24 ?_
    refine lv_aload_n hx hb dX12_product_27 rfl (lv_at hl 0 rfl) ?_
    refine va_get (D := D.1) (ci := 12) (v := .int (gI gT 20)) (C := RX12) (T := TX12) (N := 114) hx hb hts wi_X12 hown X.1 X.2.1 0 rfl rfl 20 (by decide) (hts _ q6_214) (fun _ h9 => h9) (fl_get (by decide)) dX12_product_28 ?_
    obtain ⟨h_12, hF⟩ := grd_some hF
    refine va_iald (D := D.1) (f := gIA gT 9) hx hb X.1 X.2.1 4 3 rfl rfl (inB_ok h_12) dX12_product_31 ?_
    refine lv_bipush (v := (47 : Int32)) hx hb dX12_product_32 (by decide) ?_
    refine lv_icmp_eq (tgt := 51) hx hb dX12_product_34 (by decide) (fun c => ?_) (fun c => ?_)
    · replace hF := iT c hF
      exact (k_X12_product_51 l D hT aT yT n rc d IR rec IH) C X (lv_sub hl [0] rfl) hF
    · replace hF := iF c hF
      refine lv_aload_n hx hb dX12_product_37 rfl (lv_at hl 0 rfl) ?_
      refine va_get (D := D.1) (ci := 12) (v := .ref (aT 9)) (C := RX12) (T := TX12) (N := 114) hx hb hts wi_X12 hown X.1 X.2.1 0 rfl rfl 9 (by decide) (hts _ q6_203) (fun _ h9 => h9) (fl_get (by decide)) dX12_product_38 ?_
      refine lv_aload_n hx hb dX12_product_41 rfl (lv_at hl 0 rfl) ?_
      refine va_get (D := D.1) (ci := 12) (v := .int (gI gT 20)) (C := RX12) (T := TX12) (N := 114) hx hb hts wi_X12 hown X.1 X.2.1 0 rfl rfl 20 (by decide) (hts _ q6_214) (fun _ h9 => h9) (fl_get (by decide)) dX12_product_42 ?_
      obtain ⟨h_13, hF⟩ := grd_some hF
      refine va_iald (D := D.1) (f := gIA gT 9) hx hb X.1 X.2.1 4 3 rfl rfl (inB_ok h_13) dX12_product_45 ?_
      refine lv_bipush (v := (37 : Int32)) hx hb dX12_product_46 (by decide) ?_
      refine lv_icmp_ne (tgt := 105) hx hb dX12_product_48 (by decide) (fun c => ?_) (fun c => ?_)
      · replace hF := iF c hF
        refine lv_iconst (v := (1 : Int32)) hx hb dX12_product_105 (by decide) ?_
        have hq := Option.some.inj hF
        subst hq
        exact rt_z (v := (1 : Int32)) C X (by decide) dX12_product_106
      · replace hF := iT c hF
        exact (k_X12_product_51 l D hT aT yT n rc d IR rec IH) C X (lv_sub hl [0] rfl) hF
theorem kL_X12_product (l : Launch) (D : Dx) (hT : Nat) (aT : Nat → Nat) (yT : Nat → ClassId) (n : Nat) (rc : RCT) (d : Nat) (IR : SRC l D hT aT yT d rc) : ∀ k, SH_X12_product l D hT aT yT d (L_X12_product n rc k)
  | 0 => fun _ _ _ h => by cases h
  | k + 1 => k_X12_product_9 l D hT aT yT n rc d IR _ (kL_X12_product l D hT aT yT n rc d IR k)
set_option maxHeartbeats 4000000 in
set_option maxRecDepth 100000 in
theorem c_X12_product (l : Launch) (D : Dx) (hT : Nat) (aT : Nat → Nat) (yT : Nat → ClassId) (n : Nat) (rc : RCT) (d : Nat) (IR : SRC l D hT aT yT d rc) (gT : Gs) (q : Int32 × Gs) (hF : f_X12_product n rc gT = some q) (sz : Nat) : Met l yX12_product (ws_ yX12_product cX12_product 2 (some .boolean)) (RMd (d + 1)) (PC D (tX12 yT) [.ref hT] (wX12 hT aT yT gT) sz) (QI D (va_A (wX12 hT aT yT gT) sz) (wX12 hT aT yT q.2) q.1) 0 0 (va_A (wX12 hT aT yT gT) sz) := by
  refine Met.ofW (cc := cX12_product) (maxL := 2) (ret := (some .boolean)) (by decide) rfl ?_
  intro p e s m args below meth c s₁ B hml hv
  obtain ⟨rfl, hsz, hP, hK, hD, hN⟩ := hv
  subst hsz
  have C : Cx p s m _ meth c cX12_product (some .boolean) 2 RX12 lw_all := Cx_of B hml
  have X := Hx_start hP hK hD hN
  obtain ⟨hx, hb, hr, -, hown, hts, hlk⟩ := id C
  generalize va_A (wX12 hT aT yT gT) s.heap.size = A at X ⊢
  have hl := lv_entry ([.ref hT]) (n := 2) (Nat.le_of_ble_eq_true rfl)
  rw [lg_entry_eq]
  generalize (lg_sl ([.ref hT]) ++ List.replicate (2 - (lg_sl ([.ref hT])).length) Slot.unset).toArray = ls at hl ⊢
  have hl : lv_has ls 2 [(0, .ref hT)] := hl
  unfold f_X12_product at hF
  refine lv_aload_n hx hb dX12_product_0 rfl (lv_at hl 0 rfl) ?_
  obtain ⟨q_1, hc_2, hF⟩ := bnd_some hF
  refine cV_i (As := []) (rest := []) C X (IR.2.2.1 gT q_1 hc_2 _) (cwV 0 hts (good_V q8_220 q8_222 q0_89 q1_9 q8_223) rfl rfl rfl (by decide +kernel) ⟨rgf, rgl (by decide)⟩) (va_recv X.1 X.2.1 (ci := 12) (q0 := 0) rfl rfl) X.1 X.2.1 X.2.2.1 (free_all X) hl.1 rfl rfl (Nat.le_of_ble_eq_true rfl) dX12_product_1 ⟨Nat.le_of_ble_eq_true rfl, Nat.le_of_ble_eq_true rfl⟩ (fun t H1 locs1 ht hB hk hS => ?_)
  have X : Hx D (tX12 yT) A s H1 locs1 (wX12 hT aT yT q_1.2) := Hx_after_all X ht hB hS
  clear hk hS ht hB
  generalize H1 = H at X ⊢
  generalize locs1 = locs at X ⊢
  refine lv_if_ne (tgt := 9) hx hb dX12_product_4 (by decide) (fun c => ?_) (fun c => ?_)
  · replace hF := iF c hF
    exact (kL_X12_product l D hT aT yT n rc d IR n) C X (lv_sub hl [0] rfl) hF
  · replace hF := iT c hF
    refine lv_iconst (v := (0 : Int32)) hx hb dX12_product_7 (by decide) ?_
    have hq := Option.some.inj hF
    subst hq
    exact rt_z (v := (0 : Int32)) C X (by decide) dX12_product_8

/-! ### X12_sum -/
theorem dX12_sum_0 : decode cX12_sum 0 = .ok (.aload_n 0, 1) := by decide +kernel
theorem dX12_sum_1 : decode cX12_sum 1 = .ok (.invokevirtual 576, 3) := by decide +kernel
theorem dX12_sum_4 : decode cX12_sum 4 = .ok (.ifCond .ne 5, 3) := by decide +kernel
theorem dX12_sum_7 : decode cX12_sum 7 = .ok (.iconst 0, 1) := by decide +kernel
theorem dX12_sum_8 : decode cX12_sum 8 = .ok (.ireturn, 1) := by decide +kernel
theorem dX12_sum_9 : decode cX12_sum 9 = .ok (.aload_n 0, 1) := by decide +kernel
theorem dX12_sum_10 : decode cX12_sum 10 = .ok (.getfield 82, 3) := by decide +kernel
theorem dX12_sum_13 : decode cX12_sum 13 = .ok (.aload_n 0, 1) := by decide +kernel
theorem dX12_sum_14 : decode cX12_sum 14 = .ok (.getfield 116, 3) := by decide +kernel
theorem dX12_sum_17 : decode cX12_sum 17 = .ok (.iaload, 1) := by decide +kernel
theorem dX12_sum_18 : decode cX12_sum 18 = .ok (.bipush 43, 2) := by decide +kernel
theorem dX12_sum_20 : decode cX12_sum 20 = .ok (.if_icmp .eq 17, 3) := by decide +kernel
theorem dX12_sum_23 : decode cX12_sum 23 = .ok (.aload_n 0, 1) := by decide +kernel
theorem dX12_sum_24 : decode cX12_sum 24 = .ok (.getfield 82, 3) := by decide +kernel
theorem dX12_sum_27 : decode cX12_sum 27 = .ok (.aload_n 0, 1) := by decide +kernel
theorem dX12_sum_28 : decode cX12_sum 28 = .ok (.getfield 116, 3) := by decide +kernel
theorem dX12_sum_31 : decode cX12_sum 31 = .ok (.iaload, 1) := by decide +kernel
theorem dX12_sum_32 : decode cX12_sum 32 = .ok (.bipush 45, 2) := by decide +kernel
theorem dX12_sum_34 : decode cX12_sum 34 = .ok (.if_icmp .ne 57, 3) := by decide +kernel
theorem dX12_sum_37 : decode cX12_sum 37 = .ok (.aload_n 0, 1) := by decide +kernel
theorem dX12_sum_38 : decode cX12_sum 38 = .ok (.getfield 116, 3) := by decide +kernel
theorem dX12_sum_41 : decode cX12_sum 41 = .ok (.istore_n 1, 1) := by decide +kernel
theorem dX12_sum_42 : decode cX12_sum 42 = .ok (.aload_n 0, 1) := by decide +kernel
theorem dX12_sum_43 : decode cX12_sum 43 = .ok (.aload_n 0, 1) := by decide +kernel
theorem dX12_sum_44 : decode cX12_sum 44 = .ok (.getfield 116, 3) := by decide +kernel
theorem dX12_sum_47 : decode cX12_sum 47 = .ok (.invokevirtual 554, 3) := by decide +kernel
theorem dX12_sum_50 : decode cX12_sum 50 = .ok (.aload_n 0, 1) := by decide +kernel
theorem dX12_sum_51 : decode cX12_sum 51 = .ok (.dup, 1) := by decide +kernel
theorem dX12_sum_52 : decode cX12_sum 52 = .ok (.getfield 116, 3) := by decide +kernel
theorem dX12_sum_55 : decode cX12_sum 55 = .ok (.iconst 1, 1) := by decide +kernel
theorem dX12_sum_56 : decode cX12_sum 56 = .ok (.iadd, 1) := by decide +kernel
theorem dX12_sum_57 : decode cX12_sum 57 = .ok (.putfield 116, 3) := by decide +kernel
theorem dX12_sum_60 : decode cX12_sum 60 = .ok (.aload_n 0, 1) := by decide +kernel
theorem dX12_sum_61 : decode cX12_sum 61 = .ok (.invokevirtual 576, 3) := by decide +kernel
theorem dX12_sum_64 : decode cX12_sum 64 = .ok (.ifCond .ne 5, 3) := by decide +kernel
theorem dX12_sum_67 : decode cX12_sum 67 = .ok (.iconst 0, 1) := by decide +kernel
theorem dX12_sum_68 : decode cX12_sum 68 = .ok (.ireturn, 1) := by decide +kernel
theorem dX12_sum_69 : decode cX12_sum 69 = .ok (.aload_n 0, 1) := by decide +kernel
theorem dX12_sum_70 : decode cX12_sum 70 = .ok (.bipush 12, 2) := by decide +kernel
theorem dX12_sum_72 : decode cX12_sum 72 = .ok (.aload_n 0, 1) := by decide +kernel
theorem dX12_sum_73 : decode cX12_sum 73 = .ok (.getfield 82, 3) := by decide +kernel
theorem dX12_sum_76 : decode cX12_sum 76 = .ok (.iload_n 1, 1) := by decide +kernel
theorem dX12_sum_77 : decode cX12_sum 77 = .ok (.iaload, 1) := by decide +kernel
theorem dX12_sum_78 : decode cX12_sum 78 = .ok (.aload_n 0, 1) := by decide +kernel
theorem dX12_sum_79 : decode cX12_sum 79 = .ok (.getfield 86, 3) := by decide +kernel
theorem dX12_sum_82 : decode cX12_sum 82 = .ok (.iload_n 1, 1) := by decide +kernel
theorem dX12_sum_83 : decode cX12_sum 83 = .ok (.iaload, 1) := by decide +kernel
theorem dX12_sum_84 : decode cX12_sum 84 = .ok (.invokevirtual 557, 3) := by decide +kernel
theorem dX12_sum_87 : decode cX12_sum 87 = .ok (.pop, 1) := by decide +kernel
theorem dX12_sum_88 : decode cX12_sum 88 = .ok (.goto (-79), 3) := by decide +kernel
theorem dX12_sum_91 : decode cX12_sum 91 = .ok (.iconst 1, 1) := by decide +kernel
theorem dX12_sum_92 : decode cX12_sum 92 = .ok (.ireturn, 1) := by decide +kernel
def b_X12_sum_37 (n : Nat) (rc : RCT) (rec : (Gs → Option (Int32 × Gs))) (gT : Gs) : Option (Int32 × Gs) :=
  bnd (f_X12_node gT (gI gT 20)) (fun q_4 => bnd (rc.2.2.2.1 (sI q_4 20 ((gI q_4 20) + (1 : Int32)))) (fun q_6 => if q_6.1 = 0 then (some ((0 : Int32), q_6.2)) else (grd (inB (gI gT 20) 3001) (grd (inB (gI gT 20) 3001) (bnd (f_X12_act q_6.2 (12 : Int32) (gIA q_6.2 9 (gI gT 20).toNatClampNeg) (gIA q_6.2 10 (gI gT 20).toNatClampNeg)) (fun q_10 => rec q_10.2))))))
def h_X12_sum_9 (n : Nat) (rc : RCT) (rec : (Gs → Option (Int32 × Gs))) (gT : Gs) : Option (Int32 × Gs) :=
  grd (inB (gI gT 20) 3001) (if (gIA gT 9 (gI gT 20).toNatClampNeg) = (43 : Int32) then (b_X12_sum_37 n rc rec gT) else (grd (inB (gI gT 20) 3001) (if (gIA gT 9 (gI gT 20).toNatClampNeg) = (45 : Int32) then (b_X12_sum_37 n rc rec gT) else (some ((1 : Int32), gT)))))
def L_X12_sum (n : Nat) (rc : RCT) : Nat → (Gs → Option (Int32 × Gs))
  | 0 => ((fun _ => none))
  | k + 1 => (h_X12_sum_9 n rc (L_X12_sum n rc k))
def f_X12_sum (n : Nat) (rc : RCT) (gT : Gs) : Option (Int32 × Gs) :=
  bnd (rc.2.2.2.1 gT) (fun q_1 => if q_1.1 = 0 then (some ((0 : Int32), q_1.2)) else ((L_X12_sum n rc n) q_1.2))
def S_X12_sum_37 (l : Launch) (D : Dx) (hT : Nat) (aT : Nat → Nat) (yT : Nat → ClassId) (d : Nat) (fn : Gs → Option (Int32 × Gs)) : Prop :=
  ∀ {p : Program} {e : Env} {s : State} {m : MethodId} {args : Array Value} {below : List Frame} {meth : Method} {c : Code} {H : Heap} {locs : List Loc} {A : Nat → Prop} {ls : Array Slot} {gT : Gs} {q : Int32 × Gs}, Cx p s m args meth c cX12_sum (some .boolean) 2 RX12 lw_all → Hx D (tX12 yT) A s H locs (wX12 hT aT yT gT) → lv_has ls 2 [(0, .ref hT)] → fn gT = some q → W p l e (RMd (d + 1)) s m args below meth c H locs 0 0 (MQ below (QI D A (wX12 hT aT yT q.2) q.1) args s 0 0 A) (F0 m 37 ls [])
def S_X12_sum_9 (l : Launch) (D : Dx) (hT : Nat) (aT : Nat → Nat) (yT : Nat → ClassId) (d : Nat) (fn : Gs → Option (Int32 × Gs)) : Prop :=
  ∀ {p : Program} {e : Env} {s : State} {m : MethodId} {args : Array Value} {below : List Frame} {meth : Method} {c : Code} {H : Heap} {locs : List Loc} {A : Nat → Prop} {ls : Array Slot} {gT : Gs} {q : Int32 × Gs}, Cx p s m args meth c cX12_sum (some .boolean) 2 RX12 lw_all → Hx D (tX12 yT) A s H locs (wX12 hT aT yT gT) → lv_has ls 2 [(0, .ref hT)] → fn gT = some q → W p l e (RMd (d + 1)) s m args below meth c H locs 0 0 (MQ below (QI D A (wX12 hT aT yT q.2) q.1) args s 0 0 A) (F0 m 9 ls [])
def SH_X12_sum (l : Launch) (D : Dx) (hT : Nat) (aT : Nat → Nat) (yT : Nat → ClassId) (d : Nat) (rec : (Gs → Option (Int32 × Gs))) : Prop := S_X12_sum_9 l D hT aT yT d rec
set_option maxHeartbeats 4000000 in
set_option maxRecDepth 100000 in
theorem k_X12_sum_37 (l : Launch) (D : Dx) (hT : Nat) (aT : Nat → Nat) (yT : Nat → ClassId) (n : Nat) (rc : RCT) (d : Nat) (IR : SRC l D hT aT yT d rc) (rec : (Gs → Option (Int32 × Gs))) (IH : SH_X12_sum l D hT aT yT d rec) : S_X12_sum_37 l D hT aT yT d (b_X12_sum_37 n rc rec) := by
  intro p e s m args below meth c H locs A ls gT q C X hl hF
  obtain ⟨hx, hb, hr, hml, hown, hts, hlk⟩ := id C
  unfold b_X12_sum_37 at hF
  refine lv_aload_n hx hb dX12_sum_37 rfl (lv_at hl 0 rfl) ?_
  refine va_get (D := D.1) (ci := 12) (v := .int (gI gT 20)) (C := RX12) (T := TX12) (N := 114) hx hb hts wi_X12 hown X.1 X.2.1 0 rfl rfl 20 (by decide) (hts _ q6_214) (fun _ h9 => h9) (fl_get (by decide)) dX12_sum_38 ?_
  refine lv_istore_n (lv' := [(1, .int (gI gT 20)), (0, .ref hT)]) hx hb dX12_sum_41 rfl hl (by decide) rfl (fun ls hl => ?_)
  refine lv_aload_n hx hb dX12_sum_42 rfl (lv_at hl 1 rfl) ?_
  refine lv_aload_n hx hb dX12_sum_43 rfl (lv_at hl 1 rfl) ?_
  refine va_get (D := D.1) (ci := 12) (v := .int (gI gT 20)) (C := RX12) (T := TX12) (N := 114) hx hb hts wi_X12 hown X.1 X.2.1 0 rfl rfl 20 (by decide) (hts _ q6_214) (fun _ h9 => h9) (fl_get (by decide)) dX12_sum_44 ?_
  obtain ⟨q_4, hc_5, hF⟩ := bnd_some hF
  refine cV_v (As := [.int (gI gT 20)]) (rest := []) C X (c_X12_node l D hT aT yT gT (gI gT 20) q_4 hc_5 _) (cwV 1 hts (good_V q8_232 q8_234 q0_92 q1_9 q8_235) rfl rfl rfl (by decide +kernel) ⟨rmf (by decide), rml (by decide)⟩) (va_recv X.1 X.2.1 (ci := 12) (q0 := 0) rfl rfl) X.1 X.2.1 X.2.2.1 (free_all X) hl.1 rfl rfl (Nat.le_of_ble_eq_true rfl) dX12_sum_47 ⟨Nat.le_of_ble_eq_true rfl, Nat.le_of_ble_eq_true rfl⟩ (fun t H1 locs1 ht hB hk hS => ?_)
  have X : Hx D (tX12 yT) A s H1 locs1 (wX12 hT aT yT q_4) := Hx_after_all X ht hB hS
  clear hk hS ht hB
  generalize H1 = H at X ⊢
  generalize locs1 = locs at X ⊢
  refine lv_aload_n hx hb dX12_sum_50 rfl (lv_at hl 1 rfl) ?_
  refine lv_dup hx hb dX12_sum_51 rfl ?_
  refine va_get (D := D.1) (ci := 12) (v := .int (gI q_4 20)) (C := RX12) (T := TX12) (N := 114) hx hb hts wi_X12 hown X.1 X.2.1 0 rfl rfl 20 (by decide) (hts _ q6_214) (fun _ h9 => h9) (fl_get (by decide)) dX12_sum_52 ?_
  refine lv_iconst (v := (1 : Int32)) hx hb dX12_sum_55 (by decide) ?_
  refine lv_iadd hx hb dX12_sum_56 ?_
  refine va_put (D := D.1) (ci := 12) (v := .int ((gI q_4 20) + (1 : Int32))) (ty := .int) (C := RX12) (T := TX12) (N := 114) hx hb hts wi_X12 tyX12 tyX12_ok nmX12 hown X.1 X.2.1 X.2.2.1 X.2.2.2.1 0 rfl rfl 20 (by decide) (hts _ q6_214) (fun _ h9 => h9) rfl (by decide +kernel) rfl rfl (by rw [List.length_map, List.length_range]; decide) dX12_sum_57 (fun H locs hP hD hS => ?_)
  have X : Hx D (tX12 yT) A s H locs (wX12 hT aT yT (sI q_4 20 ((gI q_4 20) + (1 : Int32)))) := Hx_set X (wG_sI (k := 20) rfl) hP hD hS
  refine lv_aload_n hx hb dX12_sum_60 rfl (lv_at hl 1 rfl) ?_
  obtain ⟨q_6, hc_7, hF⟩ := bnd_some hF
  refine cV_i (As := []) (rest := []) C X (IR.2.2.2.1 (sI q_4 20 ((gI q_4 20) + (1 : Int32))) q_6 hc_7 _) (cwV 0 hts (good_V q8_216 q8_218 q0_88 q1_9 q8_219) rfl rfl rfl (by decide +kernel) ⟨rgf, rgl (by decide)⟩) (va_recv X.1 X.2.1 (ci := 12) (q0 := 0) rfl rfl) X.1 X.2.1 X.2.2.1 (free_all X) hl.1 rfl rfl (Nat.le_of_ble_eq_true rfl) dX12_sum_61 ⟨Nat.le_of_ble_eq_true rfl, Nat.le_of_ble_eq_true rfl⟩ (fun t H1 locs1 ht hB hk hS => ?_)
  have X : Hx D (tX12 yT) A s H1 locs1 (wX12 hT aT yT q_6.2) := Hx_after_all X ht hB hS
  clear hk hS ht hB
  generalize H1 = H at X ⊢
  generalize locs1 = locs at X ⊢
  refine lv_if_ne (tgt := 69) hx hb dX12_sum_64 (by decide) (fun c => ?_) (fun c => ?_)
  · replace hF := iF c hF
    refine lv_aload_n hx hb dX12_sum_69 rfl (lv_at hl 1 rfl) ?_
    refine lv_bipush (v := (12 : Int32)) hx hb dX12_sum_70 (by decide) ?_
    refine lv_aload_n hx hb dX12_sum_72 rfl (lv_at hl 1 rfl) ?_
    refine va_get (D := D.1) (ci := 12) (v := .ref (aT 9)) (C := RX12) (T := TX12) (N := 114) hx hb hts wi_X12 hown X.1 X.2.1 0 rfl rfl 9 (by decide) (hts _ q6_203) (fun _ h9 => h9) (fl_get (by decide)) dX12_sum_73 ?_
    refine lv_iload_n hx hb dX12_sum_76 rfl (lv_at hl 0 rfl) ?_
    obtain ⟨h_8, hF⟩ := grd_some hF
    refine va_iald (D := D.1) (f := gIA q_6.2 9) hx hb X.1 X.2.1 4 3 rfl rfl (inB_ok h_8) dX12_sum_77 ?_
    refine lv_aload_n hx hb dX12_sum_78 rfl (lv_at hl 1 rfl) ?_
    refine va_get (D := D.1) (ci := 12) (v := .ref (aT 10)) (C := RX12) (T := TX12) (N := 114) hx hb hts wi_X12 hown X.1 X.2.1 0 rfl rfl 10 (by decide) (hts _ q6_204) (fun _ h9 => h9) (fl_get (by decide)) dX12_sum_79 ?_
    refine lv_iload_n hx hb dX12_sum_82 rfl (lv_at hl 0 rfl) ?_
    obtain ⟨h_9, hF⟩ := grd_some hF
    refine va_iald (D := D.1) (f := gIA q_6.2 10) hx hb X.1 X.2.1 5 4 rfl rfl (inB_ok h_9) dX12_sum_83 ?_
    obtain ⟨q_10, hc_11, hF⟩ := bnd_some hF
    refine cV_i (As := [.int (12 : Int32), .int (gIA q_6.2 9 (gI gT 20).toNatClampNeg), .int (gIA q_6.2 10 (gI gT 20).toNatClampNeg)]) (rest := []) C X (c_X12_act l D hT aT yT q_6.2 (12 : Int32) (gIA q_6.2 9 (gI gT 20).toNatClampNeg) (gIA q_6.2 10 (gI gT 20).toNatClampNeg) q_10 hc_11 _) (cwV 3 hts (good_V q8_236 q8_238 q0_93 q1_9 q8_239) rfl rfl rfl (by decide +kernel) ⟨rmf (by decide), rml (by decide)⟩) (va_recv X.1 X.2.1 (ci := 12) (q0 := 0) rfl rfl) X.1 X.2.1 X.2.2.1 (free_all X) hl.1 rfl rfl (Nat.le_of_ble_eq_true rfl) dX12_sum_84 ⟨Nat.le_of_ble_eq_true rfl, Nat.le_of_ble_eq_true rfl⟩ (fun t H1 locs1 ht hB hk hS => ?_)
    have X : Hx D (tX12 yT) A s H1 locs1 (wX12 hT aT yT q_10.2) := Hx_after_all X ht hB hS
    clear hk hS ht hB
    generalize H1 = H at X ⊢
    generalize locs1 = locs at X ⊢
    refine lv_pop hx hb dX12_sum_87 rfl ?_
    refine lv_goto (tgt := 9) hx hb dX12_sum_88 (by decide) ?_
    exact IH C X (lv_sub hl [1] rfl) hF
  · replace hF := iT c hF
    refine lv_iconst (v := (0 : Int32)) hx hb dX12_sum_67 (by decide) ?_
    have hq := Option.some.inj hF
    subst hq
    exact rt_z (v := (0 : Int32)) C X (by decide) dX12_sum_68
set_option maxHeartbeats 4000000 in
set_option maxRecDepth 100000 in
theorem k_X12_sum_9 (l : Launch) (D : Dx) (hT : Nat) (aT : Nat → Nat) (yT : Nat → ClassId) (n : Nat) (rc : RCT) (d : Nat) (IR : SRC l D hT aT yT d rc) (rec : (Gs → Option (Int32 × Gs))) (IH : SH_X12_sum l D hT aT yT d rec) : S_X12_sum_9 l D hT aT yT d (h_X12_sum_9 n rc rec) := by
  intro p e s m args below meth c H locs A ls gT q C X hl hF
  obtain ⟨hx, hb, hr, hml, hown, hts, hlk⟩ := id C
  unfold h_X12_sum_9 at hF
  refine lv_aload_n hx hb dX12_sum_9 rfl (lv_at hl 0 rfl) ?_
  refine va_get (D := D.1) (ci := 12) (v := .ref (aT 9)) (C := RX12) (T := TX12) (N := 114) hx hb hts wi_X12 hown X.1 X.2.1 0 rfl rfl 9 (by decide) (hts _ q6_203) (fun _ h9 => h9) (fl_get (by decide)) dX12_sum_10 ?_
  refine lv_aload_n hx hb dX12_sum_13 rfl (lv_at hl 0 rfl) ?_
  refine va_get (D := D.1) (ci := 12) (v := .int (gI gT 20)) (C := RX12) (T := TX12) (N := 114) hx hb hts wi_X12 hown X.1 X.2.1 0 rfl rfl 20 (by decide) (hts _ q6_214) (fun _ h9 => h9) (fl_get (by decide)) dX12_sum_14 ?_
  obtain ⟨h_3, hF⟩ := grd_some hF
  refine va_iald (D := D.1) (f := gIA gT 9) hx hb X.1 X.2.1 4 3 rfl rfl (inB_ok h_3) dX12_sum_17 ?_
  refine lv_bipush (v := (43 : Int32)) hx hb dX12_sum_18 (by decide) ?_
  refine lv_icmp_eq (tgt := 37) hx hb dX12_sum_20 (by decide) (fun c => ?_) (fun c => ?_)
  · replace hF := iT c hF
    exact (k_X12_sum_37 l D hT aT yT n rc d IR rec IH) C X (lv_sub hl [0] rfl) hF
  · replace hF := iF c hF
    refine lv_aload_n hx hb dX12_sum_23 rfl (lv_at hl 0 rfl) ?_
    refine va_get (D := D.1) (ci := 12) (v := .ref (aT 9)) (C := RX12) (T := TX12) (N := 114) hx hb hts wi_X12 hown X.1 X.2.1 0 rfl rfl 9 (by decide) (hts _ q6_203) (fun _ h9 => h9) (fl_get (by decide)) dX12_sum_24 ?_
    refine lv_aload_n hx hb dX12_sum_27 rfl (lv_at hl 0 rfl) ?_
    refine va_get (D := D.1) (ci := 12) (v := .int (gI gT 20)) (C := RX12) (T := TX12) (N := 114) hx hb hts wi_X12 hown X.1 X.2.1 0 rfl rfl 20 (by decide) (hts _ q6_214) (fun _ h9 => h9) (fl_get (by decide)) dX12_sum_28 ?_
    obtain ⟨h_12, hF⟩ := grd_some hF
    refine va_iald (D := D.1) (f := gIA gT 9) hx hb X.1 X.2.1 4 3 rfl rfl (inB_ok h_12) dX12_sum_31 ?_
    refine lv_bipush (v := (45 : Int32)) hx hb dX12_sum_32 (by decide) ?_
    refine lv_icmp_ne (tgt := 91) hx hb dX12_sum_34 (by decide) (fun c => ?_) (fun c => ?_)
    · replace hF := iF c hF
      refine lv_iconst (v := (1 : Int32)) hx hb dX12_sum_91 (by decide) ?_
      have hq := Option.some.inj hF
      subst hq
      exact rt_z (v := (1 : Int32)) C X (by decide) dX12_sum_92
    · replace hF := iT c hF
      exact (k_X12_sum_37 l D hT aT yT n rc d IR rec IH) C X (lv_sub hl [0] rfl) hF
theorem kL_X12_sum (l : Launch) (D : Dx) (hT : Nat) (aT : Nat → Nat) (yT : Nat → ClassId) (n : Nat) (rc : RCT) (d : Nat) (IR : SRC l D hT aT yT d rc) : ∀ k, SH_X12_sum l D hT aT yT d (L_X12_sum n rc k)
  | 0 => fun _ _ _ h => by cases h
  | k + 1 => k_X12_sum_9 l D hT aT yT n rc d IR _ (kL_X12_sum l D hT aT yT n rc d IR k)
set_option maxHeartbeats 4000000 in
set_option maxRecDepth 100000 in
theorem c_X12_sum (l : Launch) (D : Dx) (hT : Nat) (aT : Nat → Nat) (yT : Nat → ClassId) (n : Nat) (rc : RCT) (d : Nat) (IR : SRC l D hT aT yT d rc) (gT : Gs) (q : Int32 × Gs) (hF : f_X12_sum n rc gT = some q) (sz : Nat) : Met l yX12_sum (ws_ yX12_sum cX12_sum 2 (some .boolean)) (RMd (d + 1)) (PC D (tX12 yT) [.ref hT] (wX12 hT aT yT gT) sz) (QI D (va_A (wX12 hT aT yT gT) sz) (wX12 hT aT yT q.2) q.1) 0 0 (va_A (wX12 hT aT yT gT) sz) := by
  refine Met.ofW (cc := cX12_sum) (maxL := 2) (ret := (some .boolean)) (by decide) rfl ?_
  intro p e s m args below meth c s₁ B hml hv
  obtain ⟨rfl, hsz, hP, hK, hD, hN⟩ := hv
  subst hsz
  have C : Cx p s m _ meth c cX12_sum (some .boolean) 2 RX12 lw_all := Cx_of B hml
  have X := Hx_start hP hK hD hN
  obtain ⟨hx, hb, hr, -, hown, hts, hlk⟩ := id C
  generalize va_A (wX12 hT aT yT gT) s.heap.size = A at X ⊢
  have hl := lv_entry ([.ref hT]) (n := 2) (Nat.le_of_ble_eq_true rfl)
  rw [lg_entry_eq]
  generalize (lg_sl ([.ref hT]) ++ List.replicate (2 - (lg_sl ([.ref hT])).length) Slot.unset).toArray = ls at hl ⊢
  have hl : lv_has ls 2 [(0, .ref hT)] := hl
  unfold f_X12_sum at hF
  refine lv_aload_n hx hb dX12_sum_0 rfl (lv_at hl 0 rfl) ?_
  obtain ⟨q_1, hc_2, hF⟩ := bnd_some hF
  refine cV_i (As := []) (rest := []) C X (IR.2.2.2.1 gT q_1 hc_2 _) (cwV 0 hts (good_V q8_216 q8_218 q0_88 q1_9 q8_219) rfl rfl rfl (by decide +kernel) ⟨rgf, rgl (by decide)⟩) (va_recv X.1 X.2.1 (ci := 12) (q0 := 0) rfl rfl) X.1 X.2.1 X.2.2.1 (free_all X) hl.1 rfl rfl (Nat.le_of_ble_eq_true rfl) dX12_sum_1 ⟨Nat.le_of_ble_eq_true rfl, Nat.le_of_ble_eq_true rfl⟩ (fun t H1 locs1 ht hB hk hS => ?_)
  have X : Hx D (tX12 yT) A s H1 locs1 (wX12 hT aT yT q_1.2) := Hx_after_all X ht hB hS
  clear hk hS ht hB
  generalize H1 = H at X ⊢
  generalize locs1 = locs at X ⊢
  refine lv_if_ne (tgt := 9) hx hb dX12_sum_4 (by decide) (fun c => ?_) (fun c => ?_)
  · replace hF := iF c hF
    exact (kL_X12_sum l D hT aT yT n rc d IR n) C X (lv_sub hl [0] rfl) hF
  · replace hF := iT c hF
    refine lv_iconst (v := (0 : Int32)) hx hb dX12_sum_7 (by decide) ?_
    have hq := Option.some.inj hF
    subst hq
    exact rt_z (v := (0 : Int32)) C X (by decide) dX12_sum_8

/-! ### X12_compares -/
theorem dX12_compares_0 : decode cX12_compares 0 = .ok (.aload_n 0, 1) := by decide +kernel
theorem dX12_compares_1 : decode cX12_compares 1 = .ok (.invokevirtual 573, 3) := by decide +kernel
theorem dX12_compares_4 : decode cX12_compares 4 = .ok (.ifCond .ne 5, 3) := by decide +kernel
theorem dX12_compares_7 : decode cX12_compares 7 = .ok (.iconst 0, 1) := by decide +kernel
theorem dX12_compares_8 : decode cX12_compares 8 = .ok (.ireturn, 1) := by decide +kernel
theorem dX12_compares_9 : decode cX12_compares 9 = .ok (.aload_n 0, 1) := by decide +kernel
theorem dX12_compares_10 : decode cX12_compares 10 = .ok (.getfield 82, 3) := by decide +kernel
theorem dX12_compares_13 : decode cX12_compares 13 = .ok (.aload_n 0, 1) := by decide +kernel
theorem dX12_compares_14 : decode cX12_compares 14 = .ok (.getfield 116, 3) := by decide +kernel
theorem dX12_compares_17 : decode cX12_compares 17 = .ok (.iaload, 1) := by decide +kernel
theorem dX12_compares_18 : decode cX12_compares 18 = .ok (.istore_n 1, 1) := by decide +kernel
theorem dX12_compares_19 : decode cX12_compares 19 = .ok (.iload_n 1, 1) := by decide +kernel
theorem dX12_compares_20 : decode cX12_compares 20 = .ok (.bipush 60, 2) := by decide +kernel
theorem dX12_compares_22 : decode cX12_compares 22 = .ok (.if_icmp .eq 25, 3) := by decide +kernel
theorem dX12_compares_25 : decode cX12_compares 25 = .ok (.iload_n 1, 1) := by decide +kernel
theorem dX12_compares_26 : decode cX12_compares 26 = .ok (.bipush 62, 2) := by decide +kernel
theorem dX12_compares_28 : decode cX12_compares 28 = .ok (.if_icmp .eq 19, 3) := by decide +kernel
theorem dX12_compares_31 : decode cX12_compares 31 = .ok (.iload_n 1, 1) := by decide +kernel
theorem dX12_compares_32 : decode cX12_compares 32 = .ok (.sipush 188, 3) := by decide +kernel
theorem dX12_compares_35 : decode cX12_compares 35 = .ok (.if_icmp .eq 12, 3) := by decide +kernel
theorem dX12_compares_38 : decode cX12_compares 38 = .ok (.iload_n 1, 1) := by decide +kernel
theorem dX12_compares_39 : decode cX12_compares 39 = .ok (.sipush 190, 3) := by decide +kernel
theorem dX12_compares_42 : decode cX12_compares 42 = .ok (.if_icmp .eq 5, 3) := by decide +kernel
theorem dX12_compares_45 : decode cX12_compares 45 = .ok (.iconst 1, 1) := by decide +kernel
theorem dX12_compares_46 : decode cX12_compares 46 = .ok (.ireturn, 1) := by decide +kernel
theorem dX12_compares_47 : decode cX12_compares 47 = .ok (.aload_n 0, 1) := by decide +kernel
theorem dX12_compares_48 : decode cX12_compares 48 = .ok (.getfield 116, 3) := by decide +kernel
theorem dX12_compares_51 : decode cX12_compares 51 = .ok (.istore_n 2, 1) := by decide +kernel
theorem dX12_compares_52 : decode cX12_compares 52 = .ok (.aload_n 0, 1) := by decide +kernel
theorem dX12_compares_53 : decode cX12_compares 53 = .ok (.aload_n 0, 1) := by decide +kernel
theorem dX12_compares_54 : decode cX12_compares 54 = .ok (.getfield 116, 3) := by decide +kernel
theorem dX12_compares_57 : decode cX12_compares 57 = .ok (.invokevirtual 554, 3) := by decide +kernel
theorem dX12_compares_60 : decode cX12_compares 60 = .ok (.aload_n 0, 1) := by decide +kernel
theorem dX12_compares_61 : decode cX12_compares 61 = .ok (.dup, 1) := by decide +kernel
theorem dX12_compares_62 : decode cX12_compares 62 = .ok (.getfield 116, 3) := by decide +kernel
theorem dX12_compares_65 : decode cX12_compares 65 = .ok (.iconst 1, 1) := by decide +kernel
theorem dX12_compares_66 : decode cX12_compares 66 = .ok (.iadd, 1) := by decide +kernel
theorem dX12_compares_67 : decode cX12_compares 67 = .ok (.putfield 116, 3) := by decide +kernel
theorem dX12_compares_70 : decode cX12_compares 70 = .ok (.aload_n 0, 1) := by decide +kernel
theorem dX12_compares_71 : decode cX12_compares 71 = .ok (.invokevirtual 573, 3) := by decide +kernel
theorem dX12_compares_74 : decode cX12_compares 74 = .ok (.ifCond .ne 5, 3) := by decide +kernel
theorem dX12_compares_77 : decode cX12_compares 77 = .ok (.iconst 0, 1) := by decide +kernel
theorem dX12_compares_78 : decode cX12_compares 78 = .ok (.ireturn, 1) := by decide +kernel
theorem dX12_compares_79 : decode cX12_compares 79 = .ok (.aload_n 0, 1) := by decide +kernel
theorem dX12_compares_80 : decode cX12_compares 80 = .ok (.bipush 12, 2) := by decide +kernel
theorem dX12_compares_82 : decode cX12_compares 82 = .ok (.iload_n 1, 1) := by decide +kernel
theorem dX12_compares_83 : decode cX12_compares 83 = .ok (.aload_n 0, 1) := by decide +kernel
theorem dX12_compares_84 : decode cX12_compares 84 = .ok (.getfield 86, 3) := by decide +kernel
theorem dX12_compares_87 : decode cX12_compares 87 = .ok (.iload_n 2, 1) := by decide +kernel
theorem dX12_compares_88 : decode cX12_compares 88 = .ok (.iaload, 1) := by decide +kernel
theorem dX12_compares_89 : decode cX12_compares 89 = .ok (.invokevirtual 557, 3) := by decide +kernel
theorem dX12_compares_92 : decode cX12_compares 92 = .ok (.pop, 1) := by decide +kernel
theorem dX12_compares_93 : decode cX12_compares 93 = .ok (.iconst 1, 1) := by decide +kernel
theorem dX12_compares_94 : decode cX12_compares 94 = .ok (.ireturn, 1) := by decide +kernel
def b_X12_compares_47 (n : Nat) (rc : RCT) (gT : Gs) (v1 : Int32) : Option (Int32 × Gs) :=
  bnd (f_X12_node gT (gI gT 20)) (fun q_4 => bnd (rc.2.2.2.2.1 (sI q_4 20 ((gI q_4 20) + (1 : Int32)))) (fun q_6 => if q_6.1 = 0 then (some ((0 : Int32), q_6.2)) else (grd (inB (gI gT 20) 3001) (bnd (f_X12_act q_6.2 (12 : Int32) v1 (gIA q_6.2 10 (gI gT 20).toNatClampNeg)) (fun q_9 => some ((1 : Int32), q_9.2))))))
def f_X12_compares (n : Nat) (rc : RCT) (gT : Gs) : Option (Int32 × Gs) :=
  bnd (rc.2.2.2.2.1 gT) (fun q_1 => if q_1.1 = 0 then (some ((0 : Int32), q_1.2)) else (grd (inB (gI q_1.2 20) 3001) (if (gIA q_1.2 9 (gI q_1.2 20).toNatClampNeg) = (60 : Int32) then (b_X12_compares_47 n rc q_1.2 (gIA q_1.2 9 (gI q_1.2 20).toNatClampNeg)) else (if (gIA q_1.2 9 (gI q_1.2 20).toNatClampNeg) = (62 : Int32) then (b_X12_compares_47 n rc q_1.2 (gIA q_1.2 9 (gI q_1.2 20).toNatClampNeg)) else (if (gIA q_1.2 9 (gI q_1.2 20).toNatClampNeg) = (188 : Int32) then (b_X12_compares_47 n rc q_1.2 (gIA q_1.2 9 (gI q_1.2 20).toNatClampNeg)) else (if (gIA q_1.2 9 (gI q_1.2 20).toNatClampNeg) = (190 : Int32) then (b_X12_compares_47 n rc q_1.2 (gIA q_1.2 9 (gI q_1.2 20).toNatClampNeg)) else (some ((1 : Int32), q_1.2))))))))
def S_X12_compares_47 (l : Launch) (D : Dx) (hT : Nat) (aT : Nat → Nat) (yT : Nat → ClassId) (d : Nat) (fn : Gs → Int32 → Option (Int32 × Gs)) : Prop :=
  ∀ {p : Program} {e : Env} {s : State} {m : MethodId} {args : Array Value} {below : List Frame} {meth : Method} {c : Code} {H : Heap} {locs : List Loc} {A : Nat → Prop} {ls : Array Slot} {gT : Gs} {v1 : Int32} {q : Int32 × Gs}, Cx p s m args meth c cX12_compares (some .boolean) 3 RX12 lw_all → Hx D (tX12 yT) A s H locs (wX12 hT aT yT gT) → lv_has ls 3 [(0, .ref hT), (1, .int v1)] → fn gT v1 = some q → W p l e (RMd (d + 1)) s m args below meth c H locs 0 0 (MQ below (QI D A (wX12 hT aT yT q.2) q.1) args s 0 0 A) (F0 m 47 ls [])
set_option maxHeartbeats 4000000 in
set_option maxRecDepth 100000 in
theorem k_X12_compares_47 (l : Launch) (D : Dx) (hT : Nat) (aT : Nat → Nat) (yT : Nat → ClassId) (n : Nat) (rc : RCT) (d : Nat) (IR : SRC l D hT aT yT d rc) : S_X12_compares_47 l D hT aT yT d (b_X12_compares_47 n rc) := by
  intro p e s m args below meth c H locs A ls gT v1 q C X hl hF
  obtain ⟨hx, hb, hr, hml, hown, hts, hlk⟩ := id C
  unfold b_X12_compares_47 at hF
  refine lv_aload_n hx hb dX12_compares_47 rfl (lv_at hl 0 rfl) ?_
  refine va_get (D := D.1) (ci := 12) (v := .int (gI gT 20)) (C := RX12) (T := TX12) (N := 114) hx hb hts wi_X12 hown X.1 X.2.1 0 rfl rfl 20 (by decide) (hts _ q6_214) (fun _ h9 => h9) (fl_get (by decide)) dX12_compares_48 ?_
  refine lv_istore_n (lv' := [(2, .int (gI gT 20)), (0, .ref hT), (1, .int v1)]) hx hb dX12_compares_51 rfl hl (by decide) rfl (fun ls hl => ?_)
  refine lv_aload_n hx hb dX12_compares_52 rfl (lv_at hl 1 rfl) ?_
  refine lv_aload_n hx hb dX12_compares_53 rfl (lv_at hl 1 rfl) ?_
  refine va_get (D := D.1) (ci := 12) (v := .int (gI gT 20)) (C := RX12) (T := TX12) (N := 114) hx hb hts wi_X12 hown X.1 X.2.1 0 rfl rfl 20 (by decide) (hts _ q6_214) (fun _ h9 => h9) (fl_get (by decide)) dX12_compares_54 ?_
  obtain ⟨q_4, hc_5, hF⟩ := bnd_some hF
  refine cV_v (As := [.int (gI gT 20)]) (rest := []) C X (c_X12_node l D hT aT yT gT (gI gT 20) q_4 hc_5 _) (cwV 1 hts (good_V q8_232 q8_234 q0_92 q1_9 q8_235) rfl rfl rfl (by decide +kernel) ⟨rmf (by decide), rml (by decide)⟩) (va_recv X.1 X.2.1 (ci := 12) (q0 := 0) rfl rfl) X.1 X.2.1 X.2.2.1 (free_all X) hl.1 rfl rfl (Nat.le_of_ble_eq_true rfl) dX12_compares_57 ⟨Nat.le_of_ble_eq_true rfl, Nat.le_of_ble_eq_true rfl⟩ (fun t H1 locs1 ht hB hk hS => ?_)
  have X : Hx D (tX12 yT) A s H1 locs1 (wX12 hT aT yT q_4) := Hx_after_all X ht hB hS
  clear hk hS ht hB
  generalize H1 = H at X ⊢
  generalize locs1 = locs at X ⊢
  refine lv_aload_n hx hb dX12_compares_60 rfl (lv_at hl 1 rfl) ?_
  refine lv_dup hx hb dX12_compares_61 rfl ?_
  refine va_get (D := D.1) (ci := 12) (v := .int (gI q_4 20)) (C := RX12) (T := TX12) (N := 114) hx hb hts wi_X12 hown X.1 X.2.1 0 rfl rfl 20 (by decide) (hts _ q6_214) (fun _ h9 => h9) (fl_get (by decide)) dX12_compares_62 ?_
  refine lv_iconst (v := (1 : Int32)) hx hb dX12_compares_65 (by decide) ?_
  refine lv_iadd hx hb dX12_compares_66 ?_
  refine va_put (D := D.1) (ci := 12) (v := .int ((gI q_4 20) + (1 : Int32))) (ty := .int) (C := RX12) (T := TX12) (N := 114) hx hb hts wi_X12 tyX12 tyX12_ok nmX12 hown X.1 X.2.1 X.2.2.1 X.2.2.2.1 0 rfl rfl 20 (by decide) (hts _ q6_214) (fun _ h9 => h9) rfl (by decide +kernel) rfl rfl (by rw [List.length_map, List.length_range]; decide) dX12_compares_67 (fun H locs hP hD hS => ?_)
  have X : Hx D (tX12 yT) A s H locs (wX12 hT aT yT (sI q_4 20 ((gI q_4 20) + (1 : Int32)))) := Hx_set X (wG_sI (k := 20) rfl) hP hD hS
  refine lv_aload_n hx hb dX12_compares_70 rfl (lv_at hl 1 rfl) ?_
  obtain ⟨q_6, hc_7, hF⟩ := bnd_some hF
  refine cV_i (As := []) (rest := []) C X (IR.2.2.2.2.1 (sI q_4 20 ((gI q_4 20) + (1 : Int32))) q_6 hc_7 _) (cwV 0 hts (good_V q8_212 q8_214 q0_87 q1_9 q8_215) rfl rfl rfl (by decide +kernel) ⟨rgf, rgl (by decide)⟩) (va_recv X.1 X.2.1 (ci := 12) (q0 := 0) rfl rfl) X.1 X.2.1 X.2.2.1 (free_all X) hl.1 rfl rfl (Nat.le_of_ble_eq_true rfl) dX12_compares_71 ⟨Nat.le_of_ble_eq_true rfl, Nat.le_of_ble_eq_true rfl⟩ (fun t H1 locs1 ht hB hk hS => ?_)
  have X : Hx D (tX12 yT) A s H1 locs1 (wX12 hT aT yT q_6.2) := Hx_after_all X ht hB hS
  clear hk hS ht hB
  generalize H1 = H at X ⊢
  generalize locs1 = locs at X ⊢
  refine lv_if_ne (tgt := 79) hx hb dX12_compares_74 (by decide) (fun c => ?_) (fun c => ?_)
  · replace hF := iF c hF
    refine lv_aload_n hx hb dX12_compares_79 rfl (lv_at hl 1 rfl) ?_
    refine lv_bipush (v := (12 : Int32)) hx hb dX12_compares_80 (by decide) ?_
    refine lv_iload_n hx hb dX12_compares_82 rfl (lv_at hl 2 rfl) ?_
    refine lv_aload_n hx hb dX12_compares_83 rfl (lv_at hl 1 rfl) ?_
    refine va_get (D := D.1) (ci := 12) (v := .ref (aT 10)) (C := RX12) (T := TX12) (N := 114) hx hb hts wi_X12 hown X.1 X.2.1 0 rfl rfl 10 (by decide) (hts _ q6_204) (fun _ h9 => h9) (fl_get (by decide)) dX12_compares_84 ?_
    refine lv_iload_n hx hb dX12_compares_87 rfl (lv_at hl 0 rfl) ?_
    obtain ⟨h_8, hF⟩ := grd_some hF
    refine va_iald (D := D.1) (f := gIA q_6.2 10) hx hb X.1 X.2.1 5 4 rfl rfl (inB_ok h_8) dX12_compares_88 ?_
    obtain ⟨q_9, hc_10, hF⟩ := bnd_some hF
    refine cV_i (As := [.int (12 : Int32), .int v1, .int (gIA q_6.2 10 (gI gT 20).toNatClampNeg)]) (rest := []) C X (c_X12_act l D hT aT yT q_6.2 (12 : Int32) v1 (gIA q_6.2 10 (gI gT 20).toNatClampNeg) q_9 hc_10 _) (cwV 3 hts (good_V q8_236 q8_238 q0_93 q1_9 q8_239) rfl rfl rfl (by decide +kernel) ⟨rmf (by decide), rml (by decide)⟩) (va_recv X.1 X.2.1 (ci := 12) (q0 := 0) rfl rfl) X.1 X.2.1 X.2.2.1 (free_all X) hl.1 rfl rfl (Nat.le_of_ble_eq_true rfl) dX12_compares_89 ⟨Nat.le_of_ble_eq_true rfl, Nat.le_of_ble_eq_true rfl⟩ (fun t H1 locs1 ht hB hk hS => ?_)
    have X : Hx D (tX12 yT) A s H1 locs1 (wX12 hT aT yT q_9.2) := Hx_after_all X ht hB hS
    clear hk hS ht hB
    generalize H1 = H at X ⊢
    generalize locs1 = locs at X ⊢
    refine lv_pop hx hb dX12_compares_92 rfl ?_
    refine lv_iconst (v := (1 : Int32)) hx hb dX12_compares_93 (by decide) ?_
    have hq := Option.some.inj hF
    subst hq
    exact rt_z (v := (1 : Int32)) C X (by decide) dX12_compares_94
  · replace hF := iT c hF
    refine lv_iconst (v := (0 : Int32)) hx hb dX12_compares_77 (by decide) ?_
    have hq := Option.some.inj hF
    subst hq
    exact rt_z (v := (0 : Int32)) C X (by decide) dX12_compares_78
set_option maxHeartbeats 4000000 in
set_option maxRecDepth 100000 in
theorem c_X12_compares (l : Launch) (D : Dx) (hT : Nat) (aT : Nat → Nat) (yT : Nat → ClassId) (n : Nat) (rc : RCT) (d : Nat) (IR : SRC l D hT aT yT d rc) (gT : Gs) (q : Int32 × Gs) (hF : f_X12_compares n rc gT = some q) (sz : Nat) : Met l yX12_compares (ws_ yX12_compares cX12_compares 3 (some .boolean)) (RMd (d + 1)) (PC D (tX12 yT) [.ref hT] (wX12 hT aT yT gT) sz) (QI D (va_A (wX12 hT aT yT gT) sz) (wX12 hT aT yT q.2) q.1) 0 0 (va_A (wX12 hT aT yT gT) sz) := by
  refine Met.ofW (cc := cX12_compares) (maxL := 3) (ret := (some .boolean)) (by decide) rfl ?_
  intro p e s m args below meth c s₁ B hml hv
  obtain ⟨rfl, hsz, hP, hK, hD, hN⟩ := hv
  subst hsz
  have C : Cx p s m _ meth c cX12_compares (some .boolean) 3 RX12 lw_all := Cx_of B hml
  have X := Hx_start hP hK hD hN
  obtain ⟨hx, hb, hr, -, hown, hts, hlk⟩ := id C
  generalize va_A (wX12 hT aT yT gT) s.heap.size = A at X ⊢
  have hl := lv_entry ([.ref hT]) (n := 3) (Nat.le_of_ble_eq_true rfl)
  rw [lg_entry_eq]
  generalize (lg_sl ([.ref hT]) ++ List.replicate (3 - (lg_sl ([.ref hT])).length) Slot.unset).toArray = ls at hl ⊢
  have hl : lv_has ls 3 [(0, .ref hT)] := hl
  unfold f_X12_compares at hF
  refine lv_aload_n hx hb dX12_compares_0 rfl (lv_at hl 0 rfl) ?_
  obtain ⟨q_1, hc_2, hF⟩ := bnd_some hF
  refine cV_i (As := []) (rest := []) C X (IR.2.2.2.2.1 gT q_1 hc_2 _) (cwV 0 hts (good_V q8_212 q8_214 q0_87 q1_9 q8_215) rfl rfl rfl (by decide +kernel) ⟨rgf, rgl (by decide)⟩) (va_recv X.1 X.2.1 (ci := 12) (q0 := 0) rfl rfl) X.1 X.2.1 X.2.2.1 (free_all X) hl.1 rfl rfl (Nat.le_of_ble_eq_true rfl) dX12_compares_1 ⟨Nat.le_of_ble_eq_true rfl, Nat.le_of_ble_eq_true rfl⟩ (fun t H1 locs1 ht hB hk hS => ?_)
  have X : Hx D (tX12 yT) A s H1 locs1 (wX12 hT aT yT q_1.2) := Hx_after_all X ht hB hS
  clear hk hS ht hB
  generalize H1 = H at X ⊢
  generalize locs1 = locs at X ⊢
  refine lv_if_ne (tgt := 9) hx hb dX12_compares_4 (by decide) (fun c => ?_) (fun c => ?_)
  · replace hF := iF c hF
    refine lv_aload_n hx hb dX12_compares_9 rfl (lv_at hl 0 rfl) ?_
    refine va_get (D := D.1) (ci := 12) (v := .ref (aT 9)) (C := RX12) (T := TX12) (N := 114) hx hb hts wi_X12 hown X.1 X.2.1 0 rfl rfl 9 (by decide) (hts _ q6_203) (fun _ h9 => h9) (fl_get (by decide)) dX12_compares_10 ?_
    refine lv_aload_n hx hb dX12_compares_13 rfl (lv_at hl 0 rfl) ?_
    refine va_get (D := D.1) (ci := 12) (v := .int (gI q_1.2 20)) (C := RX12) (T := TX12) (N := 114) hx hb hts wi_X12 hown X.1 X.2.1 0 rfl rfl 20 (by decide) (hts _ q6_214) (fun _ h9 => h9) (fl_get (by decide)) dX12_compares_14 ?_
    obtain ⟨h_3, hF⟩ := grd_some hF
    refine va_iald (D := D.1) (f := gIA q_1.2 9) hx hb X.1 X.2.1 4 3 rfl rfl (inB_ok h_3) dX12_compares_17 ?_
    refine lv_istore_n (lv' := [(1, .int (gIA q_1.2 9 (gI q_1.2 20).toNatClampNeg)), (0, .ref hT)]) hx hb dX12_compares_18 rfl hl (by decide) rfl (fun ls hl => ?_)
    refine lv_iload_n hx hb dX12_compares_19 rfl (lv_at hl 0 rfl) ?_
    refine lv_bipush (v := (60 : Int32)) hx hb dX12_compares_20 (by decide) ?_
    refine lv_icmp_eq (tgt := 47) hx hb dX12_compares_22 (by decide) (fun c => ?_) (fun c => ?_)
    · replace hF := iT c hF
      exact (k_X12_compares_47 l D hT aT yT n rc d IR) C X (lv_sub hl [1, 0] rfl) hF
    · replace hF := iF c hF
      refine lv_iload_n hx hb dX12_compares_25 rfl (lv_at hl 0 rfl) ?_
      refine lv_bipush (v := (62 : Int32)) hx hb dX12_compares_26 (by decide) ?_
      refine lv_icmp_eq (tgt := 47) hx hb dX12_compares_28 (by decide) (fun c => ?_) (fun c => ?_)
      · replace hF := iT c hF
        exact (k_X12_compares_47 l D hT aT yT n rc d IR) C X (lv_sub hl [1, 0] rfl) hF
      · replace hF := iF c hF
        refine lv_iload_n hx hb dX12_compares_31 rfl (lv_at hl 0 rfl) ?_
        refine lv_sipush (v := (188 : Int32)) hx hb dX12_compares_32 (by decide) ?_
        refine lv_icmp_eq (tgt := 47) hx hb dX12_compares_35 (by decide) (fun c => ?_) (fun c => ?_)
        · replace hF := iT c hF
          exact (k_X12_compares_47 l D hT aT yT n rc d IR) C X (lv_sub hl [1, 0] rfl) hF
        · replace hF := iF c hF
          refine lv_iload_n hx hb dX12_compares_38 rfl (lv_at hl 0 rfl) ?_
          refine lv_sipush (v := (190 : Int32)) hx hb dX12_compares_39 (by decide) ?_
          refine lv_icmp_eq (tgt := 47) hx hb dX12_compares_42 (by decide) (fun c => ?_) (fun c => ?_)
          · replace hF := iT c hF
            exact (k_X12_compares_47 l D hT aT yT n rc d IR) C X (lv_sub hl [1, 0] rfl) hF
          · replace hF := iF c hF
            refine lv_iconst (v := (1 : Int32)) hx hb dX12_compares_45 (by decide) ?_
            have hq := Option.some.inj hF
            subst hq
            exact rt_z (v := (1 : Int32)) C X (by decide) dX12_compares_46
  · replace hF := iT c hF
    refine lv_iconst (v := (0 : Int32)) hx hb dX12_compares_7 (by decide) ?_
    have hq := Option.some.inj hF
    subst hq
    exact rt_z (v := (0 : Int32)) C X (by decide) dX12_compares_8

/-! ### X12_equals -/
theorem dX12_equals_0 : decode cX12_equals 0 = .ok (.aload_n 0, 1) := by decide +kernel
theorem dX12_equals_1 : decode cX12_equals 1 = .ok (.invokevirtual 570, 3) := by decide +kernel
theorem dX12_equals_4 : decode cX12_equals 4 = .ok (.ifCond .ne 5, 3) := by decide +kernel
theorem dX12_equals_7 : decode cX12_equals 7 = .ok (.iconst 0, 1) := by decide +kernel
theorem dX12_equals_8 : decode cX12_equals 8 = .ok (.ireturn, 1) := by decide +kernel
theorem dX12_equals_9 : decode cX12_equals 9 = .ok (.aload_n 0, 1) := by decide +kernel
theorem dX12_equals_10 : decode cX12_equals 10 = .ok (.getfield 82, 3) := by decide +kernel
theorem dX12_equals_13 : decode cX12_equals 13 = .ok (.aload_n 0, 1) := by decide +kernel
theorem dX12_equals_14 : decode cX12_equals 14 = .ok (.getfield 116, 3) := by decide +kernel
theorem dX12_equals_17 : decode cX12_equals 17 = .ok (.iaload, 1) := by decide +kernel
theorem dX12_equals_18 : decode cX12_equals 18 = .ok (.sipush 189, 3) := by decide +kernel
theorem dX12_equals_21 : decode cX12_equals 21 = .ok (.if_icmp .eq 20, 3) := by decide +kernel
theorem dX12_equals_24 : decode cX12_equals 24 = .ok (.aload_n 0, 1) := by decide +kernel
theorem dX12_equals_25 : decode cX12_equals 25 = .ok (.getfield 82, 3) := by decide +kernel
theorem dX12_equals_28 : decode cX12_equals 28 = .ok (.aload_n 0, 1) := by decide +kernel
theorem dX12_equals_29 : decode cX12_equals 29 = .ok (.getfield 116, 3) := by decide +kernel
theorem dX12_equals_32 : decode cX12_equals 32 = .ok (.iaload, 1) := by decide +kernel
theorem dX12_equals_33 : decode cX12_equals 33 = .ok (.sipush 161, 3) := by decide +kernel
theorem dX12_equals_36 : decode cX12_equals 36 = .ok (.if_icmp .eq 5, 3) := by decide +kernel
theorem dX12_equals_39 : decode cX12_equals 39 = .ok (.iconst 1, 1) := by decide +kernel
theorem dX12_equals_40 : decode cX12_equals 40 = .ok (.ireturn, 1) := by decide +kernel
theorem dX12_equals_41 : decode cX12_equals 41 = .ok (.aload_n 0, 1) := by decide +kernel
theorem dX12_equals_42 : decode cX12_equals 42 = .ok (.getfield 116, 3) := by decide +kernel
theorem dX12_equals_45 : decode cX12_equals 45 = .ok (.istore_n 1, 1) := by decide +kernel
theorem dX12_equals_46 : decode cX12_equals 46 = .ok (.aload_n 0, 1) := by decide +kernel
theorem dX12_equals_47 : decode cX12_equals 47 = .ok (.aload_n 0, 1) := by decide +kernel
theorem dX12_equals_48 : decode cX12_equals 48 = .ok (.getfield 116, 3) := by decide +kernel
theorem dX12_equals_51 : decode cX12_equals 51 = .ok (.invokevirtual 554, 3) := by decide +kernel
theorem dX12_equals_54 : decode cX12_equals 54 = .ok (.aload_n 0, 1) := by decide +kernel
theorem dX12_equals_55 : decode cX12_equals 55 = .ok (.dup, 1) := by decide +kernel
theorem dX12_equals_56 : decode cX12_equals 56 = .ok (.getfield 116, 3) := by decide +kernel
theorem dX12_equals_59 : decode cX12_equals 59 = .ok (.iconst 1, 1) := by decide +kernel
theorem dX12_equals_60 : decode cX12_equals 60 = .ok (.iadd, 1) := by decide +kernel
theorem dX12_equals_61 : decode cX12_equals 61 = .ok (.putfield 116, 3) := by decide +kernel
theorem dX12_equals_64 : decode cX12_equals 64 = .ok (.aload_n 0, 1) := by decide +kernel
theorem dX12_equals_65 : decode cX12_equals 65 = .ok (.invokevirtual 570, 3) := by decide +kernel
theorem dX12_equals_68 : decode cX12_equals 68 = .ok (.ifCond .ne 5, 3) := by decide +kernel
theorem dX12_equals_71 : decode cX12_equals 71 = .ok (.iconst 0, 1) := by decide +kernel
theorem dX12_equals_72 : decode cX12_equals 72 = .ok (.ireturn, 1) := by decide +kernel
theorem dX12_equals_73 : decode cX12_equals 73 = .ok (.aload_n 0, 1) := by decide +kernel
theorem dX12_equals_74 : decode cX12_equals 74 = .ok (.bipush 12, 2) := by decide +kernel
theorem dX12_equals_76 : decode cX12_equals 76 = .ok (.aload_n 0, 1) := by decide +kernel
theorem dX12_equals_77 : decode cX12_equals 77 = .ok (.getfield 82, 3) := by decide +kernel
theorem dX12_equals_80 : decode cX12_equals 80 = .ok (.iload_n 1, 1) := by decide +kernel
theorem dX12_equals_81 : decode cX12_equals 81 = .ok (.iaload, 1) := by decide +kernel
theorem dX12_equals_82 : decode cX12_equals 82 = .ok (.aload_n 0, 1) := by decide +kernel
theorem dX12_equals_83 : decode cX12_equals 83 = .ok (.getfield 86, 3) := by decide +kernel
theorem dX12_equals_86 : decode cX12_equals 86 = .ok (.iload_n 1, 1) := by decide +kernel
theorem dX12_equals_87 : decode cX12_equals 87 = .ok (.iaload, 1) := by decide +kernel
theorem dX12_equals_88 : decode cX12_equals 88 = .ok (.invokevirtual 557, 3) := by decide +kernel
theorem dX12_equals_91 : decode cX12_equals 91 = .ok (.pop, 1) := by decide +kernel
theorem dX12_equals_92 : decode cX12_equals 92 = .ok (.iconst 1, 1) := by decide +kernel
theorem dX12_equals_93 : decode cX12_equals 93 = .ok (.ireturn, 1) := by decide +kernel
def b_X12_equals_41 (n : Nat) (rc : RCT) (gT : Gs) : Option (Int32 × Gs) :=
  bnd (f_X12_node gT (gI gT 20)) (fun q_4 => bnd (rc.2.2.2.2.2.1 (sI q_4 20 ((gI q_4 20) + (1 : Int32)))) (fun q_6 => if q_6.1 = 0 then (some ((0 : Int32), q_6.2)) else (grd (inB (gI gT 20) 3001) (grd (inB (gI gT 20) 3001) (bnd (f_X12_act q_6.2 (12 : Int32) (gIA q_6.2 9 (gI gT 20).toNatClampNeg) (gIA q_6.2 10 (gI gT 20).toNatClampNeg)) (fun q_10 => some ((1 : Int32), q_10.2)))))))
def f_X12_equals (n : Nat) (rc : RCT) (gT : Gs) : Option (Int32 × Gs) :=
  bnd (rc.2.2.2.2.2.1 gT) (fun q_1 => if q_1.1 = 0 then (some ((0 : Int32), q_1.2)) else (grd (inB (gI q_1.2 20) 3001) (if (gIA q_1.2 9 (gI q_1.2 20).toNatClampNeg) = (189 : Int32) then (b_X12_equals_41 n rc q_1.2) else (grd (inB (gI q_1.2 20) 3001) (if (gIA q_1.2 9 (gI q_1.2 20).toNatClampNeg) = (161 : Int32) then (b_X12_equals_41 n rc q_1.2) else (some ((1 : Int32), q_1.2)))))))
def S_X12_equals_41 (l : Launch) (D : Dx) (hT : Nat) (aT : Nat → Nat) (yT : Nat → ClassId) (d : Nat) (fn : Gs → Option (Int32 × Gs)) : Prop :=
  ∀ {p : Program} {e : Env} {s : State} {m : MethodId} {args : Array Value} {below : List Frame} {meth : Method} {c : Code} {H : Heap} {locs : List Loc} {A : Nat → Prop} {ls : Array Slot} {gT : Gs} {q : Int32 × Gs}, Cx p s m args meth c cX12_equals (some .boolean) 2 RX12 lw_all → Hx D (tX12 yT) A s H locs (wX12 hT aT yT gT) → lv_has ls 2 [(0, .ref hT)] → fn gT = some q → W p l e (RMd (d + 1)) s m args below meth c H locs 0 0 (MQ below (QI D A (wX12 hT aT yT q.2) q.1) args s 0 0 A) (F0 m 41 ls [])
set_option maxHeartbeats 4000000 in
set_option maxRecDepth 100000 in
theorem k_X12_equals_41 (l : Launch) (D : Dx) (hT : Nat) (aT : Nat → Nat) (yT : Nat → ClassId) (n : Nat) (rc : RCT) (d : Nat) (IR : SRC l D hT aT yT d rc) : S_X12_equals_41 l D hT aT yT d (b_X12_equals_41 n rc) := by
  intro p e s m args below meth c H locs A ls gT q C X hl hF
  obtain ⟨hx, hb, hr, hml, hown, hts, hlk⟩ := id C
  unfold b_X12_equals_41 at hF
  refine lv_aload_n hx hb dX12_equals_41 rfl (lv_at hl 0 rfl) ?_
  refine va_get (D := D.1) (ci := 12) (v := .int (gI gT 20)) (C := RX12) (T := TX12) (N := 114) hx hb hts wi_X12 hown X.1 X.2.1 0 rfl rfl 20 (by decide) (hts _ q6_214) (fun _ h9 => h9) (fl_get (by decide)) dX12_equals_42 ?_
  refine lv_istore_n (lv' := [(1, .int (gI gT 20)), (0, .ref hT)]) hx hb dX12_equals_45 rfl hl (by decide) rfl (fun ls hl => ?_)
  refine lv_aload_n hx hb dX12_equals_46 rfl (lv_at hl 1 rfl) ?_
  refine lv_aload_n hx hb dX12_equals_47 rfl (lv_at hl 1 rfl) ?_
  refine va_get (D := D.1) (ci := 12) (v := .int (gI gT 20)) (C := RX12) (T := TX12) (N := 114) hx hb hts wi_X12 hown X.1 X.2.1 0 rfl rfl 20 (by decide) (hts _ q6_214) (fun _ h9 => h9) (fl_get (by decide)) dX12_equals_48 ?_
  obtain ⟨q_4, hc_5, hF⟩ := bnd_some hF
  refine cV_v (As := [.int (gI gT 20)]) (rest := []) C X (c_X12_node l D hT aT yT gT (gI gT 20) q_4 hc_5 _) (cwV 1 hts (good_V q8_232 q8_234 q0_92 q1_9 q8_235) rfl rfl rfl (by decide +kernel) ⟨rmf (by decide), rml (by decide)⟩) (va_recv X.1 X.2.1 (ci := 12) (q0 := 0) rfl rfl) X.1 X.2.1 X.2.2.1 (free_all X) hl.1 rfl rfl (Nat.le_of_ble_eq_true rfl) dX12_equals_51 ⟨Nat.le_of_ble_eq_true rfl, Nat.le_of_ble_eq_true rfl⟩ (fun t H1 locs1 ht hB hk hS => ?_)
  have X : Hx D (tX12 yT) A s H1 locs1 (wX12 hT aT yT q_4) := Hx_after_all X ht hB hS
  clear hk hS ht hB
  generalize H1 = H at X ⊢
  generalize locs1 = locs at X ⊢
  refine lv_aload_n hx hb dX12_equals_54 rfl (lv_at hl 1 rfl) ?_
  refine lv_dup hx hb dX12_equals_55 rfl ?_
  refine va_get (D := D.1) (ci := 12) (v := .int (gI q_4 20)) (C := RX12) (T := TX12) (N := 114) hx hb hts wi_X12 hown X.1 X.2.1 0 rfl rfl 20 (by decide) (hts _ q6_214) (fun _ h9 => h9) (fl_get (by decide)) dX12_equals_56 ?_
  refine lv_iconst (v := (1 : Int32)) hx hb dX12_equals_59 (by decide) ?_
  refine lv_iadd hx hb dX12_equals_60 ?_
  refine va_put (D := D.1) (ci := 12) (v := .int ((gI q_4 20) + (1 : Int32))) (ty := .int) (C := RX12) (T := TX12) (N := 114) hx hb hts wi_X12 tyX12 tyX12_ok nmX12 hown X.1 X.2.1 X.2.2.1 X.2.2.2.1 0 rfl rfl 20 (by decide) (hts _ q6_214) (fun _ h9 => h9) rfl (by decide +kernel) rfl rfl (by rw [List.length_map, List.length_range]; decide) dX12_equals_61 (fun H locs hP hD hS => ?_)
  have X : Hx D (tX12 yT) A s H locs (wX12 hT aT yT (sI q_4 20 ((gI q_4 20) + (1 : Int32)))) := Hx_set X (wG_sI (k := 20) rfl) hP hD hS
  refine lv_aload_n hx hb dX12_equals_64 rfl (lv_at hl 1 rfl) ?_
  obtain ⟨q_6, hc_7, hF⟩ := bnd_some hF
  refine cV_i (As := []) (rest := []) C X (IR.2.2.2.2.2.1 (sI q_4 20 ((gI q_4 20) + (1 : Int32))) q_6 hc_7 _) (cwV 0 hts (good_V q8_208 q8_210 q0_86 q1_9 q8_211) rfl rfl rfl (by decide +kernel) ⟨rgf, rgl (by decide)⟩) (va_recv X.1 X.2.1 (ci := 12) (q0 := 0) rfl rfl) X.1 X.2.1 X.2.2.1 (free_all X) hl.1 rfl rfl (Nat.le_of_ble_eq_true rfl) dX12_equals_65 ⟨Nat.le_of_ble_eq_true rfl, Nat.le_of_ble_eq_true rfl⟩ (fun t H1 locs1 ht hB hk hS => ?_)
  have X : Hx D (tX12 yT) A s H1 locs1 (wX12 hT aT yT q_6.2) := Hx_after_all X ht hB hS
  clear hk hS ht hB
  generalize H1 = H at X ⊢
  generalize locs1 = locs at X ⊢
  refine lv_if_ne (tgt := 73) hx hb dX12_equals_68 (by decide) (fun c => ?_) (fun c => ?_)
  · replace hF := iF c hF
    refine lv_aload_n hx hb dX12_equals_73 rfl (lv_at hl 1 rfl) ?_
    refine lv_bipush (v := (12 : Int32)) hx hb dX12_equals_74 (by decide) ?_
    refine lv_aload_n hx hb dX12_equals_76 rfl (lv_at hl 1 rfl) ?_
    refine va_get (D := D.1) (ci := 12) (v := .ref (aT 9)) (C := RX12) (T := TX12) (N := 114) hx hb hts wi_X12 hown X.1 X.2.1 0 rfl rfl 9 (by decide) (hts _ q6_203) (fun _ h9 => h9) (fl_get (by decide)) dX12_equals_77 ?_
    refine lv_iload_n hx hb dX12_equals_80 rfl (lv_at hl 0 rfl) ?_
    obtain ⟨h_8, hF⟩ := grd_some hF
    refine va_iald (D := D.1) (f := gIA q_6.2 9) hx hb X.1 X.2.1 4 3 rfl rfl (inB_ok h_8) dX12_equals_81 ?_
    refine lv_aload_n hx hb dX12_equals_82 rfl (lv_at hl 1 rfl) ?_
    refine va_get (D := D.1) (ci := 12) (v := .ref (aT 10)) (C := RX12) (T := TX12) (N := 114) hx hb hts wi_X12 hown X.1 X.2.1 0 rfl rfl 10 (by decide) (hts _ q6_204) (fun _ h9 => h9) (fl_get (by decide)) dX12_equals_83 ?_
    refine lv_iload_n hx hb dX12_equals_86 rfl (lv_at hl 0 rfl) ?_
    obtain ⟨h_9, hF⟩ := grd_some hF
    refine va_iald (D := D.1) (f := gIA q_6.2 10) hx hb X.1 X.2.1 5 4 rfl rfl (inB_ok h_9) dX12_equals_87 ?_
    obtain ⟨q_10, hc_11, hF⟩ := bnd_some hF
    refine cV_i (As := [.int (12 : Int32), .int (gIA q_6.2 9 (gI gT 20).toNatClampNeg), .int (gIA q_6.2 10 (gI gT 20).toNatClampNeg)]) (rest := []) C X (c_X12_act l D hT aT yT q_6.2 (12 : Int32) (gIA q_6.2 9 (gI gT 20).toNatClampNeg) (gIA q_6.2 10 (gI gT 20).toNatClampNeg) q_10 hc_11 _) (cwV 3 hts (good_V q8_236 q8_238 q0_93 q1_9 q8_239) rfl rfl rfl (by decide +kernel) ⟨rmf (by decide), rml (by decide)⟩) (va_recv X.1 X.2.1 (ci := 12) (q0 := 0) rfl rfl) X.1 X.2.1 X.2.2.1 (free_all X) hl.1 rfl rfl (Nat.le_of_ble_eq_true rfl) dX12_equals_88 ⟨Nat.le_of_ble_eq_true rfl, Nat.le_of_ble_eq_true rfl⟩ (fun t H1 locs1 ht hB hk hS => ?_)
    have X : Hx D (tX12 yT) A s H1 locs1 (wX12 hT aT yT q_10.2) := Hx_after_all X ht hB hS
    clear hk hS ht hB
    generalize H1 = H at X ⊢
    generalize locs1 = locs at X ⊢
    refine lv_pop hx hb dX12_equals_91 rfl ?_
    refine lv_iconst (v := (1 : Int32)) hx hb dX12_equals_92 (by decide) ?_
    have hq := Option.some.inj hF
    subst hq
    exact rt_z (v := (1 : Int32)) C X (by decide) dX12_equals_93
  · replace hF := iT c hF
    refine lv_iconst (v := (0 : Int32)) hx hb dX12_equals_71 (by decide) ?_
    have hq := Option.some.inj hF
    subst hq
    exact rt_z (v := (0 : Int32)) C X (by decide) dX12_equals_72
set_option maxHeartbeats 4000000 in
set_option maxRecDepth 100000 in
theorem c_X12_equals (l : Launch) (D : Dx) (hT : Nat) (aT : Nat → Nat) (yT : Nat → ClassId) (n : Nat) (rc : RCT) (d : Nat) (IR : SRC l D hT aT yT d rc) (gT : Gs) (q : Int32 × Gs) (hF : f_X12_equals n rc gT = some q) (sz : Nat) : Met l yX12_equals (ws_ yX12_equals cX12_equals 2 (some .boolean)) (RMd (d + 1)) (PC D (tX12 yT) [.ref hT] (wX12 hT aT yT gT) sz) (QI D (va_A (wX12 hT aT yT gT) sz) (wX12 hT aT yT q.2) q.1) 0 0 (va_A (wX12 hT aT yT gT) sz) := by
  refine Met.ofW (cc := cX12_equals) (maxL := 2) (ret := (some .boolean)) (by decide) rfl ?_
  intro p e s m args below meth c s₁ B hml hv
  obtain ⟨rfl, hsz, hP, hK, hD, hN⟩ := hv
  subst hsz
  have C : Cx p s m _ meth c cX12_equals (some .boolean) 2 RX12 lw_all := Cx_of B hml
  have X := Hx_start hP hK hD hN
  obtain ⟨hx, hb, hr, -, hown, hts, hlk⟩ := id C
  generalize va_A (wX12 hT aT yT gT) s.heap.size = A at X ⊢
  have hl := lv_entry ([.ref hT]) (n := 2) (Nat.le_of_ble_eq_true rfl)
  rw [lg_entry_eq]
  generalize (lg_sl ([.ref hT]) ++ List.replicate (2 - (lg_sl ([.ref hT])).length) Slot.unset).toArray = ls at hl ⊢
  have hl : lv_has ls 2 [(0, .ref hT)] := hl
  unfold f_X12_equals at hF
  refine lv_aload_n hx hb dX12_equals_0 rfl (lv_at hl 0 rfl) ?_
  obtain ⟨q_1, hc_2, hF⟩ := bnd_some hF
  refine cV_i (As := []) (rest := []) C X (IR.2.2.2.2.2.1 gT q_1 hc_2 _) (cwV 0 hts (good_V q8_208 q8_210 q0_86 q1_9 q8_211) rfl rfl rfl (by decide +kernel) ⟨rgf, rgl (by decide)⟩) (va_recv X.1 X.2.1 (ci := 12) (q0 := 0) rfl rfl) X.1 X.2.1 X.2.2.1 (free_all X) hl.1 rfl rfl (Nat.le_of_ble_eq_true rfl) dX12_equals_1 ⟨Nat.le_of_ble_eq_true rfl, Nat.le_of_ble_eq_true rfl⟩ (fun t H1 locs1 ht hB hk hS => ?_)
  have X : Hx D (tX12 yT) A s H1 locs1 (wX12 hT aT yT q_1.2) := Hx_after_all X ht hB hS
  clear hk hS ht hB
  generalize H1 = H at X ⊢
  generalize locs1 = locs at X ⊢
  refine lv_if_ne (tgt := 9) hx hb dX12_equals_4 (by decide) (fun c => ?_) (fun c => ?_)
  · replace hF := iF c hF
    refine lv_aload_n hx hb dX12_equals_9 rfl (lv_at hl 0 rfl) ?_
    refine va_get (D := D.1) (ci := 12) (v := .ref (aT 9)) (C := RX12) (T := TX12) (N := 114) hx hb hts wi_X12 hown X.1 X.2.1 0 rfl rfl 9 (by decide) (hts _ q6_203) (fun _ h9 => h9) (fl_get (by decide)) dX12_equals_10 ?_
    refine lv_aload_n hx hb dX12_equals_13 rfl (lv_at hl 0 rfl) ?_
    refine va_get (D := D.1) (ci := 12) (v := .int (gI q_1.2 20)) (C := RX12) (T := TX12) (N := 114) hx hb hts wi_X12 hown X.1 X.2.1 0 rfl rfl 20 (by decide) (hts _ q6_214) (fun _ h9 => h9) (fl_get (by decide)) dX12_equals_14 ?_
    obtain ⟨h_3, hF⟩ := grd_some hF
    refine va_iald (D := D.1) (f := gIA q_1.2 9) hx hb X.1 X.2.1 4 3 rfl rfl (inB_ok h_3) dX12_equals_17 ?_
    refine lv_sipush (v := (189 : Int32)) hx hb dX12_equals_18 (by decide) ?_
    refine lv_icmp_eq (tgt := 41) hx hb dX12_equals_21 (by decide) (fun c => ?_) (fun c => ?_)
    · replace hF := iT c hF
      exact (k_X12_equals_41 l D hT aT yT n rc d IR) C X (lv_sub hl [0] rfl) hF
    · replace hF := iF c hF
      refine lv_aload_n hx hb dX12_equals_24 rfl (lv_at hl 0 rfl) ?_
      refine va_get (D := D.1) (ci := 12) (v := .ref (aT 9)) (C := RX12) (T := TX12) (N := 114) hx hb hts wi_X12 hown X.1 X.2.1 0 rfl rfl 9 (by decide) (hts _ q6_203) (fun _ h9 => h9) (fl_get (by decide)) dX12_equals_25 ?_
      refine lv_aload_n hx hb dX12_equals_28 rfl (lv_at hl 0 rfl) ?_
      refine va_get (D := D.1) (ci := 12) (v := .int (gI q_1.2 20)) (C := RX12) (T := TX12) (N := 114) hx hb hts wi_X12 hown X.1 X.2.1 0 rfl rfl 20 (by decide) (hts _ q6_214) (fun _ h9 => h9) (fl_get (by decide)) dX12_equals_29 ?_
      obtain ⟨h_12, hF⟩ := grd_some hF
      refine va_iald (D := D.1) (f := gIA q_1.2 9) hx hb X.1 X.2.1 4 3 rfl rfl (inB_ok h_12) dX12_equals_32 ?_
      refine lv_sipush (v := (161 : Int32)) hx hb dX12_equals_33 (by decide) ?_
      refine lv_icmp_eq (tgt := 41) hx hb dX12_equals_36 (by decide) (fun c => ?_) (fun c => ?_)
      · replace hF := iT c hF
        exact (k_X12_equals_41 l D hT aT yT n rc d IR) C X (lv_sub hl [0] rfl) hF
      · replace hF := iF c hF
        refine lv_iconst (v := (1 : Int32)) hx hb dX12_equals_39 (by decide) ?_
        have hq := Option.some.inj hF
        subst hq
        exact rt_z (v := (1 : Int32)) C X (by decide) dX12_equals_40
  · replace hF := iT c hF
    refine lv_iconst (v := (0 : Int32)) hx hb dX12_equals_7 (by decide) ?_
    have hq := Option.some.inj hF
    subst hq
    exact rt_z (v := (0 : Int32)) C X (by decide) dX12_equals_8

/-! ### X12_choice -/
theorem dX12_choice_0 : decode cX12_choice 0 = .ok (.iload_n 1, 1) := by decide +kernel
theorem dX12_choice_1 : decode cX12_choice 1 = .ok (.sipush 252, 3) := by decide +kernel
theorem dX12_choice_4 : decode cX12_choice 4 = .ok (.if_icmp .ne 7, 3) := by decide +kernel
theorem dX12_choice_7 : decode cX12_choice 7 = .ok (.iconst 1, 1) := by decide +kernel
theorem dX12_choice_8 : decode cX12_choice 8 = .ok (.goto 4, 3) := by decide +kernel
theorem dX12_choice_11 : decode cX12_choice 11 = .ok (.iconst 0, 1) := by decide +kernel
theorem dX12_choice_12 : decode cX12_choice 12 = .ok (.istore_n 2, 1) := by decide +kernel
theorem dX12_choice_13 : decode cX12_choice 13 = .ok (.iload_n 2, 1) := by decide +kernel
theorem dX12_choice_14 : decode cX12_choice 14 = .ok (.ifCond .eq 16, 3) := by decide +kernel
theorem dX12_choice_17 : decode cX12_choice 17 = .ok (.aload_n 0, 1) := by decide +kernel
theorem dX12_choice_18 : decode cX12_choice 18 = .ok (.sipush 166, 3) := by decide +kernel
theorem dX12_choice_21 : decode cX12_choice 21 = .ok (.invokevirtual 548, 3) := by decide +kernel
theorem dX12_choice_24 : decode cX12_choice 24 = .ok (.ifCond .eq 13, 3) := by decide +kernel
theorem dX12_choice_27 : decode cX12_choice 27 = .ok (.goto 12, 3) := by decide +kernel
theorem dX12_choice_30 : decode cX12_choice 30 = .ok (.aload_n 0, 1) := by decide +kernel
theorem dX12_choice_31 : decode cX12_choice 31 = .ok (.invokevirtual 567, 3) := by decide +kernel
theorem dX12_choice_34 : decode cX12_choice 34 = .ok (.ifCond .ne 5, 3) := by decide +kernel
theorem dX12_choice_37 : decode cX12_choice 37 = .ok (.iconst 0, 1) := by decide +kernel
theorem dX12_choice_38 : decode cX12_choice 38 = .ok (.ireturn, 1) := by decide +kernel
theorem dX12_choice_39 : decode cX12_choice 39 = .ok (.aload_n 0, 1) := by decide +kernel
theorem dX12_choice_40 : decode cX12_choice 40 = .ok (.getfield 82, 3) := by decide +kernel
theorem dX12_choice_43 : decode cX12_choice 43 = .ok (.aload_n 0, 1) := by decide +kernel
theorem dX12_choice_44 : decode cX12_choice 44 = .ok (.getfield 116, 3) := by decide +kernel
theorem dX12_choice_47 : decode cX12_choice 47 = .ok (.iaload, 1) := by decide +kernel
theorem dX12_choice_48 : decode cX12_choice 48 = .ok (.iload_n 1, 1) := by decide +kernel
theorem dX12_choice_49 : decode cX12_choice 49 = .ok (.if_icmp .ne 113, 3) := by decide +kernel
theorem dX12_choice_52 : decode cX12_choice 52 = .ok (.aload_n 0, 1) := by decide +kernel
theorem dX12_choice_53 : decode cX12_choice 53 = .ok (.getfield 116, 3) := by decide +kernel
theorem dX12_choice_56 : decode cX12_choice 56 = .ok (.istore_n 3, 1) := by decide +kernel
theorem dX12_choice_57 : decode cX12_choice 57 = .ok (.aload_n 0, 1) := by decide +kernel
theorem dX12_choice_58 : decode cX12_choice 58 = .ok (.aload_n 0, 1) := by decide +kernel
theorem dX12_choice_59 : decode cX12_choice 59 = .ok (.getfield 116, 3) := by decide +kernel
theorem dX12_choice_62 : decode cX12_choice 62 = .ok (.invokevirtual 554, 3) := by decide +kernel
theorem dX12_choice_65 : decode cX12_choice 65 = .ok (.aload_n 0, 1) := by decide +kernel
theorem dX12_choice_66 : decode cX12_choice 66 = .ok (.dup, 1) := by decide +kernel
theorem dX12_choice_67 : decode cX12_choice 67 = .ok (.getfield 116, 3) := by decide +kernel
theorem dX12_choice_70 : decode cX12_choice 70 = .ok (.iconst 1, 1) := by decide +kernel
theorem dX12_choice_71 : decode cX12_choice 71 = .ok (.iadd, 1) := by decide +kernel
theorem dX12_choice_72 : decode cX12_choice 72 = .ok (.putfield 116, 3) := by decide +kernel
theorem dX12_choice_75 : decode cX12_choice 75 = .ok (.aload_n 0, 1) := by decide +kernel
theorem dX12_choice_76 : decode cX12_choice 76 = .ok (.iload_n 2, 1) := by decide +kernel
theorem dX12_choice_77 : decode cX12_choice 77 = .ok (.ifCond .eq 8, 3) := by decide +kernel
theorem dX12_choice_80 : decode cX12_choice 80 = .ok (.bipush 15, 2) := by decide +kernel
theorem dX12_choice_82 : decode cX12_choice 82 = .ok (.goto 5, 3) := by decide +kernel
theorem dX12_choice_85 : decode cX12_choice 85 = .ok (.bipush 13, 2) := by decide +kernel
theorem dX12_choice_87 : decode cX12_choice 87 = .ok (.iconst 0, 1) := by decide +kernel
theorem dX12_choice_88 : decode cX12_choice 88 = .ok (.aload_n 0, 1) := by decide +kernel
theorem dX12_choice_89 : decode cX12_choice 89 = .ok (.getfield 86, 3) := by decide +kernel
theorem dX12_choice_92 : decode cX12_choice 92 = .ok (.iload_n 3, 1) := by decide +kernel
theorem dX12_choice_93 : decode cX12_choice 93 = .ok (.iaload, 1) := by decide +kernel
theorem dX12_choice_94 : decode cX12_choice 94 = .ok (.invokevirtual 557, 3) := by decide +kernel
theorem dX12_choice_97 : decode cX12_choice 97 = .ok (.istore 4, 2) := by decide +kernel
theorem dX12_choice_99 : decode cX12_choice 99 = .ok (.iload_n 2, 1) := by decide +kernel
theorem dX12_choice_100 : decode cX12_choice 100 = .ok (.ifCond .eq 16, 3) := by decide +kernel
theorem dX12_choice_103 : decode cX12_choice 103 = .ok (.aload_n 0, 1) := by decide +kernel
theorem dX12_choice_104 : decode cX12_choice 104 = .ok (.sipush 166, 3) := by decide +kernel
theorem dX12_choice_107 : decode cX12_choice 107 = .ok (.invokevirtual 548, 3) := by decide +kernel
theorem dX12_choice_110 : decode cX12_choice 110 = .ok (.ifCond .eq 13, 3) := by decide +kernel
theorem dX12_choice_113 : decode cX12_choice 113 = .ok (.goto 12, 3) := by decide +kernel
theorem dX12_choice_116 : decode cX12_choice 116 = .ok (.aload_n 0, 1) := by decide +kernel
theorem dX12_choice_117 : decode cX12_choice 117 = .ok (.invokevirtual 567, 3) := by decide +kernel
theorem dX12_choice_120 : decode cX12_choice 120 = .ok (.ifCond .ne 5, 3) := by decide +kernel
theorem dX12_choice_123 : decode cX12_choice 123 = .ok (.iconst 0, 1) := by decide +kernel
theorem dX12_choice_124 : decode cX12_choice 124 = .ok (.ireturn, 1) := by decide +kernel
theorem dX12_choice_125 : decode cX12_choice 125 = .ok (.aload_n 0, 1) := by decide +kernel
theorem dX12_choice_126 : decode cX12_choice 126 = .ok (.iload_n 2, 1) := by decide +kernel
theorem dX12_choice_127 : decode cX12_choice 127 = .ok (.ifCond .eq 8, 3) := by decide +kernel
theorem dX12_choice_130 : decode cX12_choice 130 = .ok (.bipush 16, 2) := by decide +kernel
theorem dX12_choice_132 : decode cX12_choice 132 = .ok (.goto 5, 3) := by decide +kernel
theorem dX12_choice_135 : decode cX12_choice 135 = .ok (.bipush 14, 2) := by decide +kernel
theorem dX12_choice_137 : decode cX12_choice 137 = .ok (.iconst 0, 1) := by decide +kernel
theorem dX12_choice_138 : decode cX12_choice 138 = .ok (.aload_n 0, 1) := by decide +kernel
theorem dX12_choice_139 : decode cX12_choice 139 = .ok (.getfield 86, 3) := by decide +kernel
theorem dX12_choice_142 : decode cX12_choice 142 = .ok (.iload_n 3, 1) := by decide +kernel
theorem dX12_choice_143 : decode cX12_choice 143 = .ok (.iaload, 1) := by decide +kernel
theorem dX12_choice_144 : decode cX12_choice 144 = .ok (.invokevirtual 557, 3) := by decide +kernel
theorem dX12_choice_147 : decode cX12_choice 147 = .ok (.pop, 1) := by decide +kernel
theorem dX12_choice_148 : decode cX12_choice 148 = .ok (.aload_n 0, 1) := by decide +kernel
theorem dX12_choice_149 : decode cX12_choice 149 = .ok (.getfield 101, 3) := by decide +kernel
theorem dX12_choice_152 : decode cX12_choice 152 = .ok (.iload 4, 2) := by decide +kernel
theorem dX12_choice_154 : decode cX12_choice 154 = .ok (.aload_n 0, 1) := by decide +kernel
theorem dX12_choice_155 : decode cX12_choice 155 = .ok (.getfield 113, 3) := by decide +kernel
theorem dX12_choice_158 : decode cX12_choice 158 = .ok (.iastore, 1) := by decide +kernel
theorem dX12_choice_159 : decode cX12_choice 159 = .ok (.goto (-120), 3) := by decide +kernel
theorem dX12_choice_162 : decode cX12_choice 162 = .ok (.iconst 1, 1) := by decide +kernel
theorem dX12_choice_163 : decode cX12_choice 163 = .ok (.ireturn, 1) := by decide +kernel
def b_X12_choice_137 (n : Nat) (rc : RCT) (rec : (Gs → Int32 → Int32 → Option (Int32 × Gs))) (gT : Gs) (v1 : Int32) (v2 : Int32) (v3 : Int32) (v4 : Int32) (s0 : Int32) : Option (Int32 × Gs) :=
  grd (inB v3 3001) (bnd (f_X12_act gT s0 (0 : Int32) (gIA gT 10 v3.toNatClampNeg)) (fun q_12 => grd (inB v4 8000) (rec (sIA q_12.2 15 (upd (gIA q_12.2 15) v4.toNatClampNeg (gI q_12.2 19))) v1 v2)))
def b_X12_choice_125 (n : Nat) (rc : RCT) (rec : (Gs → Int32 → Int32 → Option (Int32 × Gs))) (gT : Gs) (v1 : Int32) (v2 : Int32) (v3 : Int32) (v4 : Int32) : Option (Int32 × Gs) :=
  if v2 = 0 then (b_X12_choice_137 n rc rec gT v1 v2 v3 v4 (14 : Int32)) else (b_X12_choice_137 n rc rec gT v1 v2 v3 v4 (16 : Int32))
def b_X12_choice_87 (n : Nat) (rc : RCT) (rec : (Gs → Int32 → Int32 → Option (Int32 × Gs))) (gT : Gs) (v1 : Int32) (v2 : Int32) (v3 : Int32) (s0 : Int32) : Option (Int32 × Gs) :=
  grd (inB v3 3001) (bnd (f_X12_act gT s0 (0 : Int32) (gIA gT 10 v3.toNatClampNeg)) (fun q_7 => if v2 = 0 then (bnd (rc.2.2.2.2.2.2.1 q_7.2) (fun q_9 => if q_9.1 = 0 then (some ((0 : Int32), q_9.2)) else (b_X12_choice_125 n rc rec q_9.2 v1 v2 v3 q_7.1))) else (bnd (rc.2.2.2.2.2.2.2.1 q_7.2 (166 : Int32)) (fun q_15 => if q_15.1 = 0 then (some ((0 : Int32), q_15.2)) else (b_X12_choice_125 n rc rec q_15.2 v1 v2 v3 q_7.1)))))
def h_X12_choice_39 (n : Nat) (rc : RCT) (rec : (Gs → Int32 → Int32 → Option (Int32 × Gs))) (gT : Gs) (v1 : Int32) (v2 : Int32) : Option (Int32 × Gs) :=
  grd (inB (gI gT 20) 3001) (if (gIA gT 9 (gI gT 20).toNatClampNeg) = v1 then (bnd (f_X12_node gT (gI gT 20)) (fun q_4 => if v2 = 0 then (b_X12_choice_87 n rc rec (sI q_4 20 ((gI q_4 20) + (1 : Int32))) v1 v2 (gI gT 20) (13 : Int32)) else (b_X12_choice_87 n rc rec (sI q_4 20 ((gI q_4 20) + (1 : Int32))) v1 v2 (gI gT 20) (15 : Int32)))) else (some ((1 : Int32), gT)))
def b_X12_choice_12 (n : Nat) (rc : RCT) (rec : (Gs → Int32 → Int32 → Option (Int32 × Gs))) (gT : Gs) (v1 : Int32) (s0 : Int32) : Option (Int32 × Gs) :=
  if s0 = 0 then (bnd (rc.2.2.2.2.2.2.1 gT) (fun q_1 => if q_1.1 = 0 then (some ((0 : Int32), q_1.2)) else (rec q_1.2 v1 s0))) else (bnd (rc.2.2.2.2.2.2.2.1 gT (166 : Int32)) (fun q_17 => if q_17.1 = 0 then (some ((0 : Int32), q_17.2)) else (rec q_17.2 v1 s0)))
def L_X12_choice (n : Nat) (rc : RCT) : Nat → (Gs → Int32 → Int32 → Option (Int32 × Gs))
  | 0 => ((fun _ _ _ => none))
  | k + 1 => (h_X12_choice_39 n rc (L_X12_choice n rc k))
def f_X12_choice (n : Nat) (rc : RCT) (gT : Gs) (x0 : Int32) : Option (Int32 × Gs) :=
  if x0 = (252 : Int32) then (b_X12_choice_12 n rc (L_X12_choice n rc n) gT x0 (1 : Int32)) else (b_X12_choice_12 n rc (L_X12_choice n rc n) gT x0 (0 : Int32))
def S_X12_choice_137 (l : Launch) (D : Dx) (hT : Nat) (aT : Nat → Nat) (yT : Nat → ClassId) (d : Nat) (fn : Gs → Int32 → Int32 → Int32 → Int32 → Int32 → Option (Int32 × Gs)) : Prop :=
  ∀ {p : Program} {e : Env} {s : State} {m : MethodId} {args : Array Value} {below : List Frame} {meth : Method} {c : Code} {H : Heap} {locs : List Loc} {A : Nat → Prop} {ls : Array Slot} {gT : Gs} {v1 : Int32} {v2 : Int32} {v3 : Int32} {v4 : Int32} {s0 : Int32} {q : Int32 × Gs}, Cx p s m args meth c cX12_choice (some .boolean) 5 RX12 lw_all → Hx D (tX12 yT) A s H locs (wX12 hT aT yT gT) → lv_has ls 5 [(0, .ref hT), (1, .int v1), (2, .int v2), (3, .int v3), (4, .int v4)] → fn gT v1 v2 v3 v4 s0 = some q → W p l e (RMd (d + 1)) s m args below meth c H locs 0 0 (MQ below (QI D A (wX12 hT aT yT q.2) q.1) args s 0 0 A) (F0 m 137 ls [.int s0, .ref hT])
def S_X12_choice_125 (l : Launch) (D : Dx) (hT : Nat) (aT : Nat → Nat) (yT : Nat → ClassId) (d : Nat) (fn : Gs → Int32 → Int32 → Int32 → Int32 → Option (Int32 × Gs)) : Prop :=
  ∀ {p : Program} {e : Env} {s : State} {m : MethodId} {args : Array Value} {below : List Frame} {meth : Method} {c : Code} {H : Heap} {locs : List Loc} {A : Nat → Prop} {ls : Array Slot} {gT : Gs} {v1 : Int32} {v2 : Int32} {v3 : Int32} {v4 : Int32} {q : Int32 × Gs}, Cx p s m args meth c cX12_choice (some .boolean) 5 RX12 lw_all → Hx D (tX12 yT) A s H locs (wX12 hT aT yT gT) → lv_has ls 5 [(0, .ref hT), (1, .int v1), (2, .int v2), (3, .int v3), (4, .int v4)] → fn gT v1 v2 v3 v4 = some q → W p l e (RMd (d + 1)) s m args below meth c H locs 0 0 (MQ below (QI D A (wX12 hT aT yT q.2) q.1) args s 0 0 A) (F0 m 125 ls [])
def S_X12_choice_87 (l : Launch) (D : Dx) (hT : Nat) (aT : Nat → Nat) (yT : Nat → ClassId) (d : Nat) (fn : Gs → Int32 → Int32 → Int32 → Int32 → Option (Int32 × Gs)) : Prop :=
  ∀ {p : Program} {e : Env} {s : State} {m : MethodId} {args : Array Value} {below : List Frame} {meth : Method} {c : Code} {H : Heap} {locs : List Loc} {A : Nat → Prop} {ls : Array Slot} {gT : Gs} {v1 : Int32} {v2 : Int32} {v3 : Int32} {s0 : Int32} {q : Int32 × Gs}, Cx p s m args meth c cX12_choice (some .boolean) 5 RX12 lw_all → Hx D (tX12 yT) A s H locs (wX12 hT aT yT gT) → lv_has ls 5 [(0, .ref hT), (1, .int v1), (2, .int v2), (3, .int v3)] → fn gT v1 v2 v3 s0 = some q → W p l e (RMd (d + 1)) s m args below meth c H locs 0 0 (MQ below (QI D A (wX12 hT aT yT q.2) q.1) args s 0 0 A) (F0 m 87 ls [.int s0, .ref hT])
def S_X12_choice_39 (l : Launch) (D : Dx) (hT : Nat) (aT : Nat → Nat) (yT : Nat → ClassId) (d : Nat) (fn : Gs → Int32 → Int32 → Option (Int32 × Gs)) : Prop :=
  ∀ {p : Program} {e : Env} {s : State} {m : MethodId} {args : Array Value} {below : List Frame} {meth : Method} {c : Code} {H : Heap} {locs : List Loc} {A : Nat → Prop} {ls : Array Slot} {gT : Gs} {v1 : Int32} {v2 : Int32} {q : Int32 × Gs}, Cx p s m args meth c cX12_choice (some .boolean) 5 RX12 lw_all → Hx D (tX12 yT) A s H locs (wX12 hT aT yT gT) → lv_has ls 5 [(0, .ref hT), (1, .int v1), (2, .int v2)] → fn gT v1 v2 = some q → W p l e (RMd (d + 1)) s m args below meth c H locs 0 0 (MQ below (QI D A (wX12 hT aT yT q.2) q.1) args s 0 0 A) (F0 m 39 ls [])
def S_X12_choice_12 (l : Launch) (D : Dx) (hT : Nat) (aT : Nat → Nat) (yT : Nat → ClassId) (d : Nat) (fn : Gs → Int32 → Int32 → Option (Int32 × Gs)) : Prop :=
  ∀ {p : Program} {e : Env} {s : State} {m : MethodId} {args : Array Value} {below : List Frame} {meth : Method} {c : Code} {H : Heap} {locs : List Loc} {A : Nat → Prop} {ls : Array Slot} {gT : Gs} {v1 : Int32} {s0 : Int32} {q : Int32 × Gs}, Cx p s m args meth c cX12_choice (some .boolean) 5 RX12 lw_all → Hx D (tX12 yT) A s H locs (wX12 hT aT yT gT) → lv_has ls 5 [(0, .ref hT), (1, .int v1)] → fn gT v1 s0 = some q → W p l e (RMd (d + 1)) s m args below meth c H locs 0 0 (MQ below (QI D A (wX12 hT aT yT q.2) q.1) args s 0 0 A) (F0 m 12 ls [.int s0])
def SH_X12_choice (l : Launch) (D : Dx) (hT : Nat) (aT : Nat → Nat) (yT : Nat → ClassId) (d : Nat) (rec : (Gs → Int32 → Int32 → Option (Int32 × Gs))) : Prop := S_X12_choice_39 l D hT aT yT d rec
set_option maxHeartbeats 4000000 in
set_option maxRecDepth 100000 in
theorem k_X12_choice_137 (l : Launch) (D : Dx) (hT : Nat) (aT : Nat → Nat) (yT : Nat → ClassId) (n : Nat) (rc : RCT) (d : Nat) (IR : SRC l D hT aT yT d rc) (rec : (Gs → Int32 → Int32 → Option (Int32 × Gs))) (IH : SH_X12_choice l D hT aT yT d rec) : S_X12_choice_137 l D hT aT yT d (b_X12_choice_137 n rc rec) := by
  intro p e s m args below meth c H locs A ls gT v1 v2 v3 v4 s0 q C X hl hF
  obtain ⟨hx, hb, hr, hml, hown, hts, hlk⟩ := id C
  unfold b_X12_choice_137 at hF
  refine lv_iconst (v := (0 : Int32)) hx hb dX12_choice_137 (by decide) ?_
  refine lv_aload_n hx hb dX12_choice_138 rfl (lv_at hl 0 rfl) ?_
  refine va_get (D := D.1) (ci := 12) (v := .ref (aT 10)) (C := RX12) (T := TX12) (N := 114) hx hb hts wi_X12 hown X.1 X.2.1 0 rfl rfl 10 (by decide) (hts _ q6_204) (fun _ h9 => h9) (fl_get (by decide)) dX12_choice_139 ?_
  refine lv_iload_n hx hb dX12_choice_142 rfl (lv_at hl 3 rfl) ?_
  obtain ⟨h_11, hF⟩ := grd_some hF
  refine va_iald (D := D.1) (f := gIA gT 10) hx hb X.1 X.2.1 5 4 rfl rfl (inB_ok h_11) dX12_choice_143 ?_
  obtain ⟨q_12, hc_13, hF⟩ := bnd_some hF
  refine cV_i (As := [.int s0, .int (0 : Int32), .int (gIA gT 10 v3.toNatClampNeg)]) (rest := []) C X (c_X12_act l D hT aT yT gT s0 (0 : Int32) (gIA gT 10 v3.toNatClampNeg) q_12 hc_13 _) (cwV 3 hts (good_V q8_236 q8_238 q0_93 q1_9 q8_239) rfl rfl rfl (by decide +kernel) ⟨rmf (by decide), rml (by decide)⟩) (va_recv X.1 X.2.1 (ci := 12) (q0 := 0) rfl rfl) X.1 X.2.1 X.2.2.1 (free_all X) hl.1 rfl rfl (Nat.le_of_ble_eq_true rfl) dX12_choice_144 ⟨Nat.le_of_ble_eq_true rfl, Nat.le_of_ble_eq_true rfl⟩ (fun t H1 locs1 ht hB hk hS => ?_)
  have X : Hx D (tX12 yT) A s H1 locs1 (wX12 hT aT yT q_12.2) := Hx_after_all X ht hB hS
  clear hk hS ht hB
  generalize H1 = H at X ⊢
  generalize locs1 = locs at X ⊢
  refine lv_pop hx hb dX12_choice_147 rfl ?_
  refine lv_aload_n hx hb dX12_choice_148 rfl (lv_at hl 0 rfl) ?_
  refine va_get (D := D.1) (ci := 12) (v := .ref (aT 15)) (C := RX12) (T := TX12) (N := 114) hx hb hts wi_X12 hown X.1 X.2.1 0 rfl rfl 15 (by decide) (hts _ q6_209) (fun _ h9 => h9) (fl_get (by decide)) dX12_choice_149 ?_
  refine lv_iload hx hb dX12_choice_152 (lv_at hl 4 rfl) ?_
  refine lv_aload_n hx hb dX12_choice_154 rfl (lv_at hl 0 rfl) ?_
  refine va_get (D := D.1) (ci := 12) (v := .int (gI q_12.2 19)) (C := RX12) (T := TX12) (N := 114) hx hb hts wi_X12 hown X.1 X.2.1 0 rfl rfl 19 (by decide) (hts _ q6_213) (fun _ h9 => h9) (fl_get (by decide)) dX12_choice_155 ?_
  obtain ⟨h_14, hF⟩ := grd_some hF
  refine va_iast (D := D.1) (f := gIA q_12.2 15) hx hb X.1 X.2.1 X.2.2.1 X.2.2.2.1 10 9 rfl rfl (inB_ok h_14) dX12_choice_158 (fun H locs hP hD hS => ?_)
  have X : Hx D (tX12 yT) A s H locs (wX12 hT aT yT (sIA q_12.2 15 (upd (gIA q_12.2 15) v4.toNatClampNeg (gI q_12.2 19)))) := Hx_set X (wG_sIA (i := 9) (k := 15) ndX12 rfl rfl) hP hD hS
  refine lv_goto (tgt := 39) hx hb dX12_choice_159 (by decide) ?_
  exact IH C X (lv_sub hl [0, 1, 2] rfl) hF
set_option maxHeartbeats 4000000 in
set_option maxRecDepth 100000 in
theorem k_X12_choice_125 (l : Launch) (D : Dx) (hT : Nat) (aT : Nat → Nat) (yT : Nat → ClassId) (n : Nat) (rc : RCT) (d : Nat) (IR : SRC l D hT aT yT d rc) (rec : (Gs → Int32 → Int32 → Option (Int32 × Gs))) (IH : SH_X12_choice l D hT aT yT d rec) : S_X12_choice_125 l D hT aT yT d (b_X12_choice_125 n rc rec) := by
  intro p e s m args below meth c H locs A ls gT v1 v2 v3 v4 q C X hl hF
  obtain ⟨hx, hb, hr, hml, hown, hts, hlk⟩ := id C
  unfold b_X12_choice_125 at hF
  refine lv_aload_n hx hb dX12_choice_125 rfl (lv_at hl 0 rfl) ?_
  refine lv_iload_n hx hb dX12_choice_126 rfl (lv_at hl 2 rfl) ?_
  refine lv_if_eq (tgt := 135) hx hb dX12_choice_127 (by decide) (fun c => ?_) (fun c => ?_)
  · replace hF := iT c hF
    refine lv_bipush (v := (14 : Int32)) hx hb dX12_choice_135 (by decide) ?_
    exact (k_X12_choice_137 l D hT aT yT n rc d IR rec IH) C X (lv_sub hl [0, 1, 2, 3, 4] rfl) hF
  · replace hF := iF c hF
    refine lv_bipush (v := (16 : Int32)) hx hb dX12_choice_130 (by decide) ?_
    refine lv_goto (tgt := 137) hx hb dX12_choice_132 (by decide) ?_
    exact (k_X12_choice_137 l D hT aT yT n rc d IR rec IH) C X (lv_sub hl [0, 1, 2, 3, 4] rfl) hF
set_option maxHeartbeats 4000000 in
set_option maxRecDepth 100000 in
theorem k_X12_choice_87 (l : Launch) (D : Dx) (hT : Nat) (aT : Nat → Nat) (yT : Nat → ClassId) (n : Nat) (rc : RCT) (d : Nat) (IR : SRC l D hT aT yT d rc) (rec : (Gs → Int32 → Int32 → Option (Int32 × Gs))) (IH : SH_X12_choice l D hT aT yT d rec) : S_X12_choice_87 l D hT aT yT d (b_X12_choice_87 n rc rec) := by
  intro p e s m args below meth c H locs A ls gT v1 v2 v3 s0 q C X hl hF
  obtain ⟨hx, hb, hr, hml, hown, hts, hlk⟩ := id C
  unfold b_X12_choice_87 at hF
  refine lv_iconst (v := (0 : Int32)) hx hb dX12_choice_87 (by decide) ?_
  refine lv_aload_n hx hb dX12_choice_88 rfl (lv_at hl 0 rfl) ?_
  refine va_get (D := D.1) (ci := 12) (v := .ref (aT 10)) (C := RX12) (T := TX12) (N := 114) hx hb hts wi_X12 hown X.1 X.2.1 0 rfl rfl 10 (by decide) (hts _ q6_204) (fun _ h9 => h9) (fl_get (by decide)) dX12_choice_89 ?_
  refine lv_iload_n hx hb dX12_choice_92 rfl (lv_at hl 3 rfl) ?_
  obtain ⟨h_6, hF⟩ := grd_some hF
  refine va_iald (D := D.1) (f := gIA gT 10) hx hb X.1 X.2.1 5 4 rfl rfl (inB_ok h_6) dX12_choice_93 ?_
  obtain ⟨q_7, hc_8, hF⟩ := bnd_some hF
  refine cV_i (As := [.int s0, .int (0 : Int32), .int (gIA gT 10 v3.toNatClampNeg)]) (rest := []) C X (c_X12_act l D hT aT yT gT s0 (0 : Int32) (gIA gT 10 v3.toNatClampNeg) q_7 hc_8 _) (cwV 3 hts (good_V q8_236 q8_238 q0_93 q1_9 q8_239) rfl rfl rfl (by decide +kernel) ⟨rmf (by decide), rml (by decide)⟩) (va_recv X.1 X.2.1 (ci := 12) (q0 := 0) rfl rfl) X.1 X.2.1 X.2.2.1 (free_all X) hl.1 rfl rfl (Nat.le_of_ble_eq_true rfl) dX12_choice_94 ⟨Nat.le_of_ble_eq_true rfl, Nat.le_of_ble_eq_true rfl⟩ (fun t H1 locs1 ht hB hk hS => ?_)
  have X : Hx D (tX12 yT) A s H1 locs1 (wX12 hT aT yT q_7.2) := Hx_after_all X ht hB hS
  clear hk hS ht hB
  generalize H1 = H at X ⊢
  generalize locs1 = locs at X ⊢
  refine lv_istore (lv' := [(4, .int q_7.1), (0, .ref hT), (1, .int v1), (2, .int v2), (3, .int v3)]) hx hb dX12_choice_97 hl (by decide) rfl (fun ls hl => ?_)
  refine lv_iload_n hx hb dX12_choice_99 rfl (lv_at hl 3 rfl) ?_
  refine lv_if_eq (tgt := 116) hx hb dX12_choice_100 (by decide) (fun c => ?_) (fun c => ?_)
  · replace hF := iT c hF
    refine lv_aload_n hx hb dX12_choice_116 rfl (lv_at hl 1 rfl) ?_
    obtain ⟨q_9, hc_10, hF⟩ := bnd_some hF
    refine cV_i (As := []) (rest := []) C X (IR.2.2.2.2.2.2.1 q_7.2 q_9 hc_10 _) (cwV 0 hts (good_V q8_204 q8_206 q0_85 q1_9 q8_207) rfl rfl rfl (by decide +kernel) ⟨rgf, rgl (by decide)⟩) (va_recv X.1 X.2.1 (ci := 12) (q0 := 0) rfl rfl) X.1 X.2.1 X.2.2.1 (free_all X) hl.1 rfl rfl (Nat.le_of_ble_eq_true rfl) dX12_choice_117 ⟨Nat.le_of_ble_eq_true rfl, Nat.le_of_ble_eq_true rfl⟩ (fun t H1 locs1 ht hB hk hS => ?_)
    have X : Hx D (tX12 yT) A s H1 locs1 (wX12 hT aT yT q_9.2) := Hx_after_all X ht hB hS
    clear hk hS ht hB
    generalize H1 = H at X ⊢
    generalize locs1 = locs at X ⊢
    refine lv_if_ne (tgt := 125) hx hb dX12_choice_120 (by decide) (fun c => ?_) (fun c => ?_)
    · replace hF := iF c hF
      exact (k_X12_choice_125 l D hT aT yT n rc d IR rec IH) C X (lv_sub hl [1, 2, 3, 4, 0] rfl) hF
    · replace hF := iT c hF
      refine lv_iconst (v := (0 : Int32)) hx hb dX12_choice_123 (by decide) ?_
      have hq := Option.some.inj hF
      subst hq
      exact rt_z (v := (0 : Int32)) C X (by decide) dX12_choice_124
  · replace hF := iF c hF
    refine lv_aload_n hx hb dX12_choice_103 rfl (lv_at hl 1 rfl) ?_
    refine lv_sipush (v := (166 : Int32)) hx hb dX12_choice_104 (by decide) ?_
    obtain ⟨q_15, hc_16, hF⟩ := bnd_some hF
    refine cV_i (As := [.int (166 : Int32)]) (rest := []) C X (IR.2.2.2.2.2.2.2.1 q_7.2 (166 : Int32) q_15 hc_16 _) (cwV 1 hts (good_V q8_200 q8_202 q0_84 q1_9 q8_203) rfl rfl rfl (by decide +kernel) ⟨rgf, rgl (by decide)⟩) (va_recv X.1 X.2.1 (ci := 12) (q0 := 0) rfl rfl) X.1 X.2.1 X.2.2.1 (free_all X) hl.1 rfl rfl (Nat.le_of_ble_eq_true rfl) dX12_choice_107 ⟨Nat.le_of_ble_eq_true rfl, Nat.le_of_ble_eq_true rfl⟩ (fun t H1 locs1 ht hB hk hS => ?_)
    have X : Hx D (tX12 yT) A s H1 locs1 (wX12 hT aT yT q_15.2) := Hx_after_all X ht hB hS
    clear hk hS ht hB
    generalize H1 = H at X ⊢
    generalize locs1 = locs at X ⊢
    refine lv_if_eq (tgt := 123) hx hb dX12_choice_110 (by decide) (fun c => ?_) (fun c => ?_)
    · replace hF := iT c hF
      refine lv_iconst (v := (0 : Int32)) hx hb dX12_choice_123 (by decide) ?_
      have hq := Option.some.inj hF
      subst hq
      exact rt_z (v := (0 : Int32)) C X (by decide) dX12_choice_124
    · replace hF := iF c hF
      refine lv_goto (tgt := 125) hx hb dX12_choice_113 (by decide) ?_
      exact (k_X12_choice_125 l D hT aT yT n rc d IR rec IH) C X (lv_sub hl [1, 2, 3, 4, 0] rfl) hF
set_option maxHeartbeats 4000000 in
set_option maxRecDepth 100000 in
theorem k_X12_choice_39 (l : Launch) (D : Dx) (hT : Nat) (aT : Nat → Nat) (yT : Nat → ClassId) (n : Nat) (rc : RCT) (d : Nat) (IR : SRC l D hT aT yT d rc) (rec : (Gs → Int32 → Int32 → Option (Int32 × Gs))) (IH : SH_X12_choice l D hT aT yT d rec) : S_X12_choice_39 l D hT aT yT d (h_X12_choice_39 n rc rec) := by
  intro p e s m args below meth c H locs A ls gT v1 v2 q C X hl hF
  obtain ⟨hx, hb, hr, hml, hown, hts, hlk⟩ := id C
  unfold h_X12_choice_39 at hF
  refine lv_aload_n hx hb dX12_choice_39 rfl (lv_at hl 0 rfl) ?_
  refine va_get (D := D.1) (ci := 12) (v := .ref (aT 9)) (C := RX12) (T := TX12) (N := 114) hx hb hts wi_X12 hown X.1 X.2.1 0 rfl rfl 9 (by decide) (hts _ q6_203) (fun _ h9 => h9) (fl_get (by decide)) dX12_choice_40 ?_
  refine lv_aload_n hx hb dX12_choice_43 rfl (lv_at hl 0 rfl) ?_
  refine va_get (D := D.1) (ci := 12) (v := .int (gI gT 20)) (C := RX12) (T := TX12) (N := 114) hx hb hts wi_X12 hown X.1 X.2.1 0 rfl rfl 20 (by decide) (hts _ q6_214) (fun _ h9 => h9) (fl_get (by decide)) dX12_choice_44 ?_
  obtain ⟨h_3, hF⟩ := grd_some hF
  refine va_iald (D := D.1) (f := gIA gT 9) hx hb X.1 X.2.1 4 3 rfl rfl (inB_ok h_3) dX12_choice_47 ?_
  refine lv_iload_n hx hb dX12_choice_48 rfl (lv_at hl 1 rfl) ?_
  refine lv_icmp_ne (tgt := 162) hx hb dX12_choice_49 (by decide) (fun c => ?_) (fun c => ?_)
  · replace hF := iF c hF
    refine lv_iconst (v := (1 : Int32)) hx hb dX12_choice_162 (by decide) ?_
    have hq := Option.some.inj hF
    subst hq
    exact rt_z (v := (1 : Int32)) C X (by decide) dX12_choice_163
  · replace hF := iT c hF
    refine lv_aload_n hx hb dX12_choice_52 rfl (lv_at hl 0 rfl) ?_
    refine va_get (D := D.1) (ci := 12) (v := .int (gI gT 20)) (C := RX12) (T := TX12) (N := 114) hx hb hts wi_X12 hown X.1 X.2.1 0 rfl rfl 20 (by decide) (hts _ q6_214) (fun _ h9 => h9) (fl_get (by decide)) dX12_choice_53 ?_
    refine lv_istore_n (lv' := [(3, .int (gI gT 20)), (0, .ref hT), (1, .int v1), (2, .int v2)]) hx hb dX12_choice_56 rfl hl (by decide) rfl (fun ls hl => ?_)
    refine lv_aload_n hx hb dX12_choice_57 rfl (lv_at hl 1 rfl) ?_
    refine lv_aload_n hx hb dX12_choice_58 rfl (lv_at hl 1 rfl) ?_
    refine va_get (D := D.1) (ci := 12) (v := .int (gI gT 20)) (C := RX12) (T := TX12) (N := 114) hx hb hts wi_X12 hown X.1 X.2.1 0 rfl rfl 20 (by decide) (hts _ q6_214) (fun _ h9 => h9) (fl_get (by decide)) dX12_choice_59 ?_
    obtain ⟨q_4, hc_5, hF⟩ := bnd_some hF
    refine cV_v (As := [.int (gI gT 20)]) (rest := []) C X (c_X12_node l D hT aT yT gT (gI gT 20) q_4 hc_5 _) (cwV 1 hts (good_V q8_232 q8_234 q0_92 q1_9 q8_235) rfl rfl rfl (by decide +kernel) ⟨rmf (by decide), rml (by decide)⟩) (va_recv X.1 X.2.1 (ci := 12) (q0 := 0) rfl rfl) X.1 X.2.1 X.2.2.1 (free_all X) hl.1 rfl rfl (Nat.le_of_ble_eq_true rfl) dX12_choice_62 ⟨Nat.le_of_ble_eq_true rfl, Nat.le_of_ble_eq_true rfl⟩ (fun t H1 locs1 ht hB hk hS => ?_)
    have X : Hx D (tX12 yT) A s H1 locs1 (wX12 hT aT yT q_4) := Hx_after_all X ht hB hS
    clear hk hS ht hB
    generalize H1 = H at X ⊢
    generalize locs1 = locs at X ⊢
    refine lv_aload_n hx hb dX12_choice_65 rfl (lv_at hl 1 rfl) ?_
    refine lv_dup hx hb dX12_choice_66 rfl ?_
    refine va_get (D := D.1) (ci := 12) (v := .int (gI q_4 20)) (C := RX12) (T := TX12) (N := 114) hx hb hts wi_X12 hown X.1 X.2.1 0 rfl rfl 20 (by decide) (hts _ q6_214) (fun _ h9 => h9) (fl_get (by decide)) dX12_choice_67 ?_
    refine lv_iconst (v := (1 : Int32)) hx hb dX12_choice_70 (by decide) ?_
    refine lv_iadd hx hb dX12_choice_71 ?_
    refine va_put (D := D.1) (ci := 12) (v := .int ((gI q_4 20) + (1 : Int32))) (ty := .int) (C := RX12) (T := TX12) (N := 114) hx hb hts wi_X12 tyX12 tyX12_ok nmX12 hown X.1 X.2.1 X.2.2.1 X.2.2.2.1 0 rfl rfl 20 (by decide) (hts _ q6_214) (fun _ h9 => h9) rfl (by decide +kernel) rfl rfl (by rw [List.length_map, List.length_range]; decide) dX12_choice_72 (fun H locs hP hD hS => ?_)
    have X : Hx D (tX12 yT) A s H locs (wX12 hT aT yT (sI q_4 20 ((gI q_4 20) + (1 : Int32)))) := Hx_set X (wG_sI (k := 20) rfl) hP hD hS
    refine lv_aload_n hx hb dX12_choice_75 rfl (lv_at hl 1 rfl) ?_
    refine lv_iload_n hx hb dX12_choice_76 rfl (lv_at hl 3 rfl) ?_
    refine lv_if_eq (tgt := 85) hx hb dX12_choice_77 (by decide) (fun c => ?_) (fun c => ?_)
    · replace hF := iT c hF
      refine lv_bipush (v := (13 : Int32)) hx hb dX12_choice_85 (by decide) ?_
      exact (k_X12_choice_87 l D hT aT yT n rc d IR rec IH) C X (lv_sub hl [1, 2, 3, 0] rfl) hF
    · replace hF := iF c hF
      refine lv_bipush (v := (15 : Int32)) hx hb dX12_choice_80 (by decide) ?_
      refine lv_goto (tgt := 87) hx hb dX12_choice_82 (by decide) ?_
      exact (k_X12_choice_87 l D hT aT yT n rc d IR rec IH) C X (lv_sub hl [1, 2, 3, 0] rfl) hF
set_option maxHeartbeats 4000000 in
set_option maxRecDepth 100000 in
theorem k_X12_choice_12 (l : Launch) (D : Dx) (hT : Nat) (aT : Nat → Nat) (yT : Nat → ClassId) (n : Nat) (rc : RCT) (d : Nat) (IR : SRC l D hT aT yT d rc) (rec : (Gs → Int32 → Int32 → Option (Int32 × Gs))) (IH : SH_X12_choice l D hT aT yT d rec) : S_X12_choice_12 l D hT aT yT d (b_X12_choice_12 n rc rec) := by
  intro p e s m args below meth c H locs A ls gT v1 s0 q C X hl hF
  obtain ⟨hx, hb, hr, hml, hown, hts, hlk⟩ := id C
  unfold b_X12_choice_12 at hF
  refine lv_istore_n (lv' := [(2, .int s0), (0, .ref hT), (1, .int v1)]) hx hb dX12_choice_12 rfl hl (by decide) rfl (fun ls hl => ?_)
  refine lv_iload_n hx hb dX12_choice_13 rfl (lv_at hl 0 rfl) ?_
  refine lv_if_eq (tgt := 30) hx hb dX12_choice_14 (by decide) (fun c => ?_) (fun c => ?_)
  · replace hF := iT c hF
    refine lv_aload_n hx hb dX12_choice_30 rfl (lv_at hl 1 rfl) ?_
    obtain ⟨q_1, hc_2, hF⟩ := bnd_some hF
    refine cV_i (As := []) (rest := []) C X (IR.2.2.2.2.2.2.1 gT q_1 hc_2 _) (cwV 0 hts (good_V q8_204 q8_206 q0_85 q1_9 q8_207) rfl rfl rfl (by decide +kernel) ⟨rgf, rgl (by decide)⟩) (va_recv X.1 X.2.1 (ci := 12) (q0 := 0) rfl rfl) X.1 X.2.1 X.2.2.1 (free_all X) hl.1 rfl rfl (Nat.le_of_ble_eq_true rfl) dX12_choice_31 ⟨Nat.le_of_ble_eq_true rfl, Nat.le_of_ble_eq_true rfl⟩ (fun t H1 locs1 ht hB hk hS => ?_)
    have X : Hx D (tX12 yT) A s H1 locs1 (wX12 hT aT yT q_1.2) := Hx_after_all X ht hB hS
    clear hk hS ht hB
    generalize H1 = H at X ⊢
    generalize locs1 = locs at X ⊢
    refine lv_if_ne (tgt := 39) hx hb dX12_choice_34 (by decide) (fun c => ?_) (fun c => ?_)
    · replace hF := iF c hF
      exact IH C X (lv_sub hl [1, 2, 0] rfl) hF
    · replace hF := iT c hF
      refine lv_iconst (v := (0 : Int32)) hx hb dX12_choice_37 (by decide) ?_
      have hq := Option.some.inj hF
      subst hq
      exact rt_z (v := (0 : Int32)) C X (by decide) dX12_choice_38
  · replace hF := iF c hF
    refine lv_aload_n hx hb dX12_choice_17 rfl (lv_at hl 1 rfl) ?_
    refine lv_sipush (v := (166 : Int32)) hx hb dX12_choice_18 (by decide) ?_
    obtain ⟨q_17, hc_18, hF⟩ := bnd_some hF
    refine cV_i (As := [.int (166 : Int32)]) (rest := []) C X (IR.2.2.2.2.2.2.2.1 gT (166 : Int32) q_17 hc_18 _) (cwV 1 hts (good_V q8_200 q8_202 q0_84 q1_9 q8_203) rfl rfl rfl (by decide +kernel) ⟨rgf, rgl (by decide)⟩) (va_recv X.1 X.2.1 (ci := 12) (q0 := 0) rfl rfl) X.1 X.2.1 X.2.2.1 (free_all X) hl.1 rfl rfl (Nat.le_of_ble_eq_true rfl) dX12_choice_21 ⟨Nat.le_of_ble_eq_true rfl, Nat.le_of_ble_eq_true rfl⟩ (fun t H1 locs1 ht hB hk hS => ?_)
    have X : Hx D (tX12 yT) A s H1 locs1 (wX12 hT aT yT q_17.2) := Hx_after_all X ht hB hS
    clear hk hS ht hB
    generalize H1 = H at X ⊢
    generalize locs1 = locs at X ⊢
    refine lv_if_eq (tgt := 37) hx hb dX12_choice_24 (by decide) (fun c => ?_) (fun c => ?_)
    · replace hF := iT c hF
      refine lv_iconst (v := (0 : Int32)) hx hb dX12_choice_37 (by decide) ?_
      have hq := Option.some.inj hF
      subst hq
      exact rt_z (v := (0 : Int32)) C X (by decide) dX12_choice_38
    · replace hF := iF c hF
      refine lv_goto (tgt := 39) hx hb dX12_choice_27 (by decide) ?_
      exact IH C X (lv_sub hl [1, 2, 0] rfl) hF
theorem kL_X12_choice (l : Launch) (D : Dx) (hT : Nat) (aT : Nat → Nat) (yT : Nat → ClassId) (n : Nat) (rc : RCT) (d : Nat) (IR : SRC l D hT aT yT d rc) : ∀ k, SH_X12_choice l D hT aT yT d (L_X12_choice n rc k)
  | 0 => fun _ _ _ h => by cases h
  | k + 1 => k_X12_choice_39 l D hT aT yT n rc d IR _ (kL_X12_choice l D hT aT yT n rc d IR k)
set_option maxHeartbeats 4000000 in
set_option maxRecDepth 100000 in
theorem c_X12_choice (l : Launch) (D : Dx) (hT : Nat) (aT : Nat → Nat) (yT : Nat → ClassId) (n : Nat) (rc : RCT) (d : Nat) (IR : SRC l D hT aT yT d rc) (gT : Gs) (x0 : Int32) (q : Int32 × Gs) (hF : f_X12_choice n rc gT x0 = some q) (sz : Nat) : Met l yX12_choice (ws_ yX12_choice cX12_choice 5 (some .boolean)) (RMd (d + 1)) (PC D (tX12 yT) [.ref hT, .int x0] (wX12 hT aT yT gT) sz) (QI D (va_A (wX12 hT aT yT gT) sz) (wX12 hT aT yT q.2) q.1) 0 0 (va_A (wX12 hT aT yT gT) sz) := by
  refine Met.ofW (cc := cX12_choice) (maxL := 5) (ret := (some .boolean)) (by decide) rfl ?_
  intro p e s m args below meth c s₁ B hml hv
  obtain ⟨rfl, hsz, hP, hK, hD, hN⟩ := hv
  subst hsz
  have C : Cx p s m _ meth c cX12_choice (some .boolean) 5 RX12 lw_all := Cx_of B hml
  have X := Hx_start hP hK hD hN
  obtain ⟨hx, hb, hr, -, hown, hts, hlk⟩ := id C
  generalize va_A (wX12 hT aT yT gT) s.heap.size = A at X ⊢
  have hl := lv_entry ([.ref hT, .int x0]) (n := 5) (Nat.le_of_ble_eq_true rfl)
  rw [lg_entry_eq]
  generalize (lg_sl ([.ref hT, .int x0]) ++ List.replicate (5 - (lg_sl ([.ref hT, .int x0])).length) Slot.unset).toArray = ls at hl ⊢
  have hl : lv_has ls 5 [(0, .ref hT), (1, .int x0)] := hl
  unfold f_X12_choice at hF
  refine lv_iload_n hx hb dX12_choice_0 rfl (lv_at hl 1 rfl) ?_
  refine lv_sipush (v := (252 : Int32)) hx hb dX12_choice_1 (by decide) ?_
  refine lv_icmp_ne (tgt := 11) hx hb dX12_choice_4 (by decide) (fun c => ?_) (fun c => ?_)
  · replace hF := iF c hF
    refine lv_iconst (v := (0 : Int32)) hx hb dX12_choice_11 (by decide) ?_
    exact (k_X12_choice_12 l D hT aT yT n rc d IR (L_X12_choice n rc n) (kL_X12_choice l D hT aT yT n rc d IR n)) C X (lv_sub hl [0, 1] rfl) hF
  · replace hF := iT c hF
    refine lv_iconst (v := (1 : Int32)) hx hb dX12_choice_7 (by decide) ?_
    refine lv_goto (tgt := 12) hx hb dX12_choice_8 (by decide) ?_
    exact (k_X12_choice_12 l D hT aT yT n rc d IR (L_X12_choice n rc n) (kL_X12_choice l D hT aT yT n rc d IR n)) C X (lv_sub hl [0, 1] rfl) hF

/-! ### X12_formula -/
theorem dX12_formula_0 : decode cX12_formula 0 = .ok (.aload_n 0, 1) := by decide +kernel
theorem dX12_formula_1 : decode cX12_formula 1 = .ok (.sipush 252, 3) := by decide +kernel
theorem dX12_formula_4 : decode cX12_formula 4 = .ok (.invokevirtual 548, 3) := by decide +kernel
theorem dX12_formula_7 : decode cX12_formula 7 = .ok (.ifCond .ne 5, 3) := by decide +kernel
theorem dX12_formula_10 : decode cX12_formula 10 = .ok (.iconst 0, 1) := by decide +kernel
theorem dX12_formula_11 : decode cX12_formula 11 = .ok (.ireturn, 1) := by decide +kernel
theorem dX12_formula_12 : decode cX12_formula 12 = .ok (.aload_n 0, 1) := by decide +kernel
theorem dX12_formula_13 : decode cX12_formula 13 = .ok (.getfield 82, 3) := by decide +kernel
theorem dX12_formula_16 : decode cX12_formula 16 = .ok (.aload_n 0, 1) := by decide +kernel
theorem dX12_formula_17 : decode cX12_formula 17 = .ok (.getfield 116, 3) := by decide +kernel
theorem dX12_formula_20 : decode cX12_formula 20 = .ok (.iaload, 1) := by decide +kernel
theorem dX12_formula_21 : decode cX12_formula 21 = .ok (.bipush 63, 2) := by decide +kernel
theorem dX12_formula_23 : decode cX12_formula 23 = .ok (.if_icmp .eq 5, 3) := by decide +kernel
theorem dX12_formula_26 : decode cX12_formula 26 = .ok (.iconst 1, 1) := by decide +kernel
theorem dX12_formula_27 : decode cX12_formula 27 = .ok (.ireturn, 1) := by decide +kernel
theorem dX12_formula_28 : decode cX12_formula 28 = .ok (.aload_n 0, 1) := by decide +kernel
theorem dX12_formula_29 : decode cX12_formula 29 = .ok (.invokevirtual 551, 3) := by decide +kernel
theorem dX12_formula_32 : decode cX12_formula 32 = .ok (.ifCond .ne 5, 3) := by decide +kernel
theorem dX12_formula_35 : decode cX12_formula 35 = .ok (.iconst 0, 1) := by decide +kernel
theorem dX12_formula_36 : decode cX12_formula 36 = .ok (.ireturn, 1) := by decide +kernel
theorem dX12_formula_37 : decode cX12_formula 37 = .ok (.aload_n 0, 1) := by decide +kernel
theorem dX12_formula_38 : decode cX12_formula 38 = .ok (.getfield 116, 3) := by decide +kernel
theorem dX12_formula_41 : decode cX12_formula 41 = .ok (.istore_n 1, 1) := by decide +kernel
theorem dX12_formula_42 : decode cX12_formula 42 = .ok (.aload_n 0, 1) := by decide +kernel
theorem dX12_formula_43 : decode cX12_formula 43 = .ok (.aload_n 0, 1) := by decide +kernel
theorem dX12_formula_44 : decode cX12_formula 44 = .ok (.getfield 116, 3) := by decide +kernel
theorem dX12_formula_47 : decode cX12_formula 47 = .ok (.invokevirtual 554, 3) := by decide +kernel
theorem dX12_formula_50 : decode cX12_formula 50 = .ok (.aload_n 0, 1) := by decide +kernel
theorem dX12_formula_51 : decode cX12_formula 51 = .ok (.dup, 1) := by decide +kernel
theorem dX12_formula_52 : decode cX12_formula 52 = .ok (.getfield 116, 3) := by decide +kernel
theorem dX12_formula_55 : decode cX12_formula 55 = .ok (.iconst 1, 1) := by decide +kernel
theorem dX12_formula_56 : decode cX12_formula 56 = .ok (.iadd, 1) := by decide +kernel
theorem dX12_formula_57 : decode cX12_formula 57 = .ok (.putfield 116, 3) := by decide +kernel
theorem dX12_formula_60 : decode cX12_formula 60 = .ok (.aload_n 0, 1) := by decide +kernel
theorem dX12_formula_61 : decode cX12_formula 61 = .ok (.bipush 17, 2) := by decide +kernel
theorem dX12_formula_63 : decode cX12_formula 63 = .ok (.iconst 0, 1) := by decide +kernel
theorem dX12_formula_64 : decode cX12_formula 64 = .ok (.aload_n 0, 1) := by decide +kernel
theorem dX12_formula_65 : decode cX12_formula 65 = .ok (.getfield 86, 3) := by decide +kernel
theorem dX12_formula_68 : decode cX12_formula 68 = .ok (.iload_n 1, 1) := by decide +kernel
theorem dX12_formula_69 : decode cX12_formula 69 = .ok (.iaload, 1) := by decide +kernel
theorem dX12_formula_70 : decode cX12_formula 70 = .ok (.invokevirtual 557, 3) := by decide +kernel
theorem dX12_formula_73 : decode cX12_formula 73 = .ok (.istore_n 2, 1) := by decide +kernel
theorem dX12_formula_74 : decode cX12_formula 74 = .ok (.aload_n 0, 1) := by decide +kernel
theorem dX12_formula_75 : decode cX12_formula 75 = .ok (.invokevirtual 561, 3) := by decide +kernel
theorem dX12_formula_78 : decode cX12_formula 78 = .ok (.ifCond .eq 12, 3) := by decide +kernel
theorem dX12_formula_81 : decode cX12_formula 81 = .ok (.aload_n 0, 1) := by decide +kernel
theorem dX12_formula_82 : decode cX12_formula 82 = .ok (.bipush 58, 2) := by decide +kernel
theorem dX12_formula_84 : decode cX12_formula 84 = .ok (.invokevirtual 564, 3) := by decide +kernel
theorem dX12_formula_87 : decode cX12_formula 87 = .ok (.ifCond .ne 5, 3) := by decide +kernel
theorem dX12_formula_90 : decode cX12_formula 90 = .ok (.iconst 0, 1) := by decide +kernel
theorem dX12_formula_91 : decode cX12_formula 91 = .ok (.ireturn, 1) := by decide +kernel
theorem dX12_formula_92 : decode cX12_formula 92 = .ok (.aload_n 0, 1) := by decide +kernel
theorem dX12_formula_93 : decode cX12_formula 93 = .ok (.bipush 18, 2) := by decide +kernel
theorem dX12_formula_95 : decode cX12_formula 95 = .ok (.iconst 0, 1) := by decide +kernel
theorem dX12_formula_96 : decode cX12_formula 96 = .ok (.aload_n 0, 1) := by decide +kernel
theorem dX12_formula_97 : decode cX12_formula 97 = .ok (.getfield 86, 3) := by decide +kernel
theorem dX12_formula_100 : decode cX12_formula 100 = .ok (.iload_n 1, 1) := by decide +kernel
theorem dX12_formula_101 : decode cX12_formula 101 = .ok (.iaload, 1) := by decide +kernel
theorem dX12_formula_102 : decode cX12_formula 102 = .ok (.invokevirtual 557, 3) := by decide +kernel
theorem dX12_formula_105 : decode cX12_formula 105 = .ok (.istore_n 3, 1) := by decide +kernel
theorem dX12_formula_106 : decode cX12_formula 106 = .ok (.aload_n 0, 1) := by decide +kernel
theorem dX12_formula_107 : decode cX12_formula 107 = .ok (.getfield 101, 3) := by decide +kernel
theorem dX12_formula_110 : decode cX12_formula 110 = .ok (.iload_n 2, 1) := by decide +kernel
theorem dX12_formula_111 : decode cX12_formula 111 = .ok (.aload_n 0, 1) := by decide +kernel
theorem dX12_formula_112 : decode cX12_formula 112 = .ok (.getfield 113, 3) := by decide +kernel
theorem dX12_formula_115 : decode cX12_formula 115 = .ok (.iastore, 1) := by decide +kernel
theorem dX12_formula_116 : decode cX12_formula 116 = .ok (.aload_n 0, 1) := by decide +kernel
theorem dX12_formula_117 : decode cX12_formula 117 = .ok (.invokevirtual 561, 3) := by decide +kernel
theorem dX12_formula_120 : decode cX12_formula 120 = .ok (.ifCond .ne 5, 3) := by decide +kernel
theorem dX12_formula_123 : decode cX12_formula 123 = .ok (.iconst 0, 1) := by decide +kernel
theorem dX12_formula_124 : decode cX12_formula 124 = .ok (.ireturn, 1) := by decide +kernel
theorem dX12_formula_125 : decode cX12_formula 125 = .ok (.aload_n 0, 1) := by decide +kernel
theorem dX12_formula_126 : decode cX12_formula 126 = .ok (.dup, 1) := by decide +kernel
theorem dX12_formula_127 : decode cX12_formula 127 = .ok (.getfield 131, 3) := by decide +kernel
theorem dX12_formula_130 : decode cX12_formula 130 = .ok (.iconst 1, 1) := by decide +kernel
theorem dX12_formula_131 : decode cX12_formula 131 = .ok (.isub, 1) := by decide +kernel
theorem dX12_formula_132 : decode cX12_formula 132 = .ok (.putfield 131, 3) := by decide +kernel
theorem dX12_formula_135 : decode cX12_formula 135 = .ok (.aload_n 0, 1) := by decide +kernel
theorem dX12_formula_136 : decode cX12_formula 136 = .ok (.bipush 19, 2) := by decide +kernel
theorem dX12_formula_138 : decode cX12_formula 138 = .ok (.iload_n 3, 1) := by decide +kernel
theorem dX12_formula_139 : decode cX12_formula 139 = .ok (.aload_n 0, 1) := by decide +kernel
theorem dX12_formula_140 : decode cX12_formula 140 = .ok (.getfield 86, 3) := by decide +kernel
theorem dX12_formula_143 : decode cX12_formula 143 = .ok (.iload_n 1, 1) := by decide +kernel
theorem dX12_formula_144 : decode cX12_formula 144 = .ok (.iaload, 1) := by decide +kernel
theorem dX12_formula_145 : decode cX12_formula 145 = .ok (.invokevirtual 557, 3) := by decide +kernel
theorem dX12_formula_148 : decode cX12_formula 148 = .ok (.pop, 1) := by decide +kernel
theorem dX12_formula_149 : decode cX12_formula 149 = .ok (.aload_n 0, 1) := by decide +kernel
theorem dX12_formula_150 : decode cX12_formula 150 = .ok (.getfield 101, 3) := by decide +kernel
theorem dX12_formula_153 : decode cX12_formula 153 = .ok (.iload_n 3, 1) := by decide +kernel
theorem dX12_formula_154 : decode cX12_formula 154 = .ok (.aload_n 0, 1) := by decide +kernel
theorem dX12_formula_155 : decode cX12_formula 155 = .ok (.getfield 113, 3) := by decide +kernel
theorem dX12_formula_158 : decode cX12_formula 158 = .ok (.iastore, 1) := by decide +kernel
theorem dX12_formula_159 : decode cX12_formula 159 = .ok (.iconst 1, 1) := by decide +kernel
theorem dX12_formula_160 : decode cX12_formula 160 = .ok (.ireturn, 1) := by decide +kernel
def f_X12_formula (n : Nat) (rc : RCT) (gT : Gs) : Option (Int32 × Gs) :=
  bnd (rc.2.2.2.2.2.2.2.1 gT (252 : Int32)) (fun q_1 => if q_1.1 = 0 then (some ((0 : Int32), q_1.2)) else (grd (inB (gI q_1.2 20) 3001) (if (gIA q_1.2 9 (gI q_1.2 20).toNatClampNeg) = (63 : Int32) then (bnd (f_X12_deeper q_1.2) (fun q_4 => if q_4.1 = 0 then (some ((0 : Int32), q_4.2)) else (bnd (f_X12_node q_4.2 (gI q_4.2 20)) (fun q_6 => grd (inB (gI q_4.2 20) 3001) (bnd (f_X12_act (sI q_6 20 ((gI q_6 20) + (1 : Int32))) (17 : Int32) (0 : Int32) (gIA q_6 10 (gI q_4.2 20).toNatClampNeg)) (fun q_9 => bnd (rc.2.2.2.2.2.2.2.2 q_9.2) (fun q_11 => if q_11.1 = 0 then (some ((0 : Int32), q_11.2)) else (bnd (f_X12_need q_11.2 (58 : Int32)) (fun q_13 => if q_13.1 = 0 then (some ((0 : Int32), q_13.2)) else (grd (inB (gI q_4.2 20) 3001) (bnd (f_X12_act q_13.2 (18 : Int32) (0 : Int32) (gIA q_13.2 10 (gI q_4.2 20).toNatClampNeg)) (fun q_16 => grd (inB q_9.1 8000) (bnd (rc.2.2.2.2.2.2.2.2 (sIA q_16.2 15 (upd (gIA q_16.2 15) q_9.1.toNatClampNeg (gI q_16.2 19)))) (fun q_19 => if q_19.1 = 0 then (some ((0 : Int32), q_19.2)) else (grd (inB (gI q_4.2 20) 3001) (bnd (f_X12_act (sI q_19.2 25 ((gI q_19.2 25) - (1 : Int32))) (19 : Int32) q_16.1 (gIA q_19.2 10 (gI q_4.2 20).toNatClampNeg)) (fun q_22 => grd (inB q_16.1 8000) (some ((1 : Int32), (sIA q_22.2 15 (upd (gIA q_22.2 15) q_16.1.toNatClampNeg (gI q_22.2 19)))))))))))))))))))))) else (some ((1 : Int32), q_1.2)))))
set_option maxHeartbeats 4000000 in
set_option maxRecDepth 100000 in
theorem c_X12_formula (l : Launch) (D : Dx) (hT : Nat) (aT : Nat → Nat) (yT : Nat → ClassId) (n : Nat) (rc : RCT) (d : Nat) (IR : SRC l D hT aT yT d rc) (gT : Gs) (q : Int32 × Gs) (hF : f_X12_formula n rc gT = some q) (sz : Nat) : Met l yX12_formula (ws_ yX12_formula cX12_formula 4 (some .boolean)) (RMd (d + 1)) (PC D (tX12 yT) [.ref hT] (wX12 hT aT yT gT) sz) (QI D (va_A (wX12 hT aT yT gT) sz) (wX12 hT aT yT q.2) q.1) 0 0 (va_A (wX12 hT aT yT gT) sz) := by
  refine Met.ofW (cc := cX12_formula) (maxL := 4) (ret := (some .boolean)) (by decide) rfl ?_
  intro p e s m args below meth c s₁ B hml hv
  obtain ⟨rfl, hsz, hP, hK, hD, hN⟩ := hv
  subst hsz
  have C : Cx p s m _ meth c cX12_formula (some .boolean) 4 RX12 lw_all := Cx_of B hml
  have X := Hx_start hP hK hD hN
  obtain ⟨hx, hb, hr, -, hown, hts, hlk⟩ := id C
  generalize va_A (wX12 hT aT yT gT) s.heap.size = A at X ⊢
  have hl := lv_entry ([.ref hT]) (n := 4) (Nat.le_of_ble_eq_true rfl)
  rw [lg_entry_eq]
  generalize (lg_sl ([.ref hT]) ++ List.replicate (4 - (lg_sl ([.ref hT])).length) Slot.unset).toArray = ls at hl ⊢
  have hl : lv_has ls 4 [(0, .ref hT)] := hl
  unfold f_X12_formula at hF
  refine lv_aload_n hx hb dX12_formula_0 rfl (lv_at hl 0 rfl) ?_
  refine lv_sipush (v := (252 : Int32)) hx hb dX12_formula_1 (by decide) ?_
  obtain ⟨q_1, hc_2, hF⟩ := bnd_some hF
  refine cV_i (As := [.int (252 : Int32)]) (rest := []) C X (IR.2.2.2.2.2.2.2.1 gT (252 : Int32) q_1 hc_2 _) (cwV 1 hts (good_V q8_200 q8_202 q0_84 q1_9 q8_203) rfl rfl rfl (by decide +kernel) ⟨rgf, rgl (by decide)⟩) (va_recv X.1 X.2.1 (ci := 12) (q0 := 0) rfl rfl) X.1 X.2.1 X.2.2.1 (free_all X) hl.1 rfl rfl (Nat.le_of_ble_eq_true rfl) dX12_formula_4 ⟨Nat.le_of_ble_eq_true rfl, Nat.le_of_ble_eq_true rfl⟩ (fun t H1 locs1 ht hB hk hS => ?_)
  have X : Hx D (tX12 yT) A s H1 locs1 (wX12 hT aT yT q_1.2) := Hx_after_all X ht hB hS
  clear hk hS ht hB
  generalize H1 = H at X ⊢
  generalize locs1 = locs at X ⊢
  refine lv_if_ne (tgt := 12) hx hb dX12_formula_7 (by decide) (fun c => ?_) (fun c => ?_)
  · replace hF := iF c hF
    refine lv_aload_n hx hb dX12_formula_12 rfl (lv_at hl 0 rfl) ?_
    refine va_get (D := D.1) (ci := 12) (v := .ref (aT 9)) (C := RX12) (T := TX12) (N := 114) hx hb hts wi_X12 hown X.1 X.2.1 0 rfl rfl 9 (by decide) (hts _ q6_203) (fun _ h9 => h9) (fl_get (by decide)) dX12_formula_13 ?_
    refine lv_aload_n hx hb dX12_formula_16 rfl (lv_at hl 0 rfl) ?_
    refine va_get (D := D.1) (ci := 12) (v := .int (gI q_1.2 20)) (C := RX12) (T := TX12) (N := 114) hx hb hts wi_X12 hown X.1 X.2.1 0 rfl rfl 20 (by decide) (hts _ q6_214) (fun _ h9 => h9) (fl_get (by decide)) dX12_formula_17 ?_
    obtain ⟨h_3, hF⟩ := grd_some hF
    refine va_iald (D := D.1) (f := gIA q_1.2 9) hx hb X.1 X.2.1 4 3 rfl rfl (inB_ok h_3) dX12_formula_20 ?_
    refine lv_bipush (v := (63 : Int32)) hx hb dX12_formula_21 (by decide) ?_
    refine lv_icmp_eq (tgt := 28) hx hb dX12_formula_23 (by decide) (fun c => ?_) (fun c => ?_)
    · replace hF := iT c hF
      refine lv_aload_n hx hb dX12_formula_28 rfl (lv_at hl 0 rfl) ?_
      obtain ⟨q_4, hc_5, hF⟩ := bnd_some hF
      refine cV_i (As := []) (rest := []) C X (c_X12_deeper l D hT aT yT q_1.2 q_4 hc_5 _) (cwV 0 hts (good_V q8_228 q8_230 q0_91 q1_9 q8_231) rfl rfl rfl (by decide +kernel) ⟨rmf (by decide), rml (by decide)⟩) (va_recv X.1 X.2.1 (ci := 12) (q0 := 0) rfl rfl) X.1 X.2.1 X.2.2.1 (free_all X) hl.1 rfl rfl (Nat.le_of_ble_eq_true rfl) dX12_formula_29 ⟨Nat.le_of_ble_eq_true rfl, Nat.le_of_ble_eq_true rfl⟩ (fun t H1 locs1 ht hB hk hS => ?_)
      have X : Hx D (tX12 yT) A s H1 locs1 (wX12 hT aT yT q_4.2) := Hx_after_all X ht hB hS
      clear hk hS ht hB
      generalize H1 = H at X ⊢
      generalize locs1 = locs at X ⊢
      refine lv_if_ne (tgt := 37) hx hb dX12_formula_32 (by decide) (fun c => ?_) (fun c => ?_)
      · replace hF := iF c hF
        refine lv_aload_n hx hb dX12_formula_37 rfl (lv_at hl 0 rfl) ?_
        refine va_get (D := D.1) (ci := 12) (v := .int (gI q_4.2 20)) (C := RX12) (T := TX12) (N := 114) hx hb hts wi_X12 hown X.1 X.2.1 0 rfl rfl 20 (by decide) (hts _ q6_214) (fun _ h9 => h9) (fl_get (by decide)) dX12_formula_38 ?_
        refine lv_istore_n (lv' := [(1, .int (gI q_4.2 20)), (0, .ref hT)]) hx hb dX12_formula_41 rfl hl (by decide) rfl (fun ls hl => ?_)
        refine lv_aload_n hx hb dX12_formula_42 rfl (lv_at hl 1 rfl) ?_
        refine lv_aload_n hx hb dX12_formula_43 rfl (lv_at hl 1 rfl) ?_
        refine va_get (D := D.1) (ci := 12) (v := .int (gI q_4.2 20)) (C := RX12) (T := TX12) (N := 114) hx hb hts wi_X12 hown X.1 X.2.1 0 rfl rfl 20 (by decide) (hts _ q6_214) (fun _ h9 => h9) (fl_get (by decide)) dX12_formula_44 ?_
        obtain ⟨q_6, hc_7, hF⟩ := bnd_some hF
        refine cV_v (As := [.int (gI q_4.2 20)]) (rest := []) C X (c_X12_node l D hT aT yT q_4.2 (gI q_4.2 20) q_6 hc_7 _) (cwV 1 hts (good_V q8_232 q8_234 q0_92 q1_9 q8_235) rfl rfl rfl (by decide +kernel) ⟨rmf (by decide), rml (by decide)⟩) (va_recv X.1 X.2.1 (ci := 12) (q0 := 0) rfl rfl) X.1 X.2.1 X.2.2.1 (free_all X) hl.1 rfl rfl (Nat.le_of_ble_eq_true rfl) dX12_formula_47 ⟨Nat.le_of_ble_eq_true rfl, Nat.le_of_ble_eq_true rfl⟩ (fun t H1 locs1 ht hB hk hS => ?_)
        have X : Hx D (tX12 yT) A s H1 locs1 (wX12 hT aT yT q_6) := Hx_after_all X ht hB hS
        clear hk hS ht hB
        generalize H1 = H at X ⊢
        generalize locs1 = locs at X ⊢
        refine lv_aload_n hx hb dX12_formula_50 rfl (lv_at hl 1 rfl) ?_
        refine lv_dup hx hb dX12_formula_51 rfl ?_
        refine va_get (D := D.1) (ci := 12) (v := .int (gI q_6 20)) (C := RX12) (T := TX12) (N := 114) hx hb hts wi_X12 hown X.1 X.2.1 0 rfl rfl 20 (by decide) (hts _ q6_214) (fun _ h9 => h9) (fl_get (by decide)) dX12_formula_52 ?_
        refine lv_iconst (v := (1 : Int32)) hx hb dX12_formula_55 (by decide) ?_
        refine lv_iadd hx hb dX12_formula_56 ?_
        refine va_put (D := D.1) (ci := 12) (v := .int ((gI q_6 20) + (1 : Int32))) (ty := .int) (C := RX12) (T := TX12) (N := 114) hx hb hts wi_X12 tyX12 tyX12_ok nmX12 hown X.1 X.2.1 X.2.2.1 X.2.2.2.1 0 rfl rfl 20 (by decide) (hts _ q6_214) (fun _ h9 => h9) rfl (by decide +kernel) rfl rfl (by rw [List.length_map, List.length_range]; decide) dX12_formula_57 (fun H locs hP hD hS => ?_)
        have X : Hx D (tX12 yT) A s H locs (wX12 hT aT yT (sI q_6 20 ((gI q_6 20) + (1 : Int32)))) := Hx_set X (wG_sI (k := 20) rfl) hP hD hS
        refine lv_aload_n hx hb dX12_formula_60 rfl (lv_at hl 1 rfl) ?_
        refine lv_bipush (v := (17 : Int32)) hx hb dX12_formula_61 (by decide) ?_
        refine lv_iconst (v := (0 : Int32)) hx hb dX12_formula_63 (by decide) ?_
        refine lv_aload_n hx hb dX12_formula_64 rfl (lv_at hl 1 rfl) ?_
        refine va_get (D := D.1) (ci := 12) (v := .ref (aT 10)) (C := RX12) (T := TX12) (N := 114) hx hb hts wi_X12 hown X.1 X.2.1 0 rfl rfl 10 (by decide) (hts _ q6_204) (fun _ h9 => h9) (fl_get (by decide)) dX12_formula_65 ?_
        refine lv_iload_n hx hb dX12_formula_68 rfl (lv_at hl 0 rfl) ?_
        obtain ⟨h_8, hF⟩ := grd_some hF
        refine va_iald (D := D.1) (f := gIA q_6 10) hx hb X.1 X.2.1 5 4 rfl rfl (inB_ok h_8) dX12_formula_69 ?_
        obtain ⟨q_9, hc_10, hF⟩ := bnd_some hF
        refine cV_i (As := [.int (17 : Int32), .int (0 : Int32), .int (gIA q_6 10 (gI q_4.2 20).toNatClampNeg)]) (rest := []) C X (c_X12_act l D hT aT yT (sI q_6 20 ((gI q_6 20) + (1 : Int32))) (17 : Int32) (0 : Int32) (gIA q_6 10 (gI q_4.2 20).toNatClampNeg) q_9 hc_10 _) (cwV 3 hts (good_V q8_236 q8_238 q0_93 q1_9 q8_239) rfl rfl rfl (by decide +kernel) ⟨rmf (by decide), rml (by decide)⟩) (va_recv X.1 X.2.1 (ci := 12) (q0 := 0) rfl rfl) X.1 X.2.1 X.2.2.1 (free_all X) hl.1 rfl rfl (Nat.le_of_ble_eq_true rfl) dX12_formula_70 ⟨Nat.le_of_ble_eq_true rfl, Nat.le_of_ble_eq_true rfl⟩ (fun t H1 locs1 ht hB hk hS => ?_)
        have X : Hx D (tX12 yT) A s H1 locs1 (wX12 hT aT yT q_9.2) := Hx_after_all X ht hB hS
        clear hk hS ht hB
        generalize H1 = H at X ⊢
        generalize locs1 = locs at X ⊢
        refine lv_istore_n (lv' := [(2, .int q_9.1), (1, .int (gI q_4.2 20)), (0, .ref hT)]) hx hb dX12_formula_73 rfl hl (by decide) rfl (fun ls hl => ?_)
        refine lv_aload_n hx hb dX12_formula_74 rfl (lv_at hl 2 rfl) ?_
        obtain ⟨q_11, hc_12, hF⟩ := bnd_some hF
        refine cV_i (As := []) (rest := []) C X (IR.2.2.2.2.2.2.2.2 q_9.2 q_11 hc_12 _) (cwV 0 hts (good_V q8_196 q8_198 q0_83 q1_9 q8_199) rfl rfl rfl (by decide +kernel) ⟨rgf, rgl (by decide)⟩) (va_recv X.1 X.2.1 (ci := 12) (q0 := 0) rfl rfl) X.1 X.2.1 X.2.2.1 (free_all X) hl.1 rfl rfl (Nat.le_of_ble_eq_true rfl) dX12_formula_75 ⟨Nat.le_of_ble_eq_true rfl, Nat.le_of_ble_eq_true rfl⟩ (fun t H1 locs1 ht hB hk hS => ?_)
        have X : Hx D (tX12 yT) A s H1 locs1 (wX12 hT aT yT q_11.2) := Hx_after_all X ht hB hS
        clear hk hS ht hB
        generalize H1 = H at X ⊢
        generalize locs1 = locs at X ⊢
        refine lv_if_eq (tgt := 90) hx hb dX12_formula_78 (by decide) (fun c => ?_) (fun c => ?_)
        · replace hF := iT c hF
          refine lv_iconst (v := (0 : Int32)) hx hb dX12_formula_90 (by decide) ?_
          have hq := Option.some.inj hF
          subst hq
          exact rt_z (v := (0 : Int32)) C X (by decide) dX12_formula_91
        · replace hF := iF c hF
          refine lv_aload_n hx hb dX12_formula_81 rfl (lv_at hl 2 rfl) ?_
          refine lv_bipush (v := (58 : Int32)) hx hb dX12_formula_82 (by decide) ?_
          obtain ⟨q_13, hc_14, hF⟩ := bnd_some hF
          refine cV_i (As := [.int (58 : Int32)]) (rest := []) C X (c_X12_need l D hT aT yT q_11.2 (58 : Int32) q_13 hc_14 _) (cwV 1 hts (good_V q8_189 q8_191 q0_82 q1_9 q8_192) rfl rfl rfl (by decide +kernel) ⟨rmf (by decide), rml (by decide)⟩) (va_recv X.1 X.2.1 (ci := 12) (q0 := 0) rfl rfl) X.1 X.2.1 X.2.2.1 (free_all X) hl.1 rfl rfl (Nat.le_of_ble_eq_true rfl) dX12_formula_84 ⟨Nat.le_of_ble_eq_true rfl, Nat.le_of_ble_eq_true rfl⟩ (fun t H1 locs1 ht hB hk hS => ?_)
          have X : Hx D (tX12 yT) A s H1 locs1 (wX12 hT aT yT q_13.2) := Hx_after_all X ht hB hS
          clear hk hS ht hB
          generalize H1 = H at X ⊢
          generalize locs1 = locs at X ⊢
          refine lv_if_ne (tgt := 92) hx hb dX12_formula_87 (by decide) (fun c => ?_) (fun c => ?_)
          · replace hF := iF c hF
            refine lv_aload_n hx hb dX12_formula_92 rfl (lv_at hl 2 rfl) ?_
            refine lv_bipush (v := (18 : Int32)) hx hb dX12_formula_93 (by decide) ?_
            refine lv_iconst (v := (0 : Int32)) hx hb dX12_formula_95 (by decide) ?_
            refine lv_aload_n hx hb dX12_formula_96 rfl (lv_at hl 2 rfl) ?_
            refine va_get (D := D.1) (ci := 12) (v := .ref (aT 10)) (C := RX12) (T := TX12) (N := 114) hx hb hts wi_X12 hown X.1 X.2.1 0 rfl rfl 10 (by decide) (hts _ q6_204) (fun _ h9 => h9) (fl_get (by decide)) dX12_formula_97 ?_
            refine lv_iload_n hx hb dX12_formula_100 rfl (lv_at hl 1 rfl) ?_
            obtain ⟨h_15, hF⟩ := grd_some hF
            refine va_iald (D := D.1) (f := gIA q_13.2 10) hx hb X.1 X.2.1 5 4 rfl rfl (inB_ok h_15) dX12_formula_101 ?_
            obtain ⟨q_16, hc_17, hF⟩ := bnd_some hF
            refine cV_i (As := [.int (18 : Int32), .int (0 : Int32), .int (gIA q_13.2 10 (gI q_4.2 20).toNatClampNeg)]) (rest := []) C X (c_X12_act l D hT aT yT q_13.2 (18 : Int32) (0 : Int32) (gIA q_13.2 10 (gI q_4.2 20).toNatClampNeg) q_16 hc_17 _) (cwV 3 hts (good_V q8_236 q8_238 q0_93 q1_9 q8_239) rfl rfl rfl (by decide +kernel) ⟨rmf (by decide), rml (by decide)⟩) (va_recv X.1 X.2.1 (ci := 12) (q0 := 0) rfl rfl) X.1 X.2.1 X.2.2.1 (free_all X) hl.1 rfl rfl (Nat.le_of_ble_eq_true rfl) dX12_formula_102 ⟨Nat.le_of_ble_eq_true rfl, Nat.le_of_ble_eq_true rfl⟩ (fun t H1 locs1 ht hB hk hS => ?_)
            have X : Hx D (tX12 yT) A s H1 locs1 (wX12 hT aT yT q_16.2) := Hx_after_all X ht hB hS
            clear hk hS ht hB
            generalize H1 = H at X ⊢
            generalize locs1 = locs at X ⊢
            refine lv_istore_n (lv' := [(3, .int q_16.1), (2, .int q_9.1), (1, .int (gI q_4.2 20)), (0, .ref hT)]) hx hb dX12_formula_105 rfl hl (by decide) rfl (fun ls hl => ?_)
            refine lv_aload_n hx hb dX12_formula_106 rfl (lv_at hl 3 rfl) ?_
            refine va_get (D := D.1) (ci := 12) (v := .ref (aT 15)) (C := RX12) (T := TX12) (N := 114) hx hb hts wi_X12 hown X.1 X.2.1 0 rfl rfl 15 (by decide) (hts _ q6_209) (fun _ h9 => h9) (fl_get (by decide)) dX12_formula_107 ?_
            refine lv_iload_n hx hb dX12_formula_110 rfl (lv_at hl 1 rfl) ?_
            refine lv_aload_n hx hb dX12_formula_111 rfl (lv_at hl 3 rfl) ?_
            refine va_get (D := D.1) (ci := 12) (v := .int (gI q_16.2 19)) (C := RX12) (T := TX12) (N := 114) hx hb hts wi_X12 hown X.1 X.2.1 0 rfl rfl 19 (by decide) (hts _ q6_213) (fun _ h9 => h9) (fl_get (by decide)) dX12_formula_112 ?_
            obtain ⟨h_18, hF⟩ := grd_some hF
            refine va_iast (D := D.1) (f := gIA q_16.2 15) hx hb X.1 X.2.1 X.2.2.1 X.2.2.2.1 10 9 rfl rfl (inB_ok h_18) dX12_formula_115 (fun H locs hP hD hS => ?_)
            have X : Hx D (tX12 yT) A s H locs (wX12 hT aT yT (sIA q_16.2 15 (upd (gIA q_16.2 15) q_9.1.toNatClampNeg (gI q_16.2 19)))) := Hx_set X (wG_sIA (i := 9) (k := 15) ndX12 rfl rfl) hP hD hS
            refine lv_aload_n hx hb dX12_formula_116 rfl (lv_at hl 3 rfl) ?_
            obtain ⟨q_19, hc_20, hF⟩ := bnd_some hF
            refine cV_i (As := []) (rest := []) C X (IR.2.2.2.2.2.2.2.2 (sIA q_16.2 15 (upd (gIA q_16.2 15) q_9.1.toNatClampNeg (gI q_16.2 19))) q_19 hc_20 _) (cwV 0 hts (good_V q8_196 q8_198 q0_83 q1_9 q8_199) rfl rfl rfl (by decide +kernel) ⟨rgf, rgl (by decide)⟩) (va_recv X.1 X.2.1 (ci := 12) (q0 := 0) rfl rfl) X.1 X.2.1 X.2.2.1 (free_all X) hl.1 rfl rfl (Nat.le_of_ble_eq_true rfl) dX12_formula_117 ⟨Nat.le_of_ble_eq_true rfl, Nat.le_of_ble_eq_true rfl⟩ (fun t H1 locs1 ht hB hk hS => ?_)
            have X : Hx D (tX12 yT) A s H1 locs1 (wX12 hT aT yT q_19.2) := Hx_after_all X ht hB hS
            clear hk hS ht hB
            generalize H1 = H at X ⊢
            generalize locs1 = locs at X ⊢
            refine lv_if_ne (tgt := 125) hx hb dX12_formula_120 (by decide) (fun c => ?_) (fun c => ?_)
            · replace hF := iF c hF
              refine lv_aload_n hx hb dX12_formula_125 rfl (lv_at hl 3 rfl) ?_
              refine lv_dup hx hb dX12_formula_126 rfl ?_
              refine va_get (D := D.1) (ci := 12) (v := .int (gI q_19.2 25)) (C := RX12) (T := TX12) (N := 114) hx hb hts wi_X12 hown X.1 X.2.1 0 rfl rfl 25 (by decide) (hts _ q6_219) (fun _ h9 => h9) (fl_get (by decide)) dX12_formula_127 ?_
              refine lv_iconst (v := (1 : Int32)) hx hb dX12_formula_130 (by decide) ?_
              refine lv_isub hx hb dX12_formula_131 ?_
              refine va_put (D := D.1) (ci := 12) (v := .int ((gI q_19.2 25) - (1 : Int32))) (ty := .int) (C := RX12) (T := TX12) (N := 114) hx hb hts wi_X12 tyX12 tyX12_ok nmX12 hown X.1 X.2.1 X.2.2.1 X.2.2.2.1 0 rfl rfl 25 (by decide) (hts _ q6_219) (fun _ h9 => h9) rfl (by decide +kernel) rfl rfl (by rw [List.length_map, List.length_range]; decide) dX12_formula_132 (fun H locs hP hD hS => ?_)
              have X : Hx D (tX12 yT) A s H locs (wX12 hT aT yT (sI q_19.2 25 ((gI q_19.2 25) - (1 : Int32)))) := Hx_set X (wG_sI (k := 25) rfl) hP hD hS
              refine lv_aload_n hx hb dX12_formula_135 rfl (lv_at hl 3 rfl) ?_
              refine lv_bipush (v := (19 : Int32)) hx hb dX12_formula_136 (by decide) ?_
              refine lv_iload_n hx hb dX12_formula_138 rfl (lv_at hl 0 rfl) ?_
              refine lv_aload_n hx hb dX12_formula_139 rfl (lv_at hl 3 rfl) ?_
              refine va_get (D := D.1) (ci := 12) (v := .ref (aT 10)) (C := RX12) (T := TX12) (N := 114) hx hb hts wi_X12 hown X.1 X.2.1 0 rfl rfl 10 (by decide) (hts _ q6_204) (fun _ h9 => h9) (fl_get (by decide)) dX12_formula_140 ?_
              refine lv_iload_n hx hb dX12_formula_143 rfl (lv_at hl 2 rfl) ?_
              obtain ⟨h_21, hF⟩ := grd_some hF
              refine va_iald (D := D.1) (f := gIA q_19.2 10) hx hb X.1 X.2.1 5 4 rfl rfl (inB_ok h_21) dX12_formula_144 ?_
              obtain ⟨q_22, hc_23, hF⟩ := bnd_some hF
              refine cV_i (As := [.int (19 : Int32), .int q_16.1, .int (gIA q_19.2 10 (gI q_4.2 20).toNatClampNeg)]) (rest := []) C X (c_X12_act l D hT aT yT (sI q_19.2 25 ((gI q_19.2 25) - (1 : Int32))) (19 : Int32) q_16.1 (gIA q_19.2 10 (gI q_4.2 20).toNatClampNeg) q_22 hc_23 _) (cwV 3 hts (good_V q8_236 q8_238 q0_93 q1_9 q8_239) rfl rfl rfl (by decide +kernel) ⟨rmf (by decide), rml (by decide)⟩) (va_recv X.1 X.2.1 (ci := 12) (q0 := 0) rfl rfl) X.1 X.2.1 X.2.2.1 (free_all X) hl.1 rfl rfl (Nat.le_of_ble_eq_true rfl) dX12_formula_145 ⟨Nat.le_of_ble_eq_true rfl, Nat.le_of_ble_eq_true rfl⟩ (fun t H1 locs1 ht hB hk hS => ?_)
              have X : Hx D (tX12 yT) A s H1 locs1 (wX12 hT aT yT q_22.2) := Hx_after_all X ht hB hS
              clear hk hS ht hB
              generalize H1 = H at X ⊢
              generalize locs1 = locs at X ⊢
              refine lv_pop hx hb dX12_formula_148 rfl ?_
              refine lv_aload_n hx hb dX12_formula_149 rfl (lv_at hl 3 rfl) ?_
              refine va_get (D := D.1) (ci := 12) (v := .ref (aT 15)) (C := RX12) (T := TX12) (N := 114) hx hb hts wi_X12 hown X.1 X.2.1 0 rfl rfl 15 (by decide) (hts _ q6_209) (fun _ h9 => h9) (fl_get (by decide)) dX12_formula_150 ?_
              refine lv_iload_n hx hb dX12_formula_153 rfl (lv_at hl 0 rfl) ?_
              refine lv_aload_n hx hb dX12_formula_154 rfl (lv_at hl 3 rfl) ?_
              refine va_get (D := D.1) (ci := 12) (v := .int (gI q_22.2 19)) (C := RX12) (T := TX12) (N := 114) hx hb hts wi_X12 hown X.1 X.2.1 0 rfl rfl 19 (by decide) (hts _ q6_213) (fun _ h9 => h9) (fl_get (by decide)) dX12_formula_155 ?_
              obtain ⟨h_24, hF⟩ := grd_some hF
              refine va_iast (D := D.1) (f := gIA q_22.2 15) hx hb X.1 X.2.1 X.2.2.1 X.2.2.2.1 10 9 rfl rfl (inB_ok h_24) dX12_formula_158 (fun H locs hP hD hS => ?_)
              have X : Hx D (tX12 yT) A s H locs (wX12 hT aT yT (sIA q_22.2 15 (upd (gIA q_22.2 15) q_16.1.toNatClampNeg (gI q_22.2 19)))) := Hx_set X (wG_sIA (i := 9) (k := 15) ndX12 rfl rfl) hP hD hS
              refine lv_iconst (v := (1 : Int32)) hx hb dX12_formula_159 (by decide) ?_
              have hq := Option.some.inj hF
              subst hq
              exact rt_z (v := (1 : Int32)) C X (by decide) dX12_formula_160
            · replace hF := iT c hF
              refine lv_iconst (v := (0 : Int32)) hx hb dX12_formula_123 (by decide) ?_
              have hq := Option.some.inj hF
              subst hq
              exact rt_z (v := (0 : Int32)) C X (by decide) dX12_formula_124
          · replace hF := iT c hF
            refine lv_iconst (v := (0 : Int32)) hx hb dX12_formula_90 (by decide) ?_
            have hq := Option.some.inj hF
            subst hq
            exact rt_z (v := (0 : Int32)) C X (by decide) dX12_formula_91
      · replace hF := iT c hF
        refine lv_iconst (v := (0 : Int32)) hx hb dX12_formula_35 (by decide) ?_
        have hq := Option.some.inj hF
        subst hq
        exact rt_z (v := (0 : Int32)) C X (by decide) dX12_formula_36
    · replace hF := iF c hF
      refine lv_iconst (v := (1 : Int32)) hx hb dX12_formula_26 (by decide) ?_
      have hq := Option.some.inj hF
      subst hq
      exact rt_z (v := (1 : Int32)) C X (by decide) dX12_formula_27
  · replace hF := iT c hF
    refine lv_iconst (v := (0 : Int32)) hx hb dX12_formula_10 (by decide) ?_
    have hq := Option.some.inj hF
    subst hq
    exact rt_z (v := (0 : Int32)) C X (by decide) dX12_formula_11

def RC (n : Nat) : Nat → RCT
  | 0 => (fun _ => none, fun _ => none, fun _ => none, fun _ => none, fun _ => none, fun _ => none, fun _ => none, fun _ _ => none, fun _ => none)
  | d + 1 => (f_X12_named n (RC n d), f_X12_primary n (RC n d), f_X12_single n (RC n d), f_X12_product n (RC n d), f_X12_sum n (RC n d), f_X12_compares n (RC n d), f_X12_equals n (RC n d), f_X12_choice n (RC n d), f_X12_formula n (RC n d))
theorem SRC_all (l : Launch) (D : Dx) (hT : Nat) (aT : Nat → Nat) (yT : Nat → ClassId) (n : Nat) : ∀ d, SRC l D hT aT yT d (RC n d)
  | 0 => ⟨(fun _ _ h => by cases h), (fun _ _ h => by cases h), (fun _ _ h => by cases h), (fun _ _ h => by cases h), (fun _ _ h => by cases h), (fun _ _ h => by cases h), (fun _ _ h => by cases h), (fun _ _ _ h => by cases h), (fun _ _ h => by cases h)⟩
  | d + 1 => ⟨(fun g q h sz => c_X12_named l D hT aT yT n (RC n d) d (SRC_all l D hT aT yT n d) g q h sz), (fun g q h sz => c_X12_primary l D hT aT yT n (RC n d) d (SRC_all l D hT aT yT n d) g q h sz), (fun g q h sz => c_X12_single l D hT aT yT n (RC n d) d (SRC_all l D hT aT yT n d) g q h sz), (fun g q h sz => c_X12_product l D hT aT yT n (RC n d) d (SRC_all l D hT aT yT n d) g q h sz), (fun g q h sz => c_X12_sum l D hT aT yT n (RC n d) d (SRC_all l D hT aT yT n d) g q h sz), (fun g q h sz => c_X12_compares l D hT aT yT n (RC n d) d (SRC_all l D hT aT yT n d) g q h sz), (fun g q h sz => c_X12_equals l D hT aT yT n (RC n d) d (SRC_all l D hT aT yT n d) g q h sz), (fun g x q h sz => c_X12_choice l D hT aT yT n (RC n d) d (SRC_all l D hT aT yT n d) g x q h sz), (fun g q h sz => c_X12_formula l D hT aT yT n (RC n d) d (SRC_all l D hT aT yT n d) g q h sz)⟩
def ff_X12_formula (n : Nat) (gT : Gs) : Option (Int32 × Gs) := (RC n 420).2.2.2.2.2.2.2.2 gT
abbrev R_X12_formula : Room := RMd 420
theorem cc_X12_formula (l : Launch) (D : Dx) (hT : Nat) (aT : Nat → Nat) (yT : Nat → ClassId) (n : Nat) (gT : Gs) (q : Int32 × Gs) (hF : ff_X12_formula n gT = some q) (sz : Nat) : Met l yX12_formula (ws_ yX12_formula cX12_formula 4 (some .boolean)) R_X12_formula (PC D (tX12 yT) [.ref hT] (wX12 hT aT yT gT) sz) (QI D (va_A (wX12 hT aT yT gT) sz) (wX12 hT aT yT q.2) q.1) 0 0 (va_A (wX12 hT aT yT gT) sz) := (SRC_all l D hT aT yT n 420).2.2.2.2.2.2.2.2 gT q hF sz
