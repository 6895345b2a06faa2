theorem q8_169 : Cond.methodLink RX12 597 yX12_thing ∈ lw_all := lw_in (tc_8 (List.mem_of_getElem? (i := 169) rfl)) rfl
theorem q8_171 : Cond.instanceMethod yX12_thing ∈ lw_all := lw_in (tc_8 (List.mem_of_getElem? (i := 171) rfl)) rfl
theorem q0_77 : Cond.selects RX12 yX12_thing yX12_thing ∈ lw_all := lw_in (tc_0 (List.mem_of_getElem? (i := 77) rfl)) rfl
theorem q8_172 : Cond.code yX12_thing cX12_thing 3 (some .boolean) ∈ lw_all := lw_in (tc_8 (List.mem_of_getElem? (i := 172) rfl)) rfl
theorem q9_8 : Cond.methodLink RX12 603 yX12_bell ∈ lw_all := lw_in (tc_9 (List.mem_of_getElem? (i := 8) rfl)) rfl
theorem q9_10 : Cond.instanceMethod yX12_bell ∈ lw_all := lw_in (tc_9 (List.mem_of_getElem? (i := 10) rfl)) rfl
theorem q0_96 : Cond.selects RX12 yX12_bell yX12_bell ∈ lw_all := lw_in (tc_0 (List.mem_of_getElem? (i := 96) rfl)) rfl
theorem q9_11 : Cond.code yX12_bell cX12_bell 2 (some .boolean) ∈ lw_all := lw_in (tc_9 (List.mem_of_getElem? (i := 11) rfl)) rfl
theorem q9_4 : Cond.methodLink RX12 600 yX12_cam ∈ lw_all := lw_in (tc_9 (List.mem_of_getElem? (i := 4) rfl)) rfl
theorem q9_6 : Cond.instanceMethod yX12_cam ∈ lw_all := lw_in (tc_9 (List.mem_of_getElem? (i := 6) rfl)) rfl
theorem q0_95 : Cond.selects RX12 yX12_cam yX12_cam ∈ lw_all := lw_in (tc_0 (List.mem_of_getElem? (i := 95) rfl)) rfl
theorem q9_7 : Cond.code yX12_cam cX12_cam 6 (some .boolean) ∈ lw_all := lw_in (tc_9 (List.mem_of_getElem? (i := 7) rfl)) rfl
theorem q8_69 : Cond.methodLink RX12 696 yX12_begins ∈ lw_all := lw_in (tc_8 (List.mem_of_getElem? (i := 69) rfl)) rfl
theorem q8_71 : Cond.instanceMethod yX12_begins ∈ lw_all := lw_in (tc_8 (List.mem_of_getElem? (i := 71) rfl)) rfl
theorem q0_65 : Cond.selects RX12 yX12_begins yX12_begins ∈ lw_all := lw_in (tc_0 (List.mem_of_getElem? (i := 65) rfl)) rfl
theorem q8_72 : Cond.code yX12_begins cX12_begins 1 none ∈ lw_all := lw_in (tc_8 (List.mem_of_getElem? (i := 72) rfl)) rfl
theorem q8_165 : Cond.methodLink RX12 699 yX12_reads ∈ lw_all := lw_in (tc_8 (List.mem_of_getElem? (i := 165) rfl)) rfl
theorem q8_167 : Cond.instanceMethod yX12_reads ∈ lw_all := lw_in (tc_8 (List.mem_of_getElem? (i := 167) rfl)) rfl
theorem q0_76 : Cond.selects RX12 yX12_reads yX12_reads ∈ lw_all := lw_in (tc_0 (List.mem_of_getElem? (i := 76) rfl)) rfl
theorem q8_168 : Cond.code yX12_reads cX12_reads 3 (some .boolean) ∈ lw_all := lw_in (tc_8 (List.mem_of_getElem? (i := 168) rfl)) rfl
theorem q9_12 : Cond.methodLink RX12 702 yX12_means ∈ lw_all := lw_in (tc_9 (List.mem_of_getElem? (i := 12) rfl)) rfl
theorem q9_14 : Cond.instanceMethod yX12_means ∈ lw_all := lw_in (tc_9 (List.mem_of_getElem? (i := 14) rfl)) rfl
theorem q0_97 : Cond.selects RX12 yX12_means yX12_means ∈ lw_all := lw_in (tc_0 (List.mem_of_getElem? (i := 97) rfl)) rfl
theorem q9_15 : Cond.code yX12_means cX12_means 7 (some .boolean) ∈ lw_all := lw_in (tc_9 (List.mem_of_getElem? (i := 15) rfl)) rfl
theorem q9_28 : Cond.methodLink RX12 705 yX12_judges ∈ lw_all := lw_in (tc_9 (List.mem_of_getElem? (i := 28) rfl)) rfl
theorem q9_30 : Cond.instanceMethod yX12_judges ∈ lw_all := lw_in (tc_9 (List.mem_of_getElem? (i := 30) rfl)) rfl
theorem q0_101 : Cond.selects RX12 yX12_judges yX12_judges ∈ lw_all := lw_in (tc_0 (List.mem_of_getElem? (i := 101) rfl)) rfl
theorem q9_31 : Cond.code yX12_judges cX12_judges 4 (some .boolean) ∈ lw_all := lw_in (tc_9 (List.mem_of_getElem? (i := 31) rfl)) rfl
theorem q9_61 : Cond.methodLink RX12 708 yX12_settle ∈ lw_all := lw_in (tc_9 (List.mem_of_getElem? (i := 61) rfl)) rfl
theorem q9_63 : Cond.instanceMethod yX12_settle ∈ lw_all := lw_in (tc_9 (List.mem_of_getElem? (i := 63) rfl)) rfl
theorem q0_107 : Cond.selects RX12 yX12_settle yX12_settle ∈ lw_all := lw_in (tc_0 (List.mem_of_getElem? (i := 107) rfl)) rfl
theorem q9_64 : Cond.code yX12_settle cX12_settle 5 none ∈ lw_all := lw_in (tc_9 (List.mem_of_getElem? (i := 64) rfl)) rfl
theorem q9_151 : Cond.methodLink RX12 714 yX12_rowCalled ∈ lw_all := lw_in (tc_9 (List.mem_of_getElem? (i := 151) rfl)) rfl
theorem q9_153 : Cond.instanceMethod yX12_rowCalled ∈ lw_all := lw_in (tc_9 (List.mem_of_getElem? (i := 153) rfl)) rfl
theorem q0_123 : Cond.selects RX12 yX12_rowCalled yX12_rowCalled ∈ lw_all := lw_in (tc_0 (List.mem_of_getElem? (i := 123) rfl)) rfl
theorem q9_154 : Cond.code yX12_rowCalled cX12_rowCalled 5 (some .int) ∈ lw_all := lw_in (tc_9 (List.mem_of_getElem? (i := 154) rfl)) rfl
theorem q9_147 : Cond.methodLink RX12 717 yX12_asks ∈ lw_all := lw_in (tc_9 (List.mem_of_getElem? (i := 147) rfl)) rfl
theorem q9_149 : Cond.instanceMethod yX12_asks ∈ lw_all := lw_in (tc_9 (List.mem_of_getElem? (i := 149) rfl)) rfl
theorem q0_122 : Cond.selects RX12 yX12_asks yX12_asks ∈ lw_all := lw_in (tc_0 (List.mem_of_getElem? (i := 122) rfl)) rfl
theorem q9_150 : Cond.code yX12_asks cX12_asks 3 (some .int) ∈ lw_all := lw_in (tc_9 (List.mem_of_getElem? (i := 150) rfl)) rfl
/-! ### X12_thing -/
theorem dX12_thing_0 : decode cX12_thing 0 = .ok (.aload_n 0, 1) := by decide +kernel
theorem dX12_thing_1 : decode cX12_thing 1 = .ok (.getfield 82, 3) := by decide +kernel
theorem dX12_thing_4 : decode cX12_thing 4 = .ok (.aload_n 0, 1) := by decide +kernel
theorem dX12_thing_5 : decode cX12_thing 5 = .ok (.getfield 116, 3) := by decide +kernel
theorem dX12_thing_8 : decode cX12_thing 8 = .ok (.iaload, 1) := by decide +kernel
theorem dX12_thing_9 : decode cX12_thing 9 = .ok (.sipush 200, 3) := by decide +kernel
theorem dX12_thing_12 : decode cX12_thing 12 = .ok (.if_icmp .ne 7, 3) := by decide +kernel
theorem dX12_thing_15 : decode cX12_thing 15 = .ok (.iconst 1, 1) := by decide +kernel
theorem dX12_thing_16 : decode cX12_thing 16 = .ok (.goto 4, 3) := by decide +kernel
theorem dX12_thing_19 : decode cX12_thing 19 = .ok (.iconst 0, 1) := by decide +kernel
theorem dX12_thing_20 : decode cX12_thing 20 = .ok (.istore_n 1, 1) := by decide +kernel
theorem dX12_thing_21 : decode cX12_thing 21 = .ok (.aload_n 0, 1) := by decide +kernel
theorem dX12_thing_22 : decode cX12_thing 22 = .ok (.dup, 1) := by decide +kernel
theorem dX12_thing_23 : decode cX12_thing 23 = .ok (.getfield 116, 3) := by decide +kernel
theorem dX12_thing_26 : decode cX12_thing 26 = .ok (.iconst 1, 1) := by decide +kernel
theorem dX12_thing_27 : decode cX12_thing 27 = .ok (.iadd, 1) := by decide +kernel
theorem dX12_thing_28 : decode cX12_thing 28 = .ok (.putfield 116, 3) := by decide +kernel
theorem dX12_thing_31 : decode cX12_thing 31 = .ok (.aload_n 0, 1) := by decide +kernel
theorem dX12_thing_32 : decode cX12_thing 32 = .ok (.getfield 82, 3) := by decide +kernel
theorem dX12_thing_35 : decode cX12_thing 35 = .ok (.aload_n 0, 1) := by decide +kernel
theorem dX12_thing_36 : decode cX12_thing 36 = .ok (.getfield 116, 3) := by decide +kernel
theorem dX12_thing_39 : decode cX12_thing 39 = .ok (.iaload, 1) := by decide +kernel
theorem dX12_thing_40 : decode cX12_thing 40 = .ok (.iconst 2, 1) := by decide +kernel
theorem dX12_thing_41 : decode cX12_thing 41 = .ok (.if_icmp .eq 8, 3) := by decide +kernel
theorem dX12_thing_44 : decode cX12_thing 44 = .ok (.aload_n 0, 1) := by decide +kernel
theorem dX12_thing_45 : decode cX12_thing 45 = .ok (.invokevirtual 544, 3) := by decide +kernel
theorem dX12_thing_48 : decode cX12_thing 48 = .ok (.ireturn, 1) := by decide +kernel
theorem dX12_thing_49 : decode cX12_thing 49 = .ok (.aload_n 0, 1) := by decide +kernel
theorem dX12_thing_50 : decode cX12_thing 50 = .ok (.getfield 156, 3) := by decide +kernel
theorem dX12_thing_53 : decode cX12_thing 53 = .ok (.istore_n 2, 1) := by decide +kernel
theorem dX12_thing_54 : decode cX12_thing 54 = .ok (.aload_n 0, 1) := by decide +kernel
theorem dX12_thing_55 : decode cX12_thing 55 = .ok (.dup, 1) := by decide +kernel
theorem dX12_thing_56 : decode cX12_thing 56 = .ok (.getfield 156, 3) := by decide +kernel
theorem dX12_thing_59 : decode cX12_thing 59 = .ok (.iconst 1, 1) := by decide +kernel
theorem dX12_thing_60 : decode cX12_thing 60 = .ok (.iadd, 1) := by decide +kernel
theorem dX12_thing_61 : decode cX12_thing 61 = .ok (.putfield 156, 3) := by decide +kernel
theorem dX12_thing_64 : decode cX12_thing 64 = .ok (.aload_n 0, 1) := by decide +kernel
theorem dX12_thing_65 : decode cX12_thing 65 = .ok (.getfield 156, 3) := by decide +kernel
theorem dX12_thing_68 : decode cX12_thing 68 = .ok (.bipush 41, 2) := by decide +kernel
theorem dX12_thing_70 : decode cX12_thing 70 = .ok (.if_icmp .ne 16, 3) := by decide +kernel
theorem dX12_thing_73 : decode cX12_thing 73 = .ok (.aload_n 0, 1) := by decide +kernel
theorem dX12_thing_74 : decode cX12_thing 74 = .ok (.aload_n 0, 1) := by decide +kernel
theorem dX12_thing_75 : decode cX12_thing 75 = .ok (.getfield 86, 3) := by decide +kernel
theorem dX12_thing_78 : decode cX12_thing 78 = .ok (.aload_n 0, 1) := by decide +kernel
theorem dX12_thing_79 : decode cX12_thing 79 = .ok (.getfield 116, 3) := by decide +kernel
theorem dX12_thing_82 : decode cX12_thing 82 = .ok (.iaload, 1) := by decide +kernel
theorem dX12_thing_83 : decode cX12_thing 83 = .ok (.invokevirtual 541, 3) := by decide +kernel
theorem dX12_thing_86 : decode cX12_thing 86 = .ok (.aload_n 0, 1) := by decide +kernel
theorem dX12_thing_87 : decode cX12_thing 87 = .ok (.getfield 168, 3) := by decide +kernel
theorem dX12_thing_90 : decode cX12_thing 90 = .ok (.iload_n 2, 1) := by decide +kernel
theorem dX12_thing_91 : decode cX12_thing 91 = .ok (.aload_n 0, 1) := by decide +kernel
theorem dX12_thing_92 : decode cX12_thing 92 = .ok (.getfield 116, 3) := by decide +kernel
theorem dX12_thing_95 : decode cX12_thing 95 = .ok (.iastore, 1) := by decide +kernel
theorem dX12_thing_96 : decode cX12_thing 96 = .ok (.aload_n 0, 1) := by decide +kernel
theorem dX12_thing_97 : decode cX12_thing 97 = .ok (.getfield 174, 3) := by decide +kernel
theorem dX12_thing_100 : decode cX12_thing 100 = .ok (.iload_n 2, 1) := by decide +kernel
theorem dX12_thing_101 : decode cX12_thing 101 = .ok (.iload_n 1, 1) := by decide +kernel
theorem dX12_thing_102 : decode cX12_thing 102 = .ok (.bastore, 1) := by decide +kernel
theorem dX12_thing_103 : decode cX12_thing 103 = .ok (.aload_n 0, 1) := by decide +kernel
theorem dX12_thing_104 : decode cX12_thing 104 = .ok (.getfield 193, 3) := by decide +kernel
theorem dX12_thing_107 : decode cX12_thing 107 = .ok (.iload_n 2, 1) := by decide +kernel
theorem dX12_thing_108 : decode cX12_thing 108 = .ok (.aload_n 0, 1) := by decide +kernel
theorem dX12_thing_109 : decode cX12_thing 109 = .ok (.getfield 138, 3) := by decide +kernel
theorem dX12_thing_112 : decode cX12_thing 112 = .ok (.iastore, 1) := by decide +kernel
theorem dX12_thing_113 : decode cX12_thing 113 = .ok (.aload_n 0, 1) := by decide +kernel
theorem dX12_thing_114 : decode cX12_thing 114 = .ok (.iconst 1, 1) := by decide +kernel
theorem dX12_thing_115 : decode cX12_thing 115 = .ok (.putfield 134, 3) := by decide +kernel
theorem dX12_thing_118 : decode cX12_thing 118 = .ok (.aload_n 0, 1) := by decide +kernel
theorem dX12_thing_119 : decode cX12_thing 119 = .ok (.iconst 0, 1) := by decide +kernel
theorem dX12_thing_120 : decode cX12_thing 120 = .ok (.aload_n 0, 1) := by decide +kernel
theorem dX12_thing_121 : decode cX12_thing 121 = .ok (.getfield 116, 3) := by decide +kernel
theorem dX12_thing_124 : decode cX12_thing 124 = .ok (.iconst (-1), 1) := by decide +kernel
theorem dX12_thing_125 : decode cX12_thing 125 = .ok (.invokevirtual 591, 3) := by decide +kernel
theorem dX12_thing_128 : decode cX12_thing 128 = .ok (.aload_n 0, 1) := by decide +kernel
theorem dX12_thing_129 : decode cX12_thing 129 = .ok (.dup, 1) := by decide +kernel
theorem dX12_thing_130 : decode cX12_thing 130 = .ok (.getfield 116, 3) := by decide +kernel
theorem dX12_thing_133 : decode cX12_thing 133 = .ok (.iconst 1, 1) := by decide +kernel
theorem dX12_thing_134 : decode cX12_thing 134 = .ok (.iadd, 1) := by decide +kernel
theorem dX12_thing_135 : decode cX12_thing 135 = .ok (.putfield 116, 3) := by decide +kernel
theorem dX12_thing_138 : decode cX12_thing 138 = .ok (.aload_n 0, 1) := by decide +kernel
theorem dX12_thing_139 : decode cX12_thing 139 = .ok (.bipush 58, 2) := by decide +kernel
theorem dX12_thing_141 : decode cX12_thing 141 = .ok (.invokevirtual 564, 3) := by decide +kernel
theorem dX12_thing_144 : decode cX12_thing 144 = .ok (.ifCond .ne 5, 3) := by decide +kernel
theorem dX12_thing_147 : decode cX12_thing 147 = .ok (.iconst 0, 1) := by decide +kernel
theorem dX12_thing_148 : decode cX12_thing 148 = .ok (.ireturn, 1) := by decide +kernel
theorem dX12_thing_149 : decode cX12_thing 149 = .ok (.aload_n 0, 1) := by decide +kernel
theorem dX12_thing_150 : decode cX12_thing 150 = .ok (.getfield 82, 3) := by decide +kernel
theorem dX12_thing_153 : decode cX12_thing 153 = .ok (.aload_n 0, 1) := by decide +kernel
theorem dX12_thing_154 : decode cX12_thing 154 = .ok (.getfield 116, 3) := by decide +kernel
theorem dX12_thing_157 : decode cX12_thing 157 = .ok (.iaload, 1) := by decide +kernel
theorem dX12_thing_158 : decode cX12_thing 158 = .ok (.invokestatic 582, 3) := by decide +kernel
theorem dX12_thing_161 : decode cX12_thing 161 = .ok (.ifCond .ne 8, 3) := by decide +kernel
theorem dX12_thing_164 : decode cX12_thing 164 = .ok (.aload_n 0, 1) := by decide +kernel
theorem dX12_thing_165 : decode cX12_thing 165 = .ok (.invokevirtual 544, 3) := by decide +kernel
theorem dX12_thing_168 : decode cX12_thing 168 = .ok (.ireturn, 1) := by decide +kernel
theorem dX12_thing_169 : decode cX12_thing 169 = .ok (.aload_n 0, 1) := by decide +kernel
theorem dX12_thing_170 : decode cX12_thing 170 = .ok (.getfield 171, 3) := by decide +kernel
theorem dX12_thing_173 : decode cX12_thing 173 = .ok (.iload_n 2, 1) := by decide +kernel
theorem dX12_thing_174 : decode cX12_thing 174 = .ok (.aload_n 0, 1) := by decide +kernel
theorem dX12_thing_175 : decode cX12_thing 175 = .ok (.getfield 82, 3) := by decide +kernel
theorem dX12_thing_178 : decode cX12_thing 178 = .ok (.aload_n 0, 1) := by decide +kernel
theorem dX12_thing_179 : decode cX12_thing 179 = .ok (.getfield 116, 3) := by decide +kernel
theorem dX12_thing_182 : decode cX12_thing 182 = .ok (.iaload, 1) := by decide +kernel
theorem dX12_thing_183 : decode cX12_thing 183 = .ok (.sipush 218, 3) := by decide +kernel
theorem dX12_thing_186 : decode cX12_thing 186 = .ok (.isub, 1) := by decide +kernel
theorem dX12_thing_187 : decode cX12_thing 187 = .ok (.iastore, 1) := by decide +kernel
theorem dX12_thing_188 : decode cX12_thing 188 = .ok (.aload_n 0, 1) := by decide +kernel
theorem dX12_thing_189 : decode cX12_thing 189 = .ok (.dup, 1) := by decide +kernel
theorem dX12_thing_190 : decode cX12_thing 190 = .ok (.getfield 116, 3) := by decide +kernel
theorem dX12_thing_193 : decode cX12_thing 193 = .ok (.iconst 1, 1) := by decide +kernel
theorem dX12_thing_194 : decode cX12_thing 194 = .ok (.iadd, 1) := by decide +kernel
theorem dX12_thing_195 : decode cX12_thing 195 = .ok (.putfield 116, 3) := by decide +kernel
theorem dX12_thing_198 : decode cX12_thing 198 = .ok (.aload_n 0, 1) := by decide +kernel
theorem dX12_thing_199 : decode cX12_thing 199 = .ok (.getfield 187, 3) := by decide +kernel
theorem dX12_thing_202 : decode cX12_thing 202 = .ok (.iload_n 2, 1) := by decide +kernel
theorem dX12_thing_203 : decode cX12_thing 203 = .ok (.aload_n 0, 1) := by decide +kernel
theorem dX12_thing_204 : decode cX12_thing 204 = .ok (.getfield 86, 3) := by decide +kernel
theorem dX12_thing_207 : decode cX12_thing 207 = .ok (.aload_n 0, 1) := by decide +kernel
theorem dX12_thing_208 : decode cX12_thing 208 = .ok (.getfield 116, 3) := by decide +kernel
theorem dX12_thing_211 : decode cX12_thing 211 = .ok (.iaload, 1) := by decide +kernel
theorem dX12_thing_212 : decode cX12_thing 212 = .ok (.iastore, 1) := by decide +kernel
theorem dX12_thing_213 : decode cX12_thing 213 = .ok (.aload_n 0, 1) := by decide +kernel
theorem dX12_thing_214 : decode cX12_thing 214 = .ok (.bipush 61, 2) := by decide +kernel
theorem dX12_thing_216 : decode cX12_thing 216 = .ok (.invokevirtual 564, 3) := by decide +kernel
theorem dX12_thing_219 : decode cX12_thing 219 = .ok (.ifCond .ne 5, 3) := by decide +kernel
theorem dX12_thing_222 : decode cX12_thing 222 = .ok (.iconst 0, 1) := by decide +kernel
theorem dX12_thing_223 : decode cX12_thing 223 = .ok (.ireturn, 1) := by decide +kernel
theorem dX12_thing_224 : decode cX12_thing 224 = .ok (.aload_n 0, 1) := by decide +kernel
theorem dX12_thing_225 : decode cX12_thing 225 = .ok (.getfield 178, 3) := by decide +kernel
theorem dX12_thing_228 : decode cX12_thing 228 = .ok (.iload_n 2, 1) := by decide +kernel
theorem dX12_thing_229 : decode cX12_thing 229 = .ok (.aload_n 0, 1) := by decide +kernel
theorem dX12_thing_230 : decode cX12_thing 230 = .ok (.getfield 113, 3) := by decide +kernel
theorem dX12_thing_233 : decode cX12_thing 233 = .ok (.iastore, 1) := by decide +kernel
theorem dX12_thing_234 : decode cX12_thing 234 = .ok (.aload_n 0, 1) := by decide +kernel
theorem dX12_thing_235 : decode cX12_thing 235 = .ok (.invokevirtual 561, 3) := by decide +kernel
theorem dX12_thing_238 : decode cX12_thing 238 = .ok (.ifCond .ne 5, 3) := by decide +kernel
theorem dX12_thing_241 : decode cX12_thing 241 = .ok (.iconst 0, 1) := by decide +kernel
theorem dX12_thing_242 : decode cX12_thing 242 = .ok (.ireturn, 1) := by decide +kernel
theorem dX12_thing_243 : decode cX12_thing 243 = .ok (.aload_n 0, 1) := by decide +kernel
theorem dX12_thing_244 : decode cX12_thing 244 = .ok (.getfield 181, 3) := by decide +kernel
theorem dX12_thing_247 : decode cX12_thing 247 = .ok (.iload_n 2, 1) := by decide +kernel
theorem dX12_thing_248 : decode cX12_thing 248 = .ok (.aload_n 0, 1) := by decide +kernel
theorem dX12_thing_249 : decode cX12_thing 249 = .ok (.getfield 113, 3) := by decide +kernel
theorem dX12_thing_252 : decode cX12_thing 252 = .ok (.iastore, 1) := by decide +kernel
theorem dX12_thing_253 : decode cX12_thing 253 = .ok (.aload_n 0, 1) := by decide +kernel
theorem dX12_thing_254 : decode cX12_thing 254 = .ok (.getfield 190, 3) := by decide +kernel
theorem dX12_thing_257 : decode cX12_thing 257 = .ok (.iload_n 2, 1) := by decide +kernel
theorem dX12_thing_258 : decode cX12_thing 258 = .ok (.aload_n 0, 1) := by decide +kernel
theorem dX12_thing_259 : decode cX12_thing 259 = .ok (.getfield 86, 3) := by decide +kernel
theorem dX12_thing_262 : decode cX12_thing 262 = .ok (.aload_n 0, 1) := by decide +kernel
theorem dX12_thing_263 : decode cX12_thing 263 = .ok (.getfield 116, 3) := by decide +kernel
theorem dX12_thing_266 : decode cX12_thing 266 = .ok (.iaload, 1) := by decide +kernel
theorem dX12_thing_267 : decode cX12_thing 267 = .ok (.iastore, 1) := by decide +kernel
theorem dX12_thing_268 : decode cX12_thing 268 = .ok (.aload_n 0, 1) := by decide +kernel
theorem dX12_thing_269 : decode cX12_thing 269 = .ok (.iconst 0, 1) := by decide +kernel
theorem dX12_thing_270 : decode cX12_thing 270 = .ok (.putfield 134, 3) := by decide +kernel
theorem dX12_thing_273 : decode cX12_thing 273 = .ok (.iload_n 1, 1) := by decide +kernel
theorem dX12_thing_274 : decode cX12_thing 274 = .ok (.ifCond .eq 22, 3) := by decide +kernel
theorem dX12_thing_277 : decode cX12_thing 277 = .ok (.aload_n 0, 1) := by decide +kernel
theorem dX12_thing_278 : decode cX12_thing 278 = .ok (.sipush 204, 3) := by decide +kernel
theorem dX12_thing_281 : decode cX12_thing 281 = .ok (.invokevirtual 564, 3) := by decide +kernel
theorem dX12_thing_284 : decode cX12_thing 284 = .ok (.ifCond .eq 10, 3) := by decide +kernel
theorem dX12_thing_287 : decode cX12_thing 287 = .ok (.aload_n 0, 1) := by decide +kernel
theorem dX12_thing_288 : decode cX12_thing 288 = .ok (.invokevirtual 561, 3) := by decide +kernel
theorem dX12_thing_291 : decode cX12_thing 291 = .ok (.ifCond .ne 5, 3) := by decide +kernel
theorem dX12_thing_294 : decode cX12_thing 294 = .ok (.iconst 0, 1) := by decide +kernel
theorem dX12_thing_295 : decode cX12_thing 295 = .ok (.ireturn, 1) := by decide +kernel
theorem dX12_thing_296 : decode cX12_thing 296 = .ok (.aload_n 0, 1) := by decide +kernel
theorem dX12_thing_297 : decode cX12_thing 297 = .ok (.getfield 184, 3) := by decide +kernel
theorem dX12_thing_300 : decode cX12_thing 300 = .ok (.iload_n 2, 1) := by decide +kernel
theorem dX12_thing_301 : decode cX12_thing 301 = .ok (.aload_n 0, 1) := by decide +kernel
theorem dX12_thing_302 : decode cX12_thing 302 = .ok (.getfield 113, 3) := by decide +kernel
theorem dX12_thing_305 : decode cX12_thing 305 = .ok (.iastore, 1) := by decide +kernel
theorem dX12_thing_306 : decode cX12_thing 306 = .ok (.aload_n 0, 1) := by decide +kernel
theorem dX12_thing_307 : decode cX12_thing 307 = .ok (.bipush 59, 2) := by decide +kernel
theorem dX12_thing_309 : decode cX12_thing 309 = .ok (.invokevirtual 564, 3) := by decide +kernel
theorem dX12_thing_312 : decode cX12_thing 312 = .ok (.ireturn, 1) := by decide +kernel
abbrev R_X12_thing : Room := ({ frames := 426, cells := 0, slots := 0, locals := 25423 } : Room)
def b_X12_thing_296 (n : Nat) (gT : Gs) (v2 : Int32) : Option (Int32 × Gs) :=
  grd (inB v2 400) (bnd (f_X12_need (sIA gT 42 (upd (gIA gT 42) v2.toNatClampNeg (gI gT 19))) (59 : Int32)) (fun q_26 => grd (zB q_26.1) (some (q_26.1, q_26.2))))
def b_X12_thing_86 (n : Nat) (gT : Gs) (v1 : Int32) (v2 : Int32) : Option (Int32 × Gs) :=
  grd (inB v2 400) (grd (inB v2 400) (grd (inB v2 400) (bnd (f_X12_name (sI (sIA (sIA (sIA gT 37 (upd (gIA gT 37) v2.toNatClampNeg (gI gT 20))) 39 (upd (gIA gT 39) v2.toNatClampNeg (vp_nar .boolean v1))) 45 (upd (gIA gT 45) v2.toNatClampNeg (gI gT 27))) 26 (1 : Int32)) (0 : Int32) (gI gT 20) (-1 : Int32)) (fun q_6 => bnd (f_X12_need (sI q_6 20 ((gI q_6 20) + (1 : Int32))) (58 : Int32)) (fun q_8 => if q_8.1 = 0 then (some ((0 : Int32), q_8.2)) else (grd (inB (gI q_8.2 20) 3001) (bnd (f_X12_isSort (gIA q_8.2 9 (gI q_8.2 20).toNatClampNeg)) (fun q_11 => if q_11 = 0 then (bnd (f_X12_cannot q_8.2) (fun q_33 => grd (zB q_33.1) (some (q_33.1, q_33.2)))) else (grd (inB (gI q_8.2 20) 3001) (grd (inB v2 400) (grd (inB ((gI q_8.2 20) + (1 : Int32)) 3001) (grd (inB v2 400) (bnd (f_X12_need (sIA (sI (sIA q_8.2 38 (upd (gIA q_8.2 38) v2.toNatClampNeg ((gIA q_8.2 9 (gI q_8.2 20).toNatClampNeg) - (218 : Int32)))) 20 ((gI q_8.2 20) + (1 : Int32))) 43 (upd (gIA q_8.2 43) v2.toNatClampNeg (gIA q_8.2 10 ((gI q_8.2 20) + (1 : Int32)).toNatClampNeg))) (61 : Int32)) (fun q_17 => if q_17.1 = 0 then (some ((0 : Int32), q_17.2)) else (grd (inB v2 400) (bnd (ff_X12_formula n (sIA q_17.2 40 (upd (gIA q_17.2 40) v2.toNatClampNeg (gI q_17.2 19)))) (fun q_20 => if q_20.1 = 0 then (some ((0 : Int32), q_20.2)) else (grd (inB v2 400) (grd (inB (gI q_20.2 20) 3001) (grd (inB v2 400) (if v1 = 0 then (b_X12_thing_296 n (sI (sIA (sIA q_20.2 41 (upd (gIA q_20.2 41) v2.toNatClampNeg (gI q_20.2 19))) 44 (upd (gIA q_20.2 44) v2.toNatClampNeg (gIA q_20.2 10 (gI q_20.2 20).toNatClampNeg))) 26 (0 : Int32)) v2) else (bnd (f_X12_need (sI (sIA (sIA q_20.2 41 (upd (gIA q_20.2 41) v2.toNatClampNeg (gI q_20.2 19))) 44 (upd (gIA q_20.2 44) v2.toNatClampNeg (gIA q_20.2 10 (gI q_20.2 20).toNatClampNeg))) 26 (0 : Int32)) (204 : Int32)) (fun q_29 => if q_29.1 = 0 then (some ((0 : Int32), q_29.2)) else (bnd (ff_X12_formula n q_29.2) (fun q_31 => if q_31.1 = 0 then (some ((0 : Int32), q_31.2)) else (b_X12_thing_296 n q_31.2 v2))))))))))))))))))))))))))
def b_X12_thing_20 (n : Nat) (gT : Gs) (s0 : Int32) : Option (Int32 × Gs) :=
  grd (inB ((gI gT 20) + (1 : Int32)) 3001) (if (gIA gT 9 ((gI gT 20) + (1 : Int32)).toNatClampNeg) = (2 : Int32) then (if ((gI gT 33) + (1 : Int32)) = (41 : Int32) then (grd (inB ((gI gT 20) + (1 : Int32)) 3001) (bnd (f_X12_much (sI (sI gT 20 ((gI gT 20) + (1 : Int32))) 33 ((gI gT 33) + (1 : Int32))) (gIA gT 10 ((gI gT 20) + (1 : Int32)).toNatClampNeg)) (fun q_37 => b_X12_thing_86 n q_37 s0 (gI gT 33)))) else (b_X12_thing_86 n (sI (sI gT 20 ((gI gT 20) + (1 : Int32))) 33 ((gI gT 33) + (1 : Int32))) s0 (gI gT 33))) else (bnd (f_X12_cannot (sI gT 20 ((gI gT 20) + (1 : Int32)))) (fun q_39 => grd (zB q_39.1) (some (q_39.1, q_39.2)))))
def f_X12_thing (n : Nat) (gT : Gs) : Option (Int32 × Gs) :=
  grd (inB (gI gT 20) 3001) (if (gIA gT 9 (gI gT 20).toNatClampNeg) = (200 : Int32) then (b_X12_thing_20 n gT (1 : Int32)) else (b_X12_thing_20 n gT (0 : Int32)))
def S_X12_thing_296 (l : Launch) (D : Dx) (hT : Nat) (aT : Nat → Nat) (yT : Nat → ClassId) (fn : Gs → Int32 → Option (Int32 × Gs)) : Prop :=
  ∀ {p : Program} {e : Env} {s : State} {m : MethodId} {args : Array Value} {below : List Frame} {meth : Method} {c : Code} {H : Heap} {locs : List Loc} {A : Nat → Prop} {ls : Array Slot} {gT : Gs} {v2 : Int32} {q : Int32 × Gs}, Cx p s m args meth c cX12_thing (some .boolean) 3 RX12 lw_all → Hx D (tX12 yT) A s H locs (wX12 hT aT yT gT) → lv_has ls 3 [(0, .ref hT), (2, .int v2)] → fn gT v2 = some q → W p l e R_X12_thing s m args below meth c H locs 0 0 (MQ below (QI D A (wX12 hT aT yT q.2) q.1) args s 0 0 A) (F0 m 296 ls [])
def S_X12_thing_86 (l : Launch) (D : Dx) (hT : Nat) (aT : Nat → Nat) (yT : Nat → ClassId) (fn : Gs → Int32 → Int32 → Option (Int32 × Gs)) : Prop :=
  ∀ {p : Program} {e : Env} {s : State} {m : MethodId} {args : Array Value} {below : List Frame} {meth : Method} {c : Code} {H : Heap} {locs : List Loc} {A : Nat → Prop} {ls : Array Slot} {gT : Gs} {v1 : Int32} {v2 : Int32} {q : Int32 × Gs}, Cx p s m args meth c cX12_thing (some .boolean) 3 RX12 lw_all → Hx D (tX12 yT) A s H locs (wX12 hT aT yT gT) → lv_has ls 3 [(0, .ref hT), (1, .int v1), (2, .int v2)] → fn gT v1 v2 = some q → W p l e R_X12_thing s m args below meth c H locs 0 0 (MQ below (QI D A (wX12 hT aT yT q.2) q.1) args s 0 0 A) (F0 m 86 ls [])
def S_X12_thing_20 (l : Launch) (D : Dx) (hT : Nat) (aT : Nat → Nat) (yT : Nat → ClassId) (fn : Gs → Int32 → Option (Int32 × Gs)) : Prop :=
  ∀ {p : Program} {e : Env} {s : State} {m : MethodId} {args : Array Value} {below : List Frame} {meth : Method} {c : Code} {H : Heap} {locs : List Loc} {A : Nat → Prop} {ls : Array Slot} {gT : Gs} {s0 : Int32} {q : Int32 × Gs}, Cx p s m args meth c cX12_thing (some .boolean) 3 RX12 lw_all → Hx D (tX12 yT) A s H locs (wX12 hT aT yT gT) → lv_has ls 3 [(0, .ref hT)] → fn gT s0 = some q → W p l e R_X12_thing s m args below meth c H locs 0 0 (MQ below (QI D A (wX12 hT aT yT q.2) q.1) args s 0 0 A) (F0 m 20 ls [.int s0])
set_option maxHeartbeats 4000000 in
set_option maxRecDepth 100000 in
theorem k_X12_thing_296 (l : Launch) (D : Dx) (hT : Nat) (aT : Nat → Nat) (yT : Nat → ClassId) (n : Nat) : S_X12_thing_296 l D hT aT yT (b_X12_thing_296 n) := by
  intro p e s m args below meth c H locs A ls gT v2 q C X hl hF
  obtain ⟨hx, hb, hr, hml, hown, hts, hlk⟩ := id C
  unfold b_X12_thing_296 at hF
  refine lv_aload_n hx hb dX12_thing_296 rfl (lv_at hl 0 rfl) ?_
  refine va_get (D := D.1) (ci := 12) (v := .ref (aT 42)) (C := RX12) (T := TX12) (N := 114) hx hb hts wi_X12 hown X.1 X.2.1 0 rfl rfl 42 (by decide) (hts _ q6_236) (fun _ h9 => h9) (fl_get (by decide)) dX12_thing_297 ?_
  refine lv_iload_n hx hb dX12_thing_300 rfl (lv_at hl 1 rfl) ?_
  refine lv_aload_n hx hb dX12_thing_301 rfl (lv_at hl 0 rfl) ?_
  refine va_get (D := D.1) (ci := 12) (v := .int (gI gT 19)) (C := RX12) (T := TX12) (N := 114) hx hb hts wi_X12 hown X.1 X.2.1 0 rfl rfl 19 (by decide) (hts _ q6_213) (fun _ h9 => h9) (fl_get (by decide)) dX12_thing_302 ?_
  obtain ⟨h_25, hF⟩ := grd_some hF
  refine va_iast (D := D.1) (f := gIA gT 42) hx hb X.1 X.2.1 X.2.2.1 X.2.2.2.1 24 23 rfl rfl (inB_ok h_25) dX12_thing_305 (fun H locs hP hD hS => ?_)
  have X : Hx D (tX12 yT) A s H locs (wX12 hT aT yT (sIA gT 42 (upd (gIA gT 42) v2.toNatClampNeg (gI gT 19)))) := Hx_set X (wG_sIA (i := 23) (k := 42) ndX12 rfl rfl) hP hD hS
  refine lv_aload_n hx hb dX12_thing_306 rfl (lv_at hl 0 rfl) ?_
  refine lv_bipush (v := (59 : Int32)) hx hb dX12_thing_307 (by decide) ?_
  obtain ⟨q_26, hc_27, hF⟩ := bnd_some hF
  refine cV_i (As := [.int (59 : Int32)]) (rest := []) C X (c_X12_need l D hT aT yT (sIA gT 42 (upd (gIA gT 42) v2.toNatClampNeg (gI gT 19))) (59 : Int32) q_26 hc_27 _) (cwV 1 hts (good_V q8_189 q8_191 q0_82 q1_9 q8_192) rfl rfl rfl (by decide +kernel) ⟨Nat.le_of_ble_eq_true rfl, Nat.le_of_ble_eq_true rfl⟩) (va_recv X.1 X.2.1 (ci := 12) (q0 := 0) rfl rfl) X.1 X.2.1 X.2.2.1 (free_all X) hl.1 rfl rfl (Nat.le_of_ble_eq_true rfl) dX12_thing_309 ⟨Nat.le_of_ble_eq_true rfl, Nat.le_of_ble_eq_true rfl⟩ (fun t H1 locs1 ht hB hk hS => ?_)
  have X : Hx D (tX12 yT) A s H1 locs1 (wX12 hT aT yT q_26.2) := Hx_after_all X ht hB hS
  clear hk hS ht hB
  generalize H1 = H at X ⊢
  generalize locs1 = locs at X ⊢
  obtain ⟨h_28, hF⟩ := grd_some hF
  have hq := Option.some.inj hF
  subst hq
  exact rt_z (v := q_26.1) C X (zB_n h_28) dX12_thing_312
set_option maxHeartbeats 4000000 in
set_option maxRecDepth 100000 in
theorem k_X12_thing_86 (l : Launch) (D : Dx) (hT : Nat) (aT : Nat → Nat) (yT : Nat → ClassId) (n : Nat) : S_X12_thing_86 l D hT aT yT (b_X12_thing_86 n) := by
  intro p e s m args below meth c H locs A ls gT v1 v2 q C X hl hF
  obtain ⟨hx, hb, hr, hml, hown, hts, hlk⟩ := id C
  unfold b_X12_thing_86 at hF
  refine lv_aload_n hx hb dX12_thing_86 rfl (lv_at hl 0 rfl) ?_
  refine va_get (D := D.1) (ci := 12) (v := .ref (aT 37)) (C := RX12) (T := TX12) (N := 114) hx hb hts wi_X12 hown X.1 X.2.1 0 rfl rfl 37 (by decide) (hts _ q6_231) (fun _ h9 => h9) (fl_get (by decide)) dX12_thing_87 ?_
  refine lv_iload_n hx hb dX12_thing_90 rfl (lv_at hl 2 rfl) ?_
  refine lv_aload_n hx hb dX12_thing_91 rfl (lv_at hl 0 rfl) ?_
  refine va_get (D := D.1) (ci := 12) (v := .int (gI gT 20)) (C := RX12) (T := TX12) (N := 114) hx hb hts wi_X12 hown X.1 X.2.1 0 rfl rfl 20 (by decide) (hts _ q6_214) (fun _ h9 => h9) (fl_get (by decide)) dX12_thing_92 ?_
  obtain ⟨h_3, hF⟩ := grd_some hF
  refine va_iast (D := D.1) (f := gIA gT 37) hx hb X.1 X.2.1 X.2.2.1 X.2.2.2.1 19 18 rfl rfl (inB_ok h_3) dX12_thing_95 (fun H locs hP hD hS => ?_)
  have X : Hx D (tX12 yT) A s H locs (wX12 hT aT yT (sIA gT 37 (upd (gIA gT 37) v2.toNatClampNeg (gI gT 20)))) := Hx_set X (wG_sIA (i := 18) (k := 37) ndX12 rfl rfl) hP hD hS
  refine lv_aload_n hx hb dX12_thing_96 rfl (lv_at hl 0 rfl) ?_
  refine va_get (D := D.1) (ci := 12) (v := .ref (aT 39)) (C := RX12) (T := TX12) (N := 114) hx hb hts wi_X12 hown X.1 X.2.1 0 rfl rfl 39 (by decide) (hts _ q6_233) (fun _ h9 => h9) (fl_get (by decide)) dX12_thing_97 ?_
  refine lv_iload_n hx hb dX12_thing_100 rfl (lv_at hl 2 rfl) ?_
  refine lv_iload_n hx hb dX12_thing_101 rfl (lv_at hl 1 rfl) ?_
  obtain ⟨h_4, hF⟩ := grd_some hF
  refine va_zast (D := D.1) (f := gIA gT 39) hx hb X.1 X.2.1 X.2.2.1 X.2.2.2.1 21 20 rfl rfl (inB_ok h_4) dX12_thing_102 (fun H locs hP hD hS => ?_)
  have X : Hx D (tX12 yT) A s H locs (wX12 hT aT yT (sIA (sIA gT 37 (upd (gIA gT 37) v2.toNatClampNeg (gI gT 20))) 39 (upd (gIA gT 39) v2.toNatClampNeg (vp_nar .boolean v1)))) := Hx_set X (wG_sIA (i := 20) (k := 39) ndX12 rfl rfl) hP hD hS
  refine lv_aload_n hx hb dX12_thing_103 rfl (lv_at hl 0 rfl) ?_
  refine va_get (D := D.1) (ci := 12) (v := .ref (aT 45)) (C := RX12) (T := TX12) (N := 114) hx hb hts wi_X12 hown X.1 X.2.1 0 rfl rfl 45 (by decide) (hts _ q6_239) (fun _ h9 => h9) (fl_get (by decide)) dX12_thing_104 ?_
  refine lv_iload_n hx hb dX12_thing_107 rfl (lv_at hl 2 rfl) ?_
  refine lv_aload_n hx hb dX12_thing_108 rfl (lv_at hl 0 rfl) ?_
  refine va_get (D := D.1) (ci := 12) (v := .int (gI gT 27)) (C := RX12) (T := TX12) (N := 114) hx hb hts wi_X12 hown X.1 X.2.1 0 rfl rfl 27 (by decide) (hts _ q6_221) (fun _ h9 => h9) (fl_get (by decide)) dX12_thing_109 ?_
  obtain ⟨h_5, hF⟩ := grd_some hF
  refine va_iast (D := D.1) (f := gIA gT 45) hx hb X.1 X.2.1 X.2.2.1 X.2.2.2.1 27 26 rfl rfl (inB_ok h_5) dX12_thing_112 (fun H locs hP hD hS => ?_)
  have X : Hx D (tX12 yT) A s H locs (wX12 hT aT yT (sIA (sIA (sIA gT 37 (upd (gIA gT 37) v2.toNatClampNeg (gI gT 20))) 39 (upd (gIA gT 39) v2.toNatClampNeg (vp_nar .boolean v1))) 45 (upd (gIA gT 45) v2.toNatClampNeg (gI gT 27)))) := Hx_set X (wG_sIA (i := 26) (k := 45) ndX12 rfl rfl) hP hD hS
  refine lv_aload_n hx hb dX12_thing_113 rfl (lv_at hl 0 rfl) ?_
  refine lv_iconst (v := (1 : Int32)) hx hb dX12_thing_114 (by decide) ?_
  refine va_put (D := D.1) (ci := 12) (v := .int (1 : Int32)) (ty := .boolean) (C := RX12) (T := TX12) (N := 114) hx hb hts wi_X12 tyX12 tyX12_ok nmX12 hown X.1 X.2.1 X.2.2.1 X.2.2.2.1 0 rfl rfl 26 (by decide) (hts _ q6_220) (fun _ h9 => h9) rfl (by decide +kernel) rfl rfl (by rw [List.length_map, List.length_range]; decide) dX12_thing_115 (fun H locs hP hD hS => ?_)
  have X : Hx D (tX12 yT) A s H locs (wX12 hT aT yT (sI (sIA (sIA (sIA gT 37 (upd (gIA gT 37) v2.toNatClampNeg (gI gT 20))) 39 (upd (gIA gT 39) v2.toNatClampNeg (vp_nar .boolean v1))) 45 (upd (gIA gT 45) v2.toNatClampNeg (gI gT 27))) 26 (1 : Int32))) := Hx_set X (wG_sI (k := 26) rfl) hP hD hS
  refine lv_aload_n hx hb dX12_thing_118 rfl (lv_at hl 0 rfl) ?_
  refine lv_iconst (v := (0 : Int32)) hx hb dX12_thing_119 (by decide) ?_
  refine lv_aload_n hx hb dX12_thing_120 rfl (lv_at hl 0 rfl) ?_
  refine va_get (D := D.1) (ci := 12) (v := .int (gI gT 20)) (C := RX12) (T := TX12) (N := 114) hx hb hts wi_X12 hown X.1 X.2.1 0 rfl rfl 20 (by decide) (hts _ q6_214) (fun _ h9 => h9) (fl_get (by decide)) dX12_thing_121 ?_
  refine lv_iconst (v := (-1 : Int32)) hx hb dX12_thing_124 (by decide) ?_
  obtain ⟨q_6, hc_7, hF⟩ := bnd_some hF
  refine cV_v (As := [.int (0 : Int32), .int (gI gT 20), .int (-1 : Int32)]) (rest := []) C X (c_X12_name l D hT aT yT (sI (sIA (sIA (sIA gT 37 (upd (gIA gT 37) v2.toNatClampNeg (gI gT 20))) 39 (upd (gIA gT 39) v2.toNatClampNeg (vp_nar .boolean v1))) 45 (upd (gIA gT 45) v2.toNatClampNeg (gI gT 27))) 26 (1 : Int32)) (0 : Int32) (gI gT 20) (-1 : Int32) q_6 hc_7 _) (cwV 3 hts (good_V q8_185 q8_187 q0_81 q1_9 q8_188) rfl rfl rfl (by decide +kernel) ⟨Nat.le_of_ble_eq_true rfl, Nat.le_of_ble_eq_true rfl⟩) (va_recv X.1 X.2.1 (ci := 12) (q0 := 0) rfl rfl) X.1 X.2.1 X.2.2.1 (free_all X) hl.1 rfl rfl (Nat.le_of_ble_eq_true rfl) dX12_thing_125 ⟨Nat.le_of_ble_eq_true rfl, Nat.le_of_ble_eq_true rfl⟩ (fun t H1 locs1 ht hB hk hS => ?_)
  have X : Hx D (tX12 yT) A s H1 locs1 (wX12 hT aT yT q_6) := Hx_after_all X ht hB hS
  clear hk hS ht hB
  generalize H1 = H at X ⊢
  generalize locs1 = locs at X ⊢
  refine lv_aload_n hx hb dX12_thing_128 rfl (lv_at hl 0 rfl) ?_
  refine lv_dup hx hb dX12_thing_129 rfl ?_
  refine va_get (D := D.1) (ci := 12) (v := .int (gI q_6 20)) (C := RX12) (T := TX12) (N := 114) hx hb hts wi_X12 hown X.1 X.2.1 0 rfl rfl 20 (by decide) (hts _ q6_214) (fun _ h9 => h9) (fl_get (by decide)) dX12_thing_130 ?_
  refine lv_iconst (v := (1 : Int32)) hx hb dX12_thing_133 (by decide) ?_
  refine lv_iadd hx hb dX12_thing_134 ?_
  refine va_put (D := D.1) (ci := 12) (v := .int ((gI q_6 20) + (1 : Int32))) (ty := .int) (C := RX12) (T := TX12) (N := 114) hx hb hts wi_X12 tyX12 tyX12_ok nmX12 hown X.1 X.2.1 X.2.2.1 X.2.2.2.1 0 rfl rfl 20 (by decide) (hts _ q6_214) (fun _ h9 => h9) rfl (by decide +kernel) rfl rfl (by rw [List.length_map, List.length_range]; decide) dX12_thing_135 (fun H locs hP hD hS => ?_)
  have X : Hx D (tX12 yT) A s H locs (wX12 hT aT yT (sI q_6 20 ((gI q_6 20) + (1 : Int32)))) := Hx_set X (wG_sI (k := 20) rfl) hP hD hS
  refine lv_aload_n hx hb dX12_thing_138 rfl (lv_at hl 0 rfl) ?_
  refine lv_bipush (v := (58 : Int32)) hx hb dX12_thing_139 (by decide) ?_
  obtain ⟨q_8, hc_9, hF⟩ := bnd_some hF
  refine cV_i (As := [.int (58 : Int32)]) (rest := []) C X (c_X12_need l D hT aT yT (sI q_6 20 ((gI q_6 20) + (1 : Int32))) (58 : Int32) q_8 hc_9 _) (cwV 1 hts (good_V q8_189 q8_191 q0_82 q1_9 q8_192) rfl rfl rfl (by decide +kernel) ⟨Nat.le_of_ble_eq_true rfl, Nat.le_of_ble_eq_true rfl⟩) (va_recv X.1 X.2.1 (ci := 12) (q0 := 0) rfl rfl) X.1 X.2.1 X.2.2.1 (free_all X) hl.1 rfl rfl (Nat.le_of_ble_eq_true rfl) dX12_thing_141 ⟨Nat.le_of_ble_eq_true rfl, Nat.le_of_ble_eq_true rfl⟩ (fun t H1 locs1 ht hB hk hS => ?_)
  have X : Hx D (tX12 yT) A s H1 locs1 (wX12 hT aT yT q_8.2) := Hx_after_all X ht hB hS
  clear hk hS ht hB
  generalize H1 = H at X ⊢
  generalize locs1 = locs at X ⊢
  refine lv_if_ne (tgt := 149) hx hb dX12_thing_144 (by decide) (fun c => ?_) (fun c => ?_)
  · replace hF := iF c hF
    refine lv_aload_n hx hb dX12_thing_149 rfl (lv_at hl 0 rfl) ?_
    refine va_get (D := D.1) (ci := 12) (v := .ref (aT 9)) (C := RX12) (T := TX12) (N := 114) hx hb hts wi_X12 hown X.1 X.2.1 0 rfl rfl 9 (by decide) (hts _ q6_203) (fun _ h9 => h9) (fl_get (by decide)) dX12_thing_150 ?_
    refine lv_aload_n hx hb dX12_thing_153 rfl (lv_at hl 0 rfl) ?_
    refine va_get (D := D.1) (ci := 12) (v := .int (gI q_8.2 20)) (C := RX12) (T := TX12) (N := 114) hx hb hts wi_X12 hown X.1 X.2.1 0 rfl rfl 20 (by decide) (hts _ q6_214) (fun _ h9 => h9) (fl_get (by decide)) dX12_thing_154 ?_
    obtain ⟨h_10, hF⟩ := grd_some hF
    refine va_iald (D := D.1) (f := gIA q_8.2 9) hx hb X.1 X.2.1 4 3 rfl rfl (inB_ok h_10) dX12_thing_157 ?_
    obtain ⟨q_11, hc_12, hF⟩ := bnd_some hF
    refine cS_i (As := [.int (gIA q_8.2 9 (gI q_8.2 20).toNatClampNeg)]) (rest := []) C X (c_X12_isSort l D  (gIA q_8.2 9 (gI q_8.2 20).toNatClampNeg) q_11 hc_12 _) (va_cwS 1 hts (good_S q8_193 q8_194 q1_9 q8_195) rfl rfl rfl (by decide +kernel) ⟨Nat.le_of_ble_eq_true rfl, Nat.le_of_ble_eq_true rfl⟩) (eK X) eP (eD (A := A)) (eF X) hl.1 rfl rfl (Nat.le_of_ble_eq_true rfl) dX12_thing_158 ⟨Nat.le_of_ble_eq_true rfl, Nat.le_of_ble_eq_true rfl⟩ (fun t H1 locs1 ht hB hk hS => ?_)
    have X := Hx_after_none X hk hS
    clear hk hS ht hB
    generalize H1 = H at X ⊢
    generalize locs1 = locs at X ⊢
    refine lv_if_ne (tgt := 169) hx hb dX12_thing_161 (by decide) (fun c => ?_) (fun c => ?_)
    · replace hF := iF c hF
      refine lv_aload_n hx hb dX12_thing_169 rfl (lv_at hl 0 rfl) ?_
      refine va_get (D := D.1) (ci := 12) (v := .ref (aT 38)) (C := RX12) (T := TX12) (N := 114) hx hb hts wi_X12 hown X.1 X.2.1 0 rfl rfl 38 (by decide) (hts _ q6_232) (fun _ h9 => h9) (fl_get (by decide)) dX12_thing_170 ?_
      refine lv_iload_n hx hb dX12_thing_173 rfl (lv_at hl 2 rfl) ?_
      refine lv_aload_n hx hb dX12_thing_174 rfl (lv_at hl 0 rfl) ?_
      refine va_get (D := D.1) (ci := 12) (v := .ref (aT 9)) (C := RX12) (T := TX12) (N := 114) hx hb hts wi_X12 hown X.1 X.2.1 0 rfl rfl 9 (by decide) (hts _ q6_203) (fun _ h9 => h9) (fl_get (by decide)) dX12_thing_175 ?_
      refine lv_aload_n hx hb dX12_thing_178 rfl (lv_at hl 0 rfl) ?_
      refine va_get (D := D.1) (ci := 12) (v := .int (gI q_8.2 20)) (C := RX12) (T := TX12) (N := 114) hx hb hts wi_X12 hown X.1 X.2.1 0 rfl rfl 20 (by decide) (hts _ q6_214) (fun _ h9 => h9) (fl_get (by decide)) dX12_thing_179 ?_
      obtain ⟨h_13, hF⟩ := grd_some hF
      refine va_iald (D := D.1) (f := gIA q_8.2 9) hx hb X.1 X.2.1 4 3 rfl rfl (inB_ok h_13) dX12_thing_182 ?_
      refine lv_sipush (v := (218 : Int32)) hx hb dX12_thing_183 (by decide) ?_
      refine lv_isub hx hb dX12_thing_186 ?_
      obtain ⟨h_14, hF⟩ := grd_some hF
      refine va_iast (D := D.1) (f := gIA q_8.2 38) hx hb X.1 X.2.1 X.2.2.1 X.2.2.2.1 20 19 rfl rfl (inB_ok h_14) dX12_thing_187 (fun H locs hP hD hS => ?_)
      have X : Hx D (tX12 yT) A s H locs (wX12 hT aT yT (sIA q_8.2 38 (upd (gIA q_8.2 38) v2.toNatClampNeg ((gIA q_8.2 9 (gI q_8.2 20).toNatClampNeg) - (218 : Int32))))) := Hx_set X (wG_sIA (i := 19) (k := 38) ndX12 rfl rfl) hP hD hS
      refine lv_aload_n hx hb dX12_thing_188 rfl (lv_at hl 0 rfl) ?_
      refine lv_dup hx hb dX12_thing_189 rfl ?_
      refine va_get (D := D.1) (ci := 12) (v := .int (gI q_8.2 20)) (C := RX12) (T := TX12) (N := 114) hx hb hts wi_X12 hown X.1 X.2.1 0 rfl rfl 20 (by decide) (hts _ q6_214) (fun _ h9 => h9) (fl_get (by decide)) dX12_thing_190 ?_
      refine lv_iconst (v := (1 : Int32)) hx hb dX12_thing_193 (by decide) ?_
      refine lv_iadd hx hb dX12_thing_194 ?_
      refine va_put (D := D.1) (ci := 12) (v := .int ((gI q_8.2 20) + (1 : Int32))) (ty := .int) (C := RX12) (T := TX12) (N := 114) hx hb hts wi_X12 tyX12 tyX12_ok nmX12 hown X.1 X.2.1 X.2.2.1 X.2.2.2.1 0 rfl rfl 20 (by decide) (hts _ q6_214) (fun _ h9 => h9) rfl (by decide +kernel) rfl rfl (by rw [List.length_map, List.length_range]; decide) dX12_thing_195 (fun H locs hP hD hS => ?_)
      have X : Hx D (tX12 yT) A s H locs (wX12 hT aT yT (sI (sIA q_8.2 38 (upd (gIA q_8.2 38) v2.toNatClampNeg ((gIA q_8.2 9 (gI q_8.2 20).toNatClampNeg) - (218 : Int32)))) 20 ((gI q_8.2 20) + (1 : Int32)))) := Hx_set X (wG_sI (k := 20) rfl) hP hD hS
      refine lv_aload_n hx hb dX12_thing_198 rfl (lv_at hl 0 rfl) ?_
      refine va_get (D := D.1) (ci := 12) (v := .ref (aT 43)) (C := RX12) (T := TX12) (N := 114) hx hb hts wi_X12 hown X.1 X.2.1 0 rfl rfl 43 (by decide) (hts _ q6_237) (fun _ h9 => h9) (fl_get (by decide)) dX12_thing_199 ?_
      refine lv_iload_n hx hb dX12_thing_202 rfl (lv_at hl 2 rfl) ?_
      refine lv_aload_n hx hb dX12_thing_203 rfl (lv_at hl 0 rfl) ?_
      refine va_get (D := D.1) (ci := 12) (v := .ref (aT 10)) (C := RX12) (T := TX12) (N := 114) hx hb hts wi_X12 hown X.1 X.2.1 0 rfl rfl 10 (by decide) (hts _ q6_204) (fun _ h9 => h9) (fl_get (by decide)) dX12_thing_204 ?_
      refine lv_aload_n hx hb dX12_thing_207 rfl (lv_at hl 0 rfl) ?_
      refine va_get (D := D.1) (ci := 12) (v := .int ((gI q_8.2 20) + (1 : Int32))) (C := RX12) (T := TX12) (N := 114) hx hb hts wi_X12 hown X.1 X.2.1 0 rfl rfl 20 (by decide) (hts _ q6_214) (fun _ h9 => h9) (fl_get (by decide)) dX12_thing_208 ?_
      obtain ⟨h_15, hF⟩ := grd_some hF
      refine va_iald (D := D.1) (f := gIA q_8.2 10) hx hb X.1 X.2.1 5 4 rfl rfl (inB_ok h_15) dX12_thing_211 ?_
      obtain ⟨h_16, hF⟩ := grd_some hF
      refine va_iast (D := D.1) (f := gIA q_8.2 43) hx hb X.1 X.2.1 X.2.2.1 X.2.2.2.1 25 24 rfl rfl (inB_ok h_16) dX12_thing_212 (fun H locs hP hD hS => ?_)
      have X : Hx D (tX12 yT) A s H locs (wX12 hT aT yT (sIA (sI (sIA q_8.2 38 (upd (gIA q_8.2 38) v2.toNatClampNeg ((gIA q_8.2 9 (gI q_8.2 20).toNatClampNeg) - (218 : Int32)))) 20 ((gI q_8.2 20) + (1 : Int32))) 43 (upd (gIA q_8.2 43) v2.toNatClampNeg (gIA q_8.2 10 ((gI q_8.2 20) + (1 : Int32)).toNatClampNeg)))) := Hx_set X (wG_sIA (i := 24) (k := 43) ndX12 rfl rfl) hP hD hS
      refine lv_aload_n hx hb dX12_thing_213 rfl (lv_at hl 0 rfl) ?_
      refine lv_bipush (v := (61 : Int32)) hx hb dX12_thing_214 (by decide) ?_
      obtain ⟨q_17, hc_18, hF⟩ := bnd_some hF
      refine cV_i (As := [.int (61 : Int32)]) (rest := []) C X (c_X12_need l D hT aT yT (sIA (sI (sIA q_8.2 38 (upd (gIA q_8.2 38) v2.toNatClampNeg ((gIA q_8.2 9 (gI q_8.2 20).toNatClampNeg) - (218 : Int32)))) 20 ((gI q_8.2 20) + (1 : Int32))) 43 (upd (gIA q_8.2 43) v2.toNatClampNeg (gIA q_8.2 10 ((gI q_8.2 20) + (1 : Int32)).toNatClampNeg))) (61 : Int32) q_17 hc_18 _) (cwV 1 hts (good_V q8_189 q8_191 q0_82 q1_9 q8_192) rfl rfl rfl (by decide +kernel) ⟨Nat.le_of_ble_eq_true rfl, Nat.le_of_ble_eq_true rfl⟩) (va_recv X.1 X.2.1 (ci := 12) (q0 := 0) rfl rfl) X.1 X.2.1 X.2.2.1 (free_all X) hl.1 rfl rfl (Nat.le_of_ble_eq_true rfl) dX12_thing_216 ⟨Nat.le_of_ble_eq_true rfl, Nat.le_of_ble_eq_true rfl⟩ (fun t H1 locs1 ht hB hk hS => ?_)
      have X : Hx D (tX12 yT) A s H1 locs1 (wX12 hT aT yT q_17.2) := Hx_after_all X ht hB hS
      clear hk hS ht hB
      generalize H1 = H at X ⊢
      generalize locs1 = locs at X ⊢
      refine lv_if_ne (tgt := 224) hx hb dX12_thing_219 (by decide) (fun c => ?_) (fun c => ?_)
      · replace hF := iF c hF
        refine lv_aload_n hx hb dX12_thing_224 rfl (lv_at hl 0 rfl) ?_
        refine va_get (D := D.1) (ci := 12) (v := .ref (aT 40)) (C := RX12) (T := TX12) (N := 114) hx hb hts wi_X12 hown X.1 X.2.1 0 rfl rfl 40 (by decide) (hts _ q6_234) (fun _ h9 => h9) (fl_get (by decide)) dX12_thing_225 ?_
        refine lv_iload_n hx hb dX12_thing_228 rfl (lv_at hl 2 rfl) ?_
        refine lv_aload_n hx hb dX12_thing_229 rfl (lv_at hl 0 rfl) ?_
        refine va_get (D := D.1) (ci := 12) (v := .int (gI q_17.2 19)) (C := RX12) (T := TX12) (N := 114) hx hb hts wi_X12 hown X.1 X.2.1 0 rfl rfl 19 (by decide) (hts _ q6_213) (fun _ h9 => h9) (fl_get (by decide)) dX12_thing_230 ?_
        obtain ⟨h_19, hF⟩ := grd_some hF
        refine va_iast (D := D.1) (f := gIA q_17.2 40) hx hb X.1 X.2.1 X.2.2.1 X.2.2.2.1 22 21 rfl rfl (inB_ok h_19) dX12_thing_233 (fun H locs hP hD hS => ?_)
        have X : Hx D (tX12 yT) A s H locs (wX12 hT aT yT (sIA q_17.2 40 (upd (gIA q_17.2 40) v2.toNatClampNeg (gI q_17.2 19)))) := Hx_set X (wG_sIA (i := 21) (k := 40) ndX12 rfl rfl) hP hD hS
        refine lv_aload_n hx hb dX12_thing_234 rfl (lv_at hl 0 rfl) ?_
        obtain ⟨q_20, hc_21, hF⟩ := bnd_some hF
        refine cV_i (As := []) (rest := []) C X (cc_X12_formula l D hT aT yT n (sIA q_17.2 40 (upd (gIA q_17.2 40) v2.toNatClampNeg (gI q_17.2 19))) q_20 hc_21 _) (cwV 0 hts (good_V q8_196 q8_198 q0_83 q1_9 q8_199) rfl rfl rfl (by decide +kernel) ⟨Nat.le_of_ble_eq_true rfl, Nat.le_of_ble_eq_true rfl⟩) (va_recv X.1 X.2.1 (ci := 12) (q0 := 0) rfl rfl) X.1 X.2.1 X.2.2.1 (free_all X) hl.1 rfl rfl (Nat.le_of_ble_eq_true rfl) dX12_thing_235 ⟨Nat.le_of_ble_eq_true rfl, Nat.le_of_ble_eq_true rfl⟩ (fun t H1 locs1 ht hB hk hS => ?_)
        have X : Hx D (tX12 yT) A s H1 locs1 (wX12 hT aT yT q_20.2) := Hx_after_all X ht hB hS
        clear hk hS ht hB
        generalize H1 = H at X ⊢
        generalize locs1 = locs at X ⊢
        refine lv_if_ne (tgt := 243) hx hb dX12_thing_238 (by decide) (fun c => ?_) (fun c => ?_)
        · replace hF := iF c hF
          refine lv_aload_n hx hb dX12_thing_243 rfl (lv_at hl 0 rfl) ?_
          refine va_get (D := D.1) (ci := 12) (v := .ref (aT 41)) (C := RX12) (T := TX12) (N := 114) hx hb hts wi_X12 hown X.1 X.2.1 0 rfl rfl 41 (by decide) (hts _ q6_235) (fun _ h9 => h9) (fl_get (by decide)) dX12_thing_244 ?_
          refine lv_iload_n hx hb dX12_thing_247 rfl (lv_at hl 2 rfl) ?_
          refine lv_aload_n hx hb dX12_thing_248 rfl (lv_at hl 0 rfl) ?_
          refine va_get (D := D.1) (ci := 12) (v := .int (gI q_20.2 19)) (C := RX12) (T := TX12) (N := 114) hx hb hts wi_X12 hown X.1 X.2.1 0 rfl rfl 19 (by decide) (hts _ q6_213) (fun _ h9 => h9) (fl_get (by decide)) dX12_thing_249 ?_
          obtain ⟨h_22, hF⟩ := grd_some hF
          refine va_iast (D := D.1) (f := gIA q_20.2 41) hx hb X.1 X.2.1 X.2.2.1 X.2.2.2.1 23 22 rfl rfl (inB_ok h_22) dX12_thing_252 (fun H locs hP hD hS => ?_)
          have X : Hx D (tX12 yT) A s H locs (wX12 hT aT yT (sIA q_20.2 41 (upd (gIA q_20.2 41) v2.toNatClampNeg (gI q_20.2 19)))) := Hx_set X (wG_sIA (i := 22) (k := 41) ndX12 rfl rfl) hP hD hS
          refine lv_aload_n hx hb dX12_thing_253 rfl (lv_at hl 0 rfl) ?_
          refine va_get (D := D.1) (ci := 12) (v := .ref (aT 44)) (C := RX12) (T := TX12) (N := 114) hx hb hts wi_X12 hown X.1 X.2.1 0 rfl rfl 44 (by decide) (hts _ q6_238) (fun _ h9 => h9) (fl_get (by decide)) dX12_thing_254 ?_
          refine lv_iload_n hx hb dX12_thing_257 rfl (lv_at hl 2 rfl) ?_
          refine lv_aload_n hx hb dX12_thing_258 rfl (lv_at hl 0 rfl) ?_
          refine va_get (D := D.1) (ci := 12) (v := .ref (aT 10)) (C := RX12) (T := TX12) (N := 114) hx hb hts wi_X12 hown X.1 X.2.1 0 rfl rfl 10 (by decide) (hts _ q6_204) (fun _ h9 => h9) (fl_get (by decide)) dX12_thing_259 ?_
          refine lv_aload_n hx hb dX12_thing_262 rfl (lv_at hl 0 rfl) ?_
          refine va_get (D := D.1) (ci := 12) (v := .int (gI q_20.2 20)) (C := RX12) (T := TX12) (N := 114) hx hb hts wi_X12 hown X.1 X.2.1 0 rfl rfl 20 (by decide) (hts _ q6_214) (fun _ h9 => h9) (fl_get (by decide)) dX12_thing_263 ?_
          obtain ⟨h_23, hF⟩ := grd_some hF
          refine va_iald (D := D.1) (f := gIA q_20.2 10) hx hb X.1 X.2.1 5 4 rfl rfl (inB_ok h_23) dX12_thing_266 ?_
          obtain ⟨h_24, hF⟩ := grd_some hF
          refine va_iast (D := D.1) (f := gIA q_20.2 44) hx hb X.1 X.2.1 X.2.2.1 X.2.2.2.1 26 25 rfl rfl (inB_ok h_24) dX12_thing_267 (fun H locs hP hD hS => ?_)
          have X : Hx D (tX12 yT) A s H locs (wX12 hT aT yT (sIA (sIA q_20.2 41 (upd (gIA q_20.2 41) v2.toNatClampNeg (gI q_20.2 19))) 44 (upd (gIA q_20.2 44) v2.toNatClampNeg (gIA q_20.2 10 (gI q_20.2 20).toNatClampNeg)))) := Hx_set X (wG_sIA (i := 25) (k := 44) ndX12 rfl rfl) hP hD hS
          refine lv_aload_n hx hb dX12_thing_268 rfl (lv_at hl 0 rfl) ?_
          refine lv_iconst (v := (0 : Int32)) hx hb dX12_thing_269 (by decide) ?_
          refine va_put (D := D.1) (ci := 12) (v := .int (0 : Int32)) (ty := .boolean) (C := RX12) (T := TX12) (N := 114) hx hb hts wi_X12 tyX12 tyX12_ok nmX12 hown X.1 X.2.1 X.2.2.1 X.2.2.2.1 0 rfl rfl 26 (by decide) (hts _ q6_220) (fun _ h9 => h9) rfl (by decide +kernel) rfl rfl (by rw [List.length_map, List.length_range]; decide) dX12_thing_270 (fun H locs hP hD hS => ?_)
          have X : Hx D (tX12 yT) A s H locs (wX12 hT aT yT (sI (sIA (sIA q_20.2 41 (upd (gIA q_20.2 41) v2.toNatClampNeg (gI q_20.2 19))) 44 (upd (gIA q_20.2 44) v2.toNatClampNeg (gIA q_20.2 10 (gI q_20.2 20).toNatClampNeg))) 26 (0 : Int32))) := Hx_set X (wG_sI (k := 26) rfl) hP hD hS
          refine lv_iload_n hx hb dX12_thing_273 rfl (lv_at hl 1 rfl) ?_
          refine lv_if_eq (tgt := 296) hx hb dX12_thing_274 (by decide) (fun c => ?_) (fun c => ?_)
          · replace hF := iT c hF
            exact (k_X12_thing_296 l D hT aT yT n) C X (lv_sub hl [0, 2] rfl) hF
          · replace hF := iF c hF
            refine lv_aload_n hx hb dX12_thing_277 rfl (lv_at hl 0 rfl) ?_
            refine lv_sipush (v := (204 : Int32)) hx hb dX12_thing_278 (by decide) ?_
            obtain ⟨q_29, hc_30, hF⟩ := bnd_some hF
            refine cV_i (As := [.int (204 : Int32)]) (rest := []) C X (c_X12_need l D hT aT yT (sI (sIA (sIA q_20.2 41 (upd (gIA q_20.2 41) v2.toNatClampNeg (gI q_20.2 19))) 44 (upd (gIA q_20.2 44) v2.toNatClampNeg (gIA q_20.2 10 (gI q_20.2 20).toNatClampNeg))) 26 (0 : Int32)) (204 : Int32) q_29 hc_30 _) (cwV 1 hts (good_V q8_189 q8_191 q0_82 q1_9 q8_192) rfl rfl rfl (by decide +kernel) ⟨Nat.le_of_ble_eq_true rfl, Nat.le_of_ble_eq_true rfl⟩) (va_recv X.1 X.2.1 (ci := 12) (q0 := 0) rfl rfl) X.1 X.2.1 X.2.2.1 (free_all X) hl.1 rfl rfl (Nat.le_of_ble_eq_true rfl) dX12_thing_281 ⟨Nat.le_of_ble_eq_true rfl, Nat.le_of_ble_eq_true rfl⟩ (fun t H1 locs1 ht hB hk hS => ?_)
            have X : Hx D (tX12 yT) A s H1 locs1 (wX12 hT aT yT q_29.2) := Hx_after_all X ht hB hS
            clear hk hS ht hB
            generalize H1 = H at X ⊢
            generalize locs1 = locs at X ⊢
            refine lv_if_eq (tgt := 294) hx hb dX12_thing_284 (by decide) (fun c => ?_) (fun c => ?_)
            · replace hF := iT c hF
              refine lv_iconst (v := (0 : Int32)) hx hb dX12_thing_294 (by decide) ?_
              have hq := Option.some.inj hF
              subst hq
              exact rt_z (v := (0 : Int32)) C X (by decide) dX12_thing_295
            · replace hF := iF c hF
              refine lv_aload_n hx hb dX12_thing_287 rfl (lv_at hl 0 rfl) ?_
              obtain ⟨q_31, hc_32, hF⟩ := bnd_some hF
              refine cV_i (As := []) (rest := []) C X (cc_X12_formula l D hT aT yT n q_29.2 q_31 hc_32 _) (cwV 0 hts (good_V q8_196 q8_198 q0_83 q1_9 q8_199) rfl rfl rfl (by decide +kernel) ⟨Nat.le_of_ble_eq_true rfl, Nat.le_of_ble_eq_true rfl⟩) (va_recv X.1 X.2.1 (ci := 12) (q0 := 0) rfl rfl) X.1 X.2.1 X.2.2.1 (free_all X) hl.1 rfl rfl (Nat.le_of_ble_eq_true rfl) dX12_thing_288 ⟨Nat.le_of_ble_eq_true rfl, Nat.le_of_ble_eq_true rfl⟩ (fun t H1 locs1 ht hB hk hS => ?_)
              have X : Hx D (tX12 yT) A s H1 locs1 (wX12 hT aT yT q_31.2) := Hx_after_all X ht hB hS
              clear hk hS ht hB
              generalize H1 = H at X ⊢
              generalize locs1 = locs at X ⊢
              refine lv_if_ne (tgt := 296) hx hb dX12_thing_291 (by decide) (fun c => ?_) (fun c => ?_)
              · replace hF := iF c hF
                exact (k_X12_thing_296 l D hT aT yT n) C X (lv_sub hl [0, 2] rfl) hF
              · replace hF := iT c hF
                refine lv_iconst (v := (0 : Int32)) hx hb dX12_thing_294 (by decide) ?_
                have hq := Option.some.inj hF
                subst hq
                exact rt_z (v := (0 : Int32)) C X (by decide) dX12_thing_295
        · replace hF := iT c hF
          refine lv_iconst (v := (0 : Int32)) hx hb dX12_thing_241 (by decide) ?_
          have hq := Option.some.inj hF
          subst hq
          exact rt_z (v := (0 : Int32)) C X (by decide) dX12_thing_242
      · replace hF := iT c hF
        refine lv_iconst (v := (0 : Int32)) hx hb dX12_thing_222 (by decide) ?_
        have hq := Option.some.inj hF
        subst hq
        exact rt_z (v := (0 : Int32)) C X (by decide) dX12_thing_223
    · replace hF := iT c hF
      refine lv_aload_n hx hb dX12_thing_164 rfl (lv_at hl 0 rfl) ?_
      obtain ⟨q_33, hc_34, hF⟩ := bnd_some hF
      refine cV_i (As := []) (rest := []) C X (c_X12_cannot l D hT aT yT q_8.2 q_33 hc_34 _) (cwV 0 hts (good_V q8_173 q8_175 q0_78 q1_9 q8_176) rfl rfl rfl (by decide +kernel) ⟨Nat.le_of_ble_eq_true rfl, Nat.le_of_ble_eq_true rfl⟩) (va_recv X.1 X.2.1 (ci := 12) (q0 := 0) rfl rfl) X.1 X.2.1 X.2.2.1 (free_all X) hl.1 rfl rfl (Nat.le_of_ble_eq_true rfl) dX12_thing_165 ⟨Nat.le_of_ble_eq_true rfl, Nat.le_of_ble_eq_true rfl⟩ (fun t H1 locs1 ht hB hk hS => ?_)
      have X : Hx D (tX12 yT) A s H1 locs1 (wX12 hT aT yT q_33.2) := Hx_after_all X ht hB hS
      clear hk hS ht hB
      generalize H1 = H at X ⊢
      generalize locs1 = locs at X ⊢
      obtain ⟨h_35, hF⟩ := grd_some hF
      have hq := Option.some.inj hF
      subst hq
      exact rt_z (v := q_33.1) C X (zB_n h_35) dX12_thing_168
  · replace hF := iT c hF
    refine lv_iconst (v := (0 : Int32)) hx hb dX12_thing_147 (by decide) ?_
    have hq := Option.some.inj hF
    subst hq
    exact rt_z (v := (0 : Int32)) C X (by decide) dX12_thing_148
set_option maxHeartbeats 4000000 in
set_option maxRecDepth 100000 in
theorem k_X12_thing_20 (l : Launch) (D : Dx) (hT : Nat) (aT : Nat → Nat) (yT : Nat → ClassId) (n : Nat) : S_X12_thing_20 l D hT aT yT (b_X12_thing_20 n) := by
  intro p e s m args below meth c H locs A ls gT s0 q C X hl hF
  obtain ⟨hx, hb, hr, hml, hown, hts, hlk⟩ := id C
  unfold b_X12_thing_20 at hF
  refine lv_istore_n (lv' := [(1, .int s0), (0, .ref hT)]) hx hb dX12_thing_20 rfl hl (by decide) rfl (fun ls hl => ?_)
  refine lv_aload_n hx hb dX12_thing_21 rfl (lv_at hl 1 rfl) ?_
  refine lv_dup hx hb dX12_thing_22 rfl ?_
  refine va_get (D := D.1) (ci := 12) (v := .int (gI gT 20)) (C := RX12) (T := TX12) (N := 114) hx hb hts wi_X12 hown X.1 X.2.1 0 rfl rfl 20 (by decide) (hts _ q6_214) (fun _ h9 => h9) (fl_get (by decide)) dX12_thing_23 ?_
  refine lv_iconst (v := (1 : Int32)) hx hb dX12_thing_26 (by decide) ?_
  refine lv_iadd hx hb dX12_thing_27 ?_
  refine va_put (D := D.1) (ci := 12) (v := .int ((gI gT 20) + (1 : Int32))) (ty := .int) (C := RX12) (T := TX12) (N := 114) hx hb hts wi_X12 tyX12 tyX12_ok nmX12 hown X.1 X.2.1 X.2.2.1 X.2.2.2.1 0 rfl rfl 20 (by decide) (hts _ q6_214) (fun _ h9 => h9) rfl (by decide +kernel) rfl rfl (by rw [List.length_map, List.length_range]; decide) dX12_thing_28 (fun H locs hP hD hS => ?_)
  have X : Hx D (tX12 yT) A s H locs (wX12 hT aT yT (sI gT 20 ((gI gT 20) + (1 : Int32)))) := Hx_set X (wG_sI (k := 20) rfl) hP hD hS
  refine lv_aload_n hx hb dX12_thing_31 rfl (lv_at hl 1 rfl) ?_
  refine va_get (D := D.1) (ci := 12) (v := .ref (aT 9)) (C := RX12) (T := TX12) (N := 114) hx hb hts wi_X12 hown X.1 X.2.1 0 rfl rfl 9 (by decide) (hts _ q6_203) (fun _ h9 => h9) (fl_get (by decide)) dX12_thing_32 ?_
  refine lv_aload_n hx hb dX12_thing_35 rfl (lv_at hl 1 rfl) ?_
  refine va_get (D := D.1) (ci := 12) (v := .int ((gI gT 20) + (1 : Int32))) (C := RX12) (T := TX12) (N := 114) hx hb hts wi_X12 hown X.1 X.2.1 0 rfl rfl 20 (by decide) (hts _ q6_214) (fun _ h9 => h9) (fl_get (by decide)) dX12_thing_36 ?_
  obtain ⟨h_2, hF⟩ := grd_some hF
  refine va_iald (D := D.1) (f := gIA gT 9) hx hb X.1 X.2.1 4 3 rfl rfl (inB_ok h_2) dX12_thing_39 ?_
  refine lv_iconst (v := (2 : Int32)) hx hb dX12_thing_40 (by decide) ?_
  refine lv_icmp_eq (tgt := 49) hx hb dX12_thing_41 (by decide) (fun c => ?_) (fun c => ?_)
  · replace hF := iT c hF
    refine lv_aload_n hx hb dX12_thing_49 rfl (lv_at hl 1 rfl) ?_
    refine va_get (D := D.1) (ci := 12) (v := .int (gI gT 33)) (C := RX12) (T := TX12) (N := 114) hx hb hts wi_X12 hown X.1 X.2.1 0 rfl rfl 33 (by decide) (hts _ q6_227) (fun _ h9 => h9) (fl_get (by decide)) dX12_thing_50 ?_
    refine lv_istore_n (lv' := [(2, .int (gI gT 33)), (1, .int s0), (0, .ref hT)]) hx hb dX12_thing_53 rfl hl (by decide) rfl (fun ls hl => ?_)
    refine lv_aload_n hx hb dX12_thing_54 rfl (lv_at hl 2 rfl) ?_
    refine lv_dup hx hb dX12_thing_55 rfl ?_
    refine va_get (D := D.1) (ci := 12) (v := .int (gI gT 33)) (C := RX12) (T := TX12) (N := 114) hx hb hts wi_X12 hown X.1 X.2.1 0 rfl rfl 33 (by decide) (hts _ q6_227) (fun _ h9 => h9) (fl_get (by decide)) dX12_thing_56 ?_
    refine lv_iconst (v := (1 : Int32)) hx hb dX12_thing_59 (by decide) ?_
    refine lv_iadd hx hb dX12_thing_60 ?_
    refine va_put (D := D.1) (ci := 12) (v := .int ((gI gT 33) + (1 : Int32))) (ty := .int) (C := RX12) (T := TX12) (N := 114) hx hb hts wi_X12 tyX12 tyX12_ok nmX12 hown X.1 X.2.1 X.2.2.1 X.2.2.2.1 0 rfl rfl 33 (by decide) (hts _ q6_227) (fun _ h9 => h9) rfl (by decide +kernel) rfl rfl (by rw [List.length_map, List.length_range]; decide) dX12_thing_61 (fun H locs hP hD hS => ?_)
    have X : Hx D (tX12 yT) A s H locs (wX12 hT aT yT (sI (sI gT 20 ((gI gT 20) + (1 : Int32))) 33 ((gI gT 33) + (1 : Int32)))) := Hx_set X (wG_sI (k := 33) rfl) hP hD hS
    refine lv_aload_n hx hb dX12_thing_64 rfl (lv_at hl 2 rfl) ?_
    refine va_get (D := D.1) (ci := 12) (v := .int ((gI gT 33) + (1 : Int32))) (C := RX12) (T := TX12) (N := 114) hx hb hts wi_X12 hown X.1 X.2.1 0 rfl rfl 33 (by decide) (hts _ q6_227) (fun _ h9 => h9) (fl_get (by decide)) dX12_thing_65 ?_
    refine lv_bipush (v := (41 : Int32)) hx hb dX12_thing_68 (by decide) ?_
    refine lv_icmp_ne (tgt := 86) hx hb dX12_thing_70 (by decide) (fun c => ?_) (fun c => ?_)
    · replace hF := iF c hF
      exact (k_X12_thing_86 l D hT aT yT n) C X (lv_sub hl [2, 1, 0] rfl) hF
    · replace hF := iT c hF
      refine lv_aload_n hx hb dX12_thing_73 rfl (lv_at hl 2 rfl) ?_
      refine lv_aload_n hx hb dX12_thing_74 rfl (lv_at hl 2 rfl) ?_
      refine va_get (D := D.1) (ci := 12) (v := .ref (aT 10)) (C := RX12) (T := TX12) (N := 114) hx hb hts wi_X12 hown X.1 X.2.1 0 rfl rfl 10 (by decide) (hts _ q6_204) (fun _ h9 => h9) (fl_get (by decide)) dX12_thing_75 ?_
      refine lv_aload_n hx hb dX12_thing_78 rfl (lv_at hl 2 rfl) ?_
      refine va_get (D := D.1) (ci := 12) (v := .int ((gI gT 20) + (1 : Int32))) (C := RX12) (T := TX12) (N := 114) hx hb hts wi_X12 hown X.1 X.2.1 0 rfl rfl 20 (by decide) (hts _ q6_214) (fun _ h9 => h9) (fl_get (by decide)) dX12_thing_79 ?_
      obtain ⟨h_36, hF⟩ := grd_some hF
      refine va_iald (D := D.1) (f := gIA gT 10) hx hb X.1 X.2.1 5 4 rfl rfl (inB_ok h_36) dX12_thing_82 ?_
      obtain ⟨q_37, hc_38, hF⟩ := bnd_some hF
      refine cV_v (As := [.int (gIA gT 10 ((gI gT 20) + (1 : Int32)).toNatClampNeg)]) (rest := []) C X (c_X12_much l D hT aT yT (sI (sI gT 20 ((gI gT 20) + (1 : Int32))) 33 ((gI gT 33) + (1 : Int32))) (gIA gT 10 ((gI gT 20) + (1 : Int32)).toNatClampNeg) q_37 hc_38 _) (cwV 1 hts (good_V q8_181 q8_183 q0_80 q1_9 q8_184) rfl rfl rfl (by decide +kernel) ⟨Nat.le_of_ble_eq_true rfl, Nat.le_of_ble_eq_true rfl⟩) (va_recv X.1 X.2.1 (ci := 12) (q0 := 0) rfl rfl) X.1 X.2.1 X.2.2.1 (free_all X) hl.1 rfl rfl (Nat.le_of_ble_eq_true rfl) dX12_thing_83 ⟨Nat.le_of_ble_eq_true rfl, Nat.le_of_ble_eq_true rfl⟩ (fun t H1 locs1 ht hB hk hS => ?_)
      have X : Hx D (tX12 yT) A s H1 locs1 (wX12 hT aT yT q_37) := Hx_after_all X ht hB hS
      clear hk hS ht hB
      generalize H1 = H at X ⊢
      generalize locs1 = locs at X ⊢
      exact (k_X12_thing_86 l D hT aT yT n) C X (lv_sub hl [2, 1, 0] rfl) hF
  · replace hF := iF c hF
    refine lv_aload_n hx hb dX12_thing_44 rfl (lv_at hl 1 rfl) ?_
    obtain ⟨q_39, hc_40, hF⟩ := bnd_some hF
    refine cV_i (As := []) (rest := []) C X (c_X12_cannot l D hT aT yT (sI gT 20 ((gI gT 20) + (1 : Int32))) q_39 hc_40 _) (cwV 0 hts (good_V q8_173 q8_175 q0_78 q1_9 q8_176) rfl rfl rfl (by decide +kernel) ⟨Nat.le_of_ble_eq_true rfl, Nat.le_of_ble_eq_true rfl⟩) (va_recv X.1 X.2.1 (ci := 12) (q0 := 0) rfl rfl) X.1 X.2.1 X.2.2.1 (free_all X) hl.1 rfl rfl (Nat.le_of_ble_eq_true rfl) dX12_thing_45 ⟨Nat.le_of_ble_eq_true rfl, Nat.le_of_ble_eq_true rfl⟩ (fun t H1 locs1 ht hB hk hS => ?_)
    have X : Hx D (tX12 yT) A s H1 locs1 (wX12 hT aT yT q_39.2) := Hx_after_all X ht hB hS
    clear hk hS ht hB
    generalize H1 = H at X ⊢
    generalize locs1 = locs at X ⊢
    obtain ⟨h_41, hF⟩ := grd_some hF
    have hq := Option.some.inj hF
    subst hq
    exact rt_z (v := q_39.1) C X (zB_n h_41) dX12_thing_48
set_option maxHeartbeats 4000000 in
set_option maxRecDepth 100000 in
theorem c_X12_thing (l : Launch) (D : Dx) (hT : Nat) (aT : Nat → Nat) (yT : Nat → ClassId) (n : Nat) (gT : Gs) (q : Int32 × Gs) (hF : f_X12_thing n gT = some q) (sz : Nat) : Met l yX12_thing (ws_ yX12_thing cX12_thing 3 (some .boolean)) R_X12_thing (PC D (tX12 yT) [.ref hT] (wX12 hT aT yT gT) sz) (QI D (va_A (wX12 hT aT yT gT) sz) (wX12 hT aT yT q.2) q.1) 0 0 (va_A (wX12 hT aT yT gT) sz) := by
  refine Met.ofW (cc := cX12_thing) (maxL := 3) (ret := (some .boolean)) (by decide) rfl ?_
  intro p e s m args below meth c s₁ B hml hv
  obtain ⟨rfl, hsz, hP, hK, hD, hN⟩ := hv
  subst hsz
  have C : Cx p s m _ meth c cX12_thing (some .boolean) 3 RX12 lw_all := Cx_of B hml
  have X := Hx_start hP hK hD hN
  obtain ⟨hx, hb, hr, -, hown, hts, hlk⟩ := id C
  generalize va_A (wX12 hT aT yT gT) s.heap.size = A at X ⊢
  have hl := lv_entry ([.ref hT]) (n := 3) (Nat.le_of_ble_eq_true rfl)
  rw [lg_entry_eq]
  generalize (lg_sl ([.ref hT]) ++ List.replicate (3 - (lg_sl ([.ref hT])).length) Slot.unset).toArray = ls at hl ⊢
  have hl : lv_has ls 3 [(0, .ref hT)] := hl
  unfold f_X12_thing at hF
  refine lv_aload_n hx hb dX12_thing_0 rfl (lv_at hl 0 rfl) ?_
  refine va_get (D := D.1) (ci := 12) (v := .ref (aT 9)) (C := RX12) (T := TX12) (N := 114) hx hb hts wi_X12 hown X.1 X.2.1 0 rfl rfl 9 (by decide) (hts _ q6_203) (fun _ h9 => h9) (fl_get (by decide)) dX12_thing_1 ?_
  refine lv_aload_n hx hb dX12_thing_4 rfl (lv_at hl 0 rfl) ?_
  refine va_get (D := D.1) (ci := 12) (v := .int (gI gT 20)) (C := RX12) (T := TX12) (N := 114) hx hb hts wi_X12 hown X.1 X.2.1 0 rfl rfl 20 (by decide) (hts _ q6_214) (fun _ h9 => h9) (fl_get (by decide)) dX12_thing_5 ?_
  obtain ⟨h_1, hF⟩ := grd_some hF
  refine va_iald (D := D.1) (f := gIA gT 9) hx hb X.1 X.2.1 4 3 rfl rfl (inB_ok h_1) dX12_thing_8 ?_
  refine lv_sipush (v := (200 : Int32)) hx hb dX12_thing_9 (by decide) ?_
  refine lv_icmp_ne (tgt := 19) hx hb dX12_thing_12 (by decide) (fun c => ?_) (fun c => ?_)
  · replace hF := iF c hF
    refine lv_iconst (v := (0 : Int32)) hx hb dX12_thing_19 (by decide) ?_
    exact (k_X12_thing_20 l D hT aT yT n) C X (lv_sub hl [0] rfl) hF
  · replace hF := iT c hF
    refine lv_iconst (v := (1 : Int32)) hx hb dX12_thing_15 (by decide) ?_
    refine lv_goto (tgt := 20) hx hb dX12_thing_16 (by decide) ?_
    exact (k_X12_thing_20 l D hT aT yT n) C X (lv_sub hl [0] rfl) hF

/-! ### X12_bell -/
theorem dX12_bell_0 : decode cX12_bell 0 = .ok (.aload_n 0, 1) := by decide +kernel
theorem dX12_bell_1 : decode cX12_bell 1 = .ok (.dup, 1) := by decide +kernel
theorem dX12_bell_2 : decode cX12_bell 2 = .ok (.getfield 116, 3) := by decide +kernel
theorem dX12_bell_5 : decode cX12_bell 5 = .ok (.iconst 1, 1) := by decide +kernel
theorem dX12_bell_6 : decode cX12_bell 6 = .ok (.iadd, 1) := by decide +kernel
theorem dX12_bell_7 : decode cX12_bell 7 = .ok (.putfield 116, 3) := by decide +kernel
theorem dX12_bell_10 : decode cX12_bell 10 = .ok (.aload_n 0, 1) := by decide +kernel
theorem dX12_bell_11 : decode cX12_bell 11 = .ok (.getfield 82, 3) := by decide +kernel
theorem dX12_bell_14 : decode cX12_bell 14 = .ok (.aload_n 0, 1) := by decide +kernel
theorem dX12_bell_15 : decode cX12_bell 15 = .ok (.getfield 116, 3) := by decide +kernel
theorem dX12_bell_18 : decode cX12_bell 18 = .ok (.iaload, 1) := by decide +kernel
theorem dX12_bell_19 : decode cX12_bell 19 = .ok (.iconst 2, 1) := by decide +kernel
theorem dX12_bell_20 : decode cX12_bell 20 = .ok (.if_icmp .eq 8, 3) := by decide +kernel
theorem dX12_bell_23 : decode cX12_bell 23 = .ok (.aload_n 0, 1) := by decide +kernel
theorem dX12_bell_24 : decode cX12_bell 24 = .ok (.invokevirtual 544, 3) := by decide +kernel
theorem dX12_bell_27 : decode cX12_bell 27 = .ok (.ireturn, 1) := by decide +kernel
theorem dX12_bell_28 : decode cX12_bell 28 = .ok (.aload_n 0, 1) := by decide +kernel
theorem dX12_bell_29 : decode cX12_bell 29 = .ok (.getfield 159, 3) := by decide +kernel
theorem dX12_bell_32 : decode cX12_bell 32 = .ok (.istore_n 1, 1) := by decide +kernel
theorem dX12_bell_33 : decode cX12_bell 33 = .ok (.aload_n 0, 1) := by decide +kernel
theorem dX12_bell_34 : decode cX12_bell 34 = .ok (.dup, 1) := by decide +kernel
theorem dX12_bell_35 : decode cX12_bell 35 = .ok (.getfield 159, 3) := by decide +kernel
theorem dX12_bell_38 : decode cX12_bell 38 = .ok (.iconst 1, 1) := by decide +kernel
theorem dX12_bell_39 : decode cX12_bell 39 = .ok (.iadd, 1) := by decide +kernel
theorem dX12_bell_40 : decode cX12_bell 40 = .ok (.putfield 159, 3) := by decide +kernel
theorem dX12_bell_43 : decode cX12_bell 43 = .ok (.aload_n 0, 1) := by decide +kernel
theorem dX12_bell_44 : decode cX12_bell 44 = .ok (.getfield 159, 3) := by decide +kernel
theorem dX12_bell_47 : decode cX12_bell 47 = .ok (.bipush 13, 2) := by decide +kernel
theorem dX12_bell_49 : decode cX12_bell 49 = .ok (.if_icmp .ne 16, 3) := by decide +kernel
theorem dX12_bell_52 : decode cX12_bell 52 = .ok (.aload_n 0, 1) := by decide +kernel
theorem dX12_bell_53 : decode cX12_bell 53 = .ok (.aload_n 0, 1) := by decide +kernel
theorem dX12_bell_54 : decode cX12_bell 54 = .ok (.getfield 86, 3) := by decide +kernel
theorem dX12_bell_57 : decode cX12_bell 57 = .ok (.aload_n 0, 1) := by decide +kernel
theorem dX12_bell_58 : decode cX12_bell 58 = .ok (.getfield 116, 3) := by decide +kernel
theorem dX12_bell_61 : decode cX12_bell 61 = .ok (.iaload, 1) := by decide +kernel
theorem dX12_bell_62 : decode cX12_bell 62 = .ok (.invokevirtual 541, 3) := by decide +kernel
theorem dX12_bell_65 : decode cX12_bell 65 = .ok (.aload_n 0, 1) := by decide +kernel
theorem dX12_bell_66 : decode cX12_bell 66 = .ok (.getfield 202, 3) := by decide +kernel
theorem dX12_bell_69 : decode cX12_bell 69 = .ok (.iload_n 1, 1) := by decide +kernel
theorem dX12_bell_70 : decode cX12_bell 70 = .ok (.aload_n 0, 1) := by decide +kernel
theorem dX12_bell_71 : decode cX12_bell 71 = .ok (.getfield 116, 3) := by decide +kernel
theorem dX12_bell_74 : decode cX12_bell 74 = .ok (.iastore, 1) := by decide +kernel
theorem dX12_bell_75 : decode cX12_bell 75 = .ok (.aload_n 0, 1) := by decide +kernel
theorem dX12_bell_76 : decode cX12_bell 76 = .ok (.getfield 214, 3) := by decide +kernel
theorem dX12_bell_79 : decode cX12_bell 79 = .ok (.iload_n 1, 1) := by decide +kernel
theorem dX12_bell_80 : decode cX12_bell 80 = .ok (.aload_n 0, 1) := by decide +kernel
theorem dX12_bell_81 : decode cX12_bell 81 = .ok (.getfield 138, 3) := by decide +kernel
theorem dX12_bell_84 : decode cX12_bell 84 = .ok (.iastore, 1) := by decide +kernel
theorem dX12_bell_85 : decode cX12_bell 85 = .ok (.aload_n 0, 1) := by decide +kernel
theorem dX12_bell_86 : decode cX12_bell 86 = .ok (.iconst 0, 1) := by decide +kernel
theorem dX12_bell_87 : decode cX12_bell 87 = .ok (.putfield 134, 3) := by decide +kernel
theorem dX12_bell_90 : decode cX12_bell 90 = .ok (.aload_n 0, 1) := by decide +kernel
theorem dX12_bell_91 : decode cX12_bell 91 = .ok (.iconst 0, 1) := by decide +kernel
theorem dX12_bell_92 : decode cX12_bell 92 = .ok (.aload_n 0, 1) := by decide +kernel
theorem dX12_bell_93 : decode cX12_bell 93 = .ok (.getfield 116, 3) := by decide +kernel
theorem dX12_bell_96 : decode cX12_bell 96 = .ok (.iconst (-1), 1) := by decide +kernel
theorem dX12_bell_97 : decode cX12_bell 97 = .ok (.invokevirtual 591, 3) := by decide +kernel
theorem dX12_bell_100 : decode cX12_bell 100 = .ok (.aload_n 0, 1) := by decide +kernel
theorem dX12_bell_101 : decode cX12_bell 101 = .ok (.dup, 1) := by decide +kernel
theorem dX12_bell_102 : decode cX12_bell 102 = .ok (.getfield 116, 3) := by decide +kernel
theorem dX12_bell_105 : decode cX12_bell 105 = .ok (.iconst 1, 1) := by decide +kernel
theorem dX12_bell_106 : decode cX12_bell 106 = .ok (.iadd, 1) := by decide +kernel
theorem dX12_bell_107 : decode cX12_bell 107 = .ok (.putfield 116, 3) := by decide +kernel
theorem dX12_bell_110 : decode cX12_bell 110 = .ok (.aload_n 0, 1) := by decide +kernel
theorem dX12_bell_111 : decode cX12_bell 111 = .ok (.getfield 211, 3) := by decide +kernel
theorem dX12_bell_114 : decode cX12_bell 114 = .ok (.iload_n 1, 1) := by decide +kernel
theorem dX12_bell_115 : decode cX12_bell 115 = .ok (.aload_n 0, 1) := by decide +kernel
theorem dX12_bell_116 : decode cX12_bell 116 = .ok (.getfield 86, 3) := by decide +kernel
theorem dX12_bell_119 : decode cX12_bell 119 = .ok (.aload_n 0, 1) := by decide +kernel
theorem dX12_bell_120 : decode cX12_bell 120 = .ok (.getfield 116, 3) := by decide +kernel
theorem dX12_bell_123 : decode cX12_bell 123 = .ok (.iaload, 1) := by decide +kernel
theorem dX12_bell_124 : decode cX12_bell 124 = .ok (.iastore, 1) := by decide +kernel
theorem dX12_bell_125 : decode cX12_bell 125 = .ok (.aload_n 0, 1) := by decide +kernel
theorem dX12_bell_126 : decode cX12_bell 126 = .ok (.sipush 205, 3) := by decide +kernel
theorem dX12_bell_129 : decode cX12_bell 129 = .ok (.invokevirtual 564, 3) := by decide +kernel
theorem dX12_bell_132 : decode cX12_bell 132 = .ok (.ifCond .ne 5, 3) := by decide +kernel
theorem dX12_bell_135 : decode cX12_bell 135 = .ok (.iconst 0, 1) := by decide +kernel
theorem dX12_bell_136 : decode cX12_bell 136 = .ok (.ireturn, 1) := by decide +kernel
theorem dX12_bell_137 : decode cX12_bell 137 = .ok (.aload_n 0, 1) := by decide +kernel
theorem dX12_bell_138 : decode cX12_bell 138 = .ok (.getfield 205, 3) := by decide +kernel
theorem dX12_bell_141 : decode cX12_bell 141 = .ok (.iload_n 1, 1) := by decide +kernel
theorem dX12_bell_142 : decode cX12_bell 142 = .ok (.aload_n 0, 1) := by decide +kernel
theorem dX12_bell_143 : decode cX12_bell 143 = .ok (.getfield 113, 3) := by decide +kernel
theorem dX12_bell_146 : decode cX12_bell 146 = .ok (.iastore, 1) := by decide +kernel
theorem dX12_bell_147 : decode cX12_bell 147 = .ok (.aload_n 0, 1) := by decide +kernel
theorem dX12_bell_148 : decode cX12_bell 148 = .ok (.invokevirtual 561, 3) := by decide +kernel
theorem dX12_bell_151 : decode cX12_bell 151 = .ok (.ifCond .ne 5, 3) := by decide +kernel
theorem dX12_bell_154 : decode cX12_bell 154 = .ok (.iconst 0, 1) := by decide +kernel
theorem dX12_bell_155 : decode cX12_bell 155 = .ok (.ireturn, 1) := by decide +kernel
theorem dX12_bell_156 : decode cX12_bell 156 = .ok (.aload_n 0, 1) := by decide +kernel
theorem dX12_bell_157 : decode cX12_bell 157 = .ok (.getfield 208, 3) := by decide +kernel
theorem dX12_bell_160 : decode cX12_bell 160 = .ok (.iload_n 1, 1) := by decide +kernel
theorem dX12_bell_161 : decode cX12_bell 161 = .ok (.aload_n 0, 1) := by decide +kernel
theorem dX12_bell_162 : decode cX12_bell 162 = .ok (.getfield 113, 3) := by decide +kernel
theorem dX12_bell_165 : decode cX12_bell 165 = .ok (.iastore, 1) := by decide +kernel
theorem dX12_bell_166 : decode cX12_bell 166 = .ok (.aload_n 0, 1) := by decide +kernel
theorem dX12_bell_167 : decode cX12_bell 167 = .ok (.bipush 59, 2) := by decide +kernel
theorem dX12_bell_169 : decode cX12_bell 169 = .ok (.invokevirtual 564, 3) := by decide +kernel
theorem dX12_bell_172 : decode cX12_bell 172 = .ok (.ireturn, 1) := by decide +kernel
abbrev R_X12_bell : Room := ({ frames := 426, cells := 0, slots := 0, locals := 25423 } : Room)
def b_X12_bell_65 (n : Nat) (gT : Gs) (v1 : Int32) : Option (Int32 × Gs) :=
  grd (inB v1 400) (grd (inB v1 400) (bnd (f_X12_name (sI (sIA (sIA gT 48 (upd (gIA gT 48) v1.toNatClampNeg (gI gT 20))) 52 (upd (gIA gT 52) v1.toNatClampNeg (gI gT 27))) 26 (0 : Int32)) (0 : Int32) (gI gT 20) (-1 : Int32)) (fun q_4 => grd (inB ((gI q_4 20) + (1 : Int32)) 3001) (grd (inB v1 400) (bnd (f_X12_need (sIA (sI q_4 20 ((gI q_4 20) + (1 : Int32))) 51 (upd (gIA q_4 51) v1.toNatClampNeg (gIA q_4 10 ((gI q_4 20) + (1 : Int32)).toNatClampNeg))) (205 : Int32)) (fun q_8 => if q_8.1 = 0 then (some ((0 : Int32), q_8.2)) else (grd (inB v1 400) (bnd (ff_X12_formula n (sIA q_8.2 49 (upd (gIA q_8.2 49) v1.toNatClampNeg (gI q_8.2 19)))) (fun q_11 => if q_11.1 = 0 then (some ((0 : Int32), q_11.2)) else (grd (inB v1 400) (bnd (f_X12_need (sIA q_11.2 50 (upd (gIA q_11.2 50) v1.toNatClampNeg (gI q_11.2 19))) (59 : Int32)) (fun q_14 => grd (zB q_14.1) (some (q_14.1, q_14.2))))))))))))))
def f_X12_bell (n : Nat) (gT : Gs) : Option (Int32 × Gs) :=
  grd (inB ((gI gT 20) + (1 : Int32)) 3001) (if (gIA gT 9 ((gI gT 20) + (1 : Int32)).toNatClampNeg) = (2 : Int32) then (if ((gI gT 34) + (1 : Int32)) = (13 : Int32) then (grd (inB ((gI gT 20) + (1 : Int32)) 3001) (bnd (f_X12_much (sI (sI gT 20 ((gI gT 20) + (1 : Int32))) 34 ((gI gT 34) + (1 : Int32))) (gIA gT 10 ((gI gT 20) + (1 : Int32)).toNatClampNeg)) (fun q_18 => b_X12_bell_65 n q_18 (gI gT 34)))) else (b_X12_bell_65 n (sI (sI gT 20 ((gI gT 20) + (1 : Int32))) 34 ((gI gT 34) + (1 : Int32))) (gI gT 34))) else (bnd (f_X12_cannot (sI gT 20 ((gI gT 20) + (1 : Int32)))) (fun q_20 => grd (zB q_20.1) (some (q_20.1, q_20.2)))))
def S_X12_bell_65 (l : Launch) (D : Dx) (hT : Nat) (aT : Nat → Nat) (yT : Nat → ClassId) (fn : Gs → Int32 → Option (Int32 × Gs)) : Prop :=
  ∀ {p : Program} {e : Env} {s : State} {m : MethodId} {args : Array Value} {below : List Frame} {meth : Method} {c : Code} {H : Heap} {locs : List Loc} {A : Nat → Prop} {ls : Array Slot} {gT : Gs} {v1 : Int32} {q : Int32 × Gs}, Cx p s m args meth c cX12_bell (some .boolean) 2 RX12 lw_all → Hx D (tX12 yT) A s H locs (wX12 hT aT yT gT) → lv_has ls 2 [(0, .ref hT), (1, .int v1)] → fn gT v1 = some q → W p l e R_X12_bell s m args below meth c H locs 0 0 (MQ below (QI D A (wX12 hT aT yT q.2) q.1) args s 0 0 A) (F0 m 65 ls [])
set_option maxHeartbeats 4000000 in
set_option maxRecDepth 100000 in
theorem k_X12_bell_65 (l : Launch) (D : Dx) (hT : Nat) (aT : Nat → Nat) (yT : Nat → ClassId) (n : Nat) : S_X12_bell_65 l D hT aT yT (b_X12_bell_65 n) := by
  intro p e s m args below meth c H locs A ls gT v1 q C X hl hF
  obtain ⟨hx, hb, hr, hml, hown, hts, hlk⟩ := id C
  unfold b_X12_bell_65 at hF
  refine lv_aload_n hx hb dX12_bell_65 rfl (lv_at hl 0 rfl) ?_
  refine va_get (D := D.1) (ci := 12) (v := .ref (aT 48)) (C := RX12) (T := TX12) (N := 114) hx hb hts wi_X12 hown X.1 X.2.1 0 rfl rfl 48 (by decide) (hts _ q7_2) (fun _ h9 => h9) (fl_get (by decide)) dX12_bell_66 ?_
  refine lv_iload_n hx hb dX12_bell_69 rfl (lv_at hl 1 rfl) ?_
  refine lv_aload_n hx hb dX12_bell_70 rfl (lv_at hl 0 rfl) ?_
  refine va_get (D := D.1) (ci := 12) (v := .int (gI gT 20)) (C := RX12) (T := TX12) (N := 114) hx hb hts wi_X12 hown X.1 X.2.1 0 rfl rfl 20 (by decide) (hts _ q6_214) (fun _ h9 => h9) (fl_get (by decide)) dX12_bell_71 ?_
  obtain ⟨h_2, hF⟩ := grd_some hF
  refine va_iast (D := D.1) (f := gIA gT 48) hx hb X.1 X.2.1 X.2.2.1 X.2.2.2.1 30 29 rfl rfl (inB_ok h_2) dX12_bell_74 (fun H locs hP hD hS => ?_)
  have X : Hx D (tX12 yT) A s H locs (wX12 hT aT yT (sIA gT 48 (upd (gIA gT 48) v1.toNatClampNeg (gI gT 20)))) := Hx_set X (wG_sIA (i := 29) (k := 48) ndX12 rfl rfl) hP hD hS
  refine lv_aload_n hx hb dX12_bell_75 rfl (lv_at hl 0 rfl) ?_
  refine va_get (D := D.1) (ci := 12) (v := .ref (aT 52)) (C := RX12) (T := TX12) (N := 114) hx hb hts wi_X12 hown X.1 X.2.1 0 rfl rfl 52 (by decide) (hts _ q7_6) (fun _ h9 => h9) (fl_get (by decide)) dX12_bell_76 ?_
  refine lv_iload_n hx hb dX12_bell_79 rfl (lv_at hl 1 rfl) ?_
  refine lv_aload_n hx hb dX12_bell_80 rfl (lv_at hl 0 rfl) ?_
  refine va_get (D := D.1) (ci := 12) (v := .int (gI gT 27)) (C := RX12) (T := TX12) (N := 114) hx hb hts wi_X12 hown X.1 X.2.1 0 rfl rfl 27 (by decide) (hts _ q6_221) (fun _ h9 => h9) (fl_get (by decide)) dX12_bell_81 ?_
  obtain ⟨h_3, hF⟩ := grd_some hF
  refine va_iast (D := D.1) (f := gIA gT 52) hx hb X.1 X.2.1 X.2.2.1 X.2.2.2.1 34 33 rfl rfl (inB_ok h_3) dX12_bell_84 (fun H locs hP hD hS => ?_)
  have X : Hx D (tX12 yT) A s H locs (wX12 hT aT yT (sIA (sIA gT 48 (upd (gIA gT 48) v1.toNatClampNeg (gI gT 20))) 52 (upd (gIA gT 52) v1.toNatClampNeg (gI gT 27)))) := Hx_set X (wG_sIA (i := 33) (k := 52) ndX12 rfl rfl) hP hD hS
  refine lv_aload_n hx hb dX12_bell_85 rfl (lv_at hl 0 rfl) ?_
  refine lv_iconst (v := (0 : Int32)) hx hb dX12_bell_86 (by decide) ?_
  refine va_put (D := D.1) (ci := 12) (v := .int (0 : Int32)) (ty := .boolean) (C := RX12) (T := TX12) (N := 114) hx hb hts wi_X12 tyX12 tyX12_ok nmX12 hown X.1 X.2.1 X.2.2.1 X.2.2.2.1 0 rfl rfl 26 (by decide) (hts _ q6_220) (fun _ h9 => h9) rfl (by decide +kernel) rfl rfl (by rw [List.length_map, List.length_range]; decide) dX12_bell_87 (fun H locs hP hD hS => ?_)
  have X : Hx D (tX12 yT) A s H locs (wX12 hT aT yT (sI (sIA (sIA gT 48 (upd (gIA gT 48) v1.toNatClampNeg (gI gT 20))) 52 (upd (gIA gT 52) v1.toNatClampNeg (gI gT 27))) 26 (0 : Int32))) := Hx_set X (wG_sI (k := 26) rfl) hP hD hS
  refine lv_aload_n hx hb dX12_bell_90 rfl (lv_at hl 0 rfl) ?_
  refine lv_iconst (v := (0 : Int32)) hx hb dX12_bell_91 (by decide) ?_
  refine lv_aload_n hx hb dX12_bell_92 rfl (lv_at hl 0 rfl) ?_
  refine va_get (D := D.1) (ci := 12) (v := .int (gI gT 20)) (C := RX12) (T := TX12) (N := 114) hx hb hts wi_X12 hown X.1 X.2.1 0 rfl rfl 20 (by decide) (hts _ q6_214) (fun _ h9 => h9) (fl_get (by decide)) dX12_bell_93 ?_
  refine lv_iconst (v := (-1 : Int32)) hx hb dX12_bell_96 (by decide) ?_
  obtain ⟨q_4, hc_5, hF⟩ := bnd_some hF
  refine cV_v (As := [.int (0 : Int32), .int (gI gT 20), .int (-1 : Int32)]) (rest := []) C X (c_X12_name l D hT aT yT (sI (sIA (sIA gT 48 (upd (gIA gT 48) v1.toNatClampNeg (gI gT 20))) 52 (upd (gIA gT 52) v1.toNatClampNeg (gI gT 27))) 26 (0 : Int32)) (0 : Int32) (gI gT 20) (-1 : Int32) q_4 hc_5 _) (cwV 3 hts (good_V q8_185 q8_187 q0_81 q1_9 q8_188) rfl rfl rfl (by decide +kernel) ⟨Nat.le_of_ble_eq_true rfl, Nat.le_of_ble_eq_true rfl⟩) (va_recv X.1 X.2.1 (ci := 12) (q0 := 0) rfl rfl) X.1 X.2.1 X.2.2.1 (free_all X) hl.1 rfl rfl (Nat.le_of_ble_eq_true rfl) dX12_bell_97 ⟨Nat.le_of_ble_eq_true rfl, Nat.le_of_ble_eq_true rfl⟩ (fun t H1 locs1 ht hB hk hS => ?_)
  have X : Hx D (tX12 yT) A s H1 locs1 (wX12 hT aT yT q_4) := Hx_after_all X ht hB hS
  clear hk hS ht hB
  generalize H1 = H at X ⊢
  generalize locs1 = locs at X ⊢
  refine lv_aload_n hx hb dX12_bell_100 rfl (lv_at hl 0 rfl) ?_
  refine lv_dup hx hb dX12_bell_101 rfl ?_
  refine va_get (D := D.1) (ci := 12) (v := .int (gI q_4 20)) (C := RX12) (T := TX12) (N := 114) hx hb hts wi_X12 hown X.1 X.2.1 0 rfl rfl 20 (by decide) (hts _ q6_214) (fun _ h9 => h9) (fl_get (by decide)) dX12_bell_102 ?_
  refine lv_iconst (v := (1 : Int32)) hx hb dX12_bell_105 (by decide) ?_
  refine lv_iadd hx hb dX12_bell_106 ?_
  refine va_put (D := D.1) (ci := 12) (v := .int ((gI q_4 20) + (1 : Int32))) (ty := .int) (C := RX12) (T := TX12) (N := 114) hx hb hts wi_X12 tyX12 tyX12_ok nmX12 hown X.1 X.2.1 X.2.2.1 X.2.2.2.1 0 rfl rfl 20 (by decide) (hts _ q6_214) (fun _ h9 => h9) rfl (by decide +kernel) rfl rfl (by rw [List.length_map, List.length_range]; decide) dX12_bell_107 (fun H locs hP hD hS => ?_)
  have X : Hx D (tX12 yT) A s H locs (wX12 hT aT yT (sI q_4 20 ((gI q_4 20) + (1 : Int32)))) := Hx_set X (wG_sI (k := 20) rfl) hP hD hS
  refine lv_aload_n hx hb dX12_bell_110 rfl (lv_at hl 0 rfl) ?_
  refine va_get (D := D.1) (ci := 12) (v := .ref (aT 51)) (C := RX12) (T := TX12) (N := 114) hx hb hts wi_X12 hown X.1 X.2.1 0 rfl rfl 51 (by decide) (hts _ q7_5) (fun _ h9 => h9) (fl_get (by decide)) dX12_bell_111 ?_
  refine lv_iload_n hx hb dX12_bell_114 rfl (lv_at hl 1 rfl) ?_
  refine lv_aload_n hx hb dX12_bell_115 rfl (lv_at hl 0 rfl) ?_
  refine va_get (D := D.1) (ci := 12) (v := .ref (aT 10)) (C := RX12) (T := TX12) (N := 114) hx hb hts wi_X12 hown X.1 X.2.1 0 rfl rfl 10 (by decide) (hts _ q6_204) (fun _ h9 => h9) (fl_get (by decide)) dX12_bell_116 ?_
  refine lv_aload_n hx hb dX12_bell_119 rfl (lv_at hl 0 rfl) ?_
  refine va_get (D := D.1) (ci := 12) (v := .int ((gI q_4 20) + (1 : Int32))) (C := RX12) (T := TX12) (N := 114) hx hb hts wi_X12 hown X.1 X.2.1 0 rfl rfl 20 (by decide) (hts _ q6_214) (fun _ h9 => h9) (fl_get (by decide)) dX12_bell_120 ?_
  obtain ⟨h_6, hF⟩ := grd_some hF
  refine va_iald (D := D.1) (f := gIA q_4 10) hx hb X.1 X.2.1 5 4 rfl rfl (inB_ok h_6) dX12_bell_123 ?_
  obtain ⟨h_7, hF⟩ := grd_some hF
  refine va_iast (D := D.1) (f := gIA q_4 51) hx hb X.1 X.2.1 X.2.2.1 X.2.2.2.1 33 32 rfl rfl (inB_ok h_7) dX12_bell_124 (fun H locs hP hD hS => ?_)
  have X : Hx D (tX12 yT) A s H locs (wX12 hT aT yT (sIA (sI q_4 20 ((gI q_4 20) + (1 : Int32))) 51 (upd (gIA q_4 51) v1.toNatClampNeg (gIA q_4 10 ((gI q_4 20) + (1 : Int32)).toNatClampNeg)))) := Hx_set X (wG_sIA (i := 32) (k := 51) ndX12 rfl rfl) hP hD hS
  refine lv_aload_n hx hb dX12_bell_125 rfl (lv_at hl 0 rfl) ?_
  refine lv_sipush (v := (205 : Int32)) hx hb dX12_bell_126 (by decide) ?_
  obtain ⟨q_8, hc_9, hF⟩ := bnd_some hF
  refine cV_i (As := [.int (205 : Int32)]) (rest := []) C X (c_X12_need l D hT aT yT (sIA (sI q_4 20 ((gI q_4 20) + (1 : Int32))) 51 (upd (gIA q_4 51) v1.toNatClampNeg (gIA q_4 10 ((gI q_4 20) + (1 : Int32)).toNatClampNeg))) (205 : Int32) q_8 hc_9 _) (cwV 1 hts (good_V q8_189 q8_191 q0_82 q1_9 q8_192) rfl rfl rfl (by decide +kernel) ⟨Nat.le_of_ble_eq_true rfl, Nat.le_of_ble_eq_true rfl⟩) (va_recv X.1 X.2.1 (ci := 12) (q0 := 0) rfl rfl) X.1 X.2.1 X.2.2.1 (free_all X) hl.1 rfl rfl (Nat.le_of_ble_eq_true rfl) dX12_bell_129 ⟨Nat.le_of_ble_eq_true rfl, Nat.le_of_ble_eq_true rfl⟩ (fun t H1 locs1 ht hB hk hS => ?_)
  have X : Hx D (tX12 yT) A s H1 locs1 (wX12 hT aT yT q_8.2) := Hx_after_all X ht hB hS
  clear hk hS ht hB
  generalize H1 = H at X ⊢
  generalize locs1 = locs at X ⊢
  refine lv_if_ne (tgt := 137) hx hb dX12_bell_132 (by decide) (fun c => ?_) (fun c => ?_)
  · replace hF := iF c hF
    refine lv_aload_n hx hb dX12_bell_137 rfl (lv_at hl 0 rfl) ?_
    refine va_get (D := D.1) (ci := 12) (v := .ref (aT 49)) (C := RX12) (T := TX12) (N := 114) hx hb hts wi_X12 hown X.1 X.2.1 0 rfl rfl 49 (by decide) (hts _ q7_3) (fun _ h9 => h9) (fl_get (by decide)) dX12_bell_138 ?_
    refine lv_iload_n hx hb dX12_bell_141 rfl (lv_at hl 1 rfl) ?_
    refine lv_aload_n hx hb dX12_bell_142 rfl (lv_at hl 0 rfl) ?_
    refine va_get (D := D.1) (ci := 12) (v := .int (gI q_8.2 19)) (C := RX12) (T := TX12) (N := 114) hx hb hts wi_X12 hown X.1 X.2.1 0 rfl rfl 19 (by decide) (hts _ q6_213) (fun _ h9 => h9) (fl_get (by decide)) dX12_bell_143 ?_
    obtain ⟨h_10, hF⟩ := grd_some hF
    refine va_iast (D := D.1) (f := gIA q_8.2 49) hx hb X.1 X.2.1 X.2.2.1 X.2.2.2.1 31 30 rfl rfl (inB_ok h_10) dX12_bell_146 (fun H locs hP hD hS => ?_)
    have X : Hx D (tX12 yT) A s H locs (wX12 hT aT yT (sIA q_8.2 49 (upd (gIA q_8.2 49) v1.toNatClampNeg (gI q_8.2 19)))) := Hx_set X (wG_sIA (i := 30) (k := 49) ndX12 rfl rfl) hP hD hS
    refine lv_aload_n hx hb dX12_bell_147 rfl (lv_at hl 0 rfl) ?_
    obtain ⟨q_11, hc_12, hF⟩ := bnd_some hF
    refine cV_i (As := []) (rest := []) C X (cc_X12_formula l D hT aT yT n (sIA q_8.2 49 (upd (gIA q_8.2 49) v1.toNatClampNeg (gI q_8.2 19))) q_11 hc_12 _) (cwV 0 hts (good_V q8_196 q8_198 q0_83 q1_9 q8_199) rfl rfl rfl (by decide +kernel) ⟨Nat.le_of_ble_eq_true rfl, Nat.le_of_ble_eq_true rfl⟩) (va_recv X.1 X.2.1 (ci := 12) (q0 := 0) rfl rfl) X.1 X.2.1 X.2.2.1 (free_all X) hl.1 rfl rfl (Nat.le_of_ble_eq_true rfl) dX12_bell_148 ⟨Nat.le_of_ble_eq_true rfl, Nat.le_of_ble_eq_true rfl⟩ (fun t H1 locs1 ht hB hk hS => ?_)
    have X : Hx D (tX12 yT) A s H1 locs1 (wX12 hT aT yT q_11.2) := Hx_after_all X ht hB hS
    clear hk hS ht hB
    generalize H1 = H at X ⊢
    generalize locs1 = locs at X ⊢
    refine lv_if_ne (tgt := 156) hx hb dX12_bell_151 (by decide) (fun c => ?_) (fun c => ?_)
    · replace hF := iF c hF
      refine lv_aload_n hx hb dX12_bell_156 rfl (lv_at hl 0 rfl) ?_
      refine va_get (D := D.1) (ci := 12) (v := .ref (aT 50)) (C := RX12) (T := TX12) (N := 114) hx hb hts wi_X12 hown X.1 X.2.1 0 rfl rfl 50 (by decide) (hts _ q7_4) (fun _ h9 => h9) (fl_get (by decide)) dX12_bell_157 ?_
      refine lv_iload_n hx hb dX12_bell_160 rfl (lv_at hl 1 rfl) ?_
      refine lv_aload_n hx hb dX12_bell_161 rfl (lv_at hl 0 rfl) ?_
      refine va_get (D := D.1) (ci := 12) (v := .int (gI q_11.2 19)) (C := RX12) (T := TX12) (N := 114) hx hb hts wi_X12 hown X.1 X.2.1 0 rfl rfl 19 (by decide) (hts _ q6_213) (fun _ h9 => h9) (fl_get (by decide)) dX12_bell_162 ?_
      obtain ⟨h_13, hF⟩ := grd_some hF
      refine va_iast (D := D.1) (f := gIA q_11.2 50) hx hb X.1 X.2.1 X.2.2.1 X.2.2.2.1 32 31 rfl rfl (inB_ok h_13) dX12_bell_165 (fun H locs hP hD hS => ?_)
      have X : Hx D (tX12 yT) A s H locs (wX12 hT aT yT (sIA q_11.2 50 (upd (gIA q_11.2 50) v1.toNatClampNeg (gI q_11.2 19)))) := Hx_set X (wG_sIA (i := 31) (k := 50) ndX12 rfl rfl) hP hD hS
      refine lv_aload_n hx hb dX12_bell_166 rfl (lv_at hl 0 rfl) ?_
      refine lv_bipush (v := (59 : Int32)) hx hb dX12_bell_167 (by decide) ?_
      obtain ⟨q_14, hc_15, hF⟩ := bnd_some hF
      refine cV_i (As := [.int (59 : Int32)]) (rest := []) C X (c_X12_need l D hT aT yT (sIA q_11.2 50 (upd (gIA q_11.2 50) v1.toNatClampNeg (gI q_11.2 19))) (59 : Int32) q_14 hc_15 _) (cwV 1 hts (good_V q8_189 q8_191 q0_82 q1_9 q8_192) rfl rfl rfl (by decide +kernel) ⟨Nat.le_of_ble_eq_true rfl, Nat.le_of_ble_eq_true rfl⟩) (va_recv X.1 X.2.1 (ci := 12) (q0 := 0) rfl rfl) X.1 X.2.1 X.2.2.1 (free_all X) hl.1 rfl rfl (Nat.le_of_ble_eq_true rfl) dX12_bell_169 ⟨Nat.le_of_ble_eq_true rfl, Nat.le_of_ble_eq_true rfl⟩ (fun t H1 locs1 ht hB hk hS => ?_)
      have X : Hx D (tX12 yT) A s H1 locs1 (wX12 hT aT yT q_14.2) := Hx_after_all X ht hB hS
      clear hk hS ht hB
      generalize H1 = H at X ⊢
      generalize locs1 = locs at X ⊢
      obtain ⟨h_16, hF⟩ := grd_some hF
      have hq := Option.some.inj hF
      subst hq
      exact rt_z (v := q_14.1) C X (zB_n h_16) dX12_bell_172
    · replace hF := iT c hF
      refine lv_iconst (v := (0 : Int32)) hx hb dX12_bell_154 (by decide) ?_
      have hq := Option.some.inj hF
      subst hq
      exact rt_z (v := (0 : Int32)) C X (by decide) dX12_bell_155
  · replace hF := iT c hF
    refine lv_iconst (v := (0 : Int32)) hx hb dX12_bell_135 (by decide) ?_
    have hq := Option.some.inj hF
    subst hq
    exact rt_z (v := (0 : Int32)) C X (by decide) dX12_bell_136
set_option maxHeartbeats 4000000 in
set_option maxRecDepth 100000 in
theorem c_X12_bell (l : Launch) (D : Dx) (hT : Nat) (aT : Nat → Nat) (yT : Nat → ClassId) (n : Nat) (gT : Gs) (q : Int32 × Gs) (hF : f_X12_bell n gT = some q) (sz : Nat) : Met l yX12_bell (ws_ yX12_bell cX12_bell 2 (some .boolean)) R_X12_bell (PC D (tX12 yT) [.ref hT] (wX12 hT aT yT gT) sz) (QI D (va_A (wX12 hT aT yT gT) sz) (wX12 hT aT yT q.2) q.1) 0 0 (va_A (wX12 hT aT yT gT) sz) := by
  refine Met.ofW (cc := cX12_bell) (maxL := 2) (ret := (some .boolean)) (by decide) rfl ?_
  intro p e s m args below meth c s₁ B hml hv
  obtain ⟨rfl, hsz, hP, hK, hD, hN⟩ := hv
  subst hsz
  have C : Cx p s m _ meth c cX12_bell (some .boolean) 2 RX12 lw_all := Cx_of B hml
  have X := Hx_start hP hK hD hN
  obtain ⟨hx, hb, hr, -, hown, hts, hlk⟩ := id C
  generalize va_A (wX12 hT aT yT gT) s.heap.size = A at X ⊢
  have hl := lv_entry ([.ref hT]) (n := 2) (Nat.le_of_ble_eq_true rfl)
  rw [lg_entry_eq]
  generalize (lg_sl ([.ref hT]) ++ List.replicate (2 - (lg_sl ([.ref hT])).length) Slot.unset).toArray = ls at hl ⊢
  have hl : lv_has ls 2 [(0, .ref hT)] := hl
  unfold f_X12_bell at hF
  refine lv_aload_n hx hb dX12_bell_0 rfl (lv_at hl 0 rfl) ?_
  refine lv_dup hx hb dX12_bell_1 rfl ?_
  refine va_get (D := D.1) (ci := 12) (v := .int (gI gT 20)) (C := RX12) (T := TX12) (N := 114) hx hb hts wi_X12 hown X.1 X.2.1 0 rfl rfl 20 (by decide) (hts _ q6_214) (fun _ h9 => h9) (fl_get (by decide)) dX12_bell_2 ?_
  refine lv_iconst (v := (1 : Int32)) hx hb dX12_bell_5 (by decide) ?_
  refine lv_iadd hx hb dX12_bell_6 ?_
  refine va_put (D := D.1) (ci := 12) (v := .int ((gI gT 20) + (1 : Int32))) (ty := .int) (C := RX12) (T := TX12) (N := 114) hx hb hts wi_X12 tyX12 tyX12_ok nmX12 hown X.1 X.2.1 X.2.2.1 X.2.2.2.1 0 rfl rfl 20 (by decide) (hts _ q6_214) (fun _ h9 => h9) rfl (by decide +kernel) rfl rfl (by rw [List.length_map, List.length_range]; decide) dX12_bell_7 (fun H locs hP hD hS => ?_)
  have X : Hx D (tX12 yT) A s H locs (wX12 hT aT yT (sI gT 20 ((gI gT 20) + (1 : Int32)))) := Hx_set X (wG_sI (k := 20) rfl) hP hD hS
  refine lv_aload_n hx hb dX12_bell_10 rfl (lv_at hl 0 rfl) ?_
  refine va_get (D := D.1) (ci := 12) (v := .ref (aT 9)) (C := RX12) (T := TX12) (N := 114) hx hb hts wi_X12 hown X.1 X.2.1 0 rfl rfl 9 (by decide) (hts _ q6_203) (fun _ h9 => h9) (fl_get (by decide)) dX12_bell_11 ?_
  refine lv_aload_n hx hb dX12_bell_14 rfl (lv_at hl 0 rfl) ?_
  refine va_get (D := D.1) (ci := 12) (v := .int ((gI gT 20) + (1 : Int32))) (C := RX12) (T := TX12) (N := 114) hx hb hts wi_X12 hown X.1 X.2.1 0 rfl rfl 20 (by decide) (hts _ q6_214) (fun _ h9 => h9) (fl_get (by decide)) dX12_bell_15 ?_
  obtain ⟨h_1, hF⟩ := grd_some hF
  refine va_iald (D := D.1) (f := gIA gT 9) hx hb X.1 X.2.1 4 3 rfl rfl (inB_ok h_1) dX12_bell_18 ?_
  refine lv_iconst (v := (2 : Int32)) hx hb dX12_bell_19 (by decide) ?_
  refine lv_icmp_eq (tgt := 28) hx hb dX12_bell_20 (by decide) (fun c => ?_) (fun c => ?_)
  · replace hF := iT c hF
    refine lv_aload_n hx hb dX12_bell_28 rfl (lv_at hl 0 rfl) ?_
    refine va_get (D := D.1) (ci := 12) (v := .int (gI gT 34)) (C := RX12) (T := TX12) (N := 114) hx hb hts wi_X12 hown X.1 X.2.1 0 rfl rfl 34 (by decide) (hts _ q6_228) (fun _ h9 => h9) (fl_get (by decide)) dX12_bell_29 ?_
    refine lv_istore_n (lv' := [(1, .int (gI gT 34)), (0, .ref hT)]) hx hb dX12_bell_32 rfl hl (by decide) rfl (fun ls hl => ?_)
    refine lv_aload_n hx hb dX12_bell_33 rfl (lv_at hl 1 rfl) ?_
    refine lv_dup hx hb dX12_bell_34 rfl ?_
    refine va_get (D := D.1) (ci := 12) (v := .int (gI gT 34)) (C := RX12) (T := TX12) (N := 114) hx hb hts wi_X12 hown X.1 X.2.1 0 rfl rfl 34 (by decide) (hts _ q6_228) (fun _ h9 => h9) (fl_get (by decide)) dX12_bell_35 ?_
    refine lv_iconst (v := (1 : Int32)) hx hb dX12_bell_38 (by decide) ?_
    refine lv_iadd hx hb dX12_bell_39 ?_
    refine va_put (D := D.1) (ci := 12) (v := .int ((gI gT 34) + (1 : Int32))) (ty := .int) (C := RX12) (T := TX12) (N := 114) hx hb hts wi_X12 tyX12 tyX12_ok nmX12 hown X.1 X.2.1 X.2.2.1 X.2.2.2.1 0 rfl rfl 34 (by decide) (hts _ q6_228) (fun _ h9 => h9) rfl (by decide +kernel) rfl rfl (by rw [List.length_map, List.length_range]; decide) dX12_bell_40 (fun H locs hP hD hS => ?_)
    have X : Hx D (tX12 yT) A s H locs (wX12 hT aT yT (sI (sI gT 20 ((gI gT 20) + (1 : Int32))) 34 ((gI gT 34) + (1 : Int32)))) := Hx_set X (wG_sI (k := 34) rfl) hP hD hS
    refine lv_aload_n hx hb dX12_bell_43 rfl (lv_at hl 1 rfl) ?_
    refine va_get (D := D.1) (ci := 12) (v := .int ((gI gT 34) + (1 : Int32))) (C := RX12) (T := TX12) (N := 114) hx hb hts wi_X12 hown X.1 X.2.1 0 rfl rfl 34 (by decide) (hts _ q6_228) (fun _ h9 => h9) (fl_get (by decide)) dX12_bell_44 ?_
    refine lv_bipush (v := (13 : Int32)) hx hb dX12_bell_47 (by decide) ?_
    refine lv_icmp_ne (tgt := 65) hx hb dX12_bell_49 (by decide) (fun c => ?_) (fun c => ?_)
    · replace hF := iF c hF
      exact (k_X12_bell_65 l D hT aT yT n) C X (lv_sub hl [1, 0] rfl) hF
    · replace hF := iT c hF
      refine lv_aload_n hx hb dX12_bell_52 rfl (lv_at hl 1 rfl) ?_
      refine lv_aload_n hx hb dX12_bell_53 rfl (lv_at hl 1 rfl) ?_
      refine va_get (D := D.1) (ci := 12) (v := .ref (aT 10)) (C := RX12) (T := TX12) (N := 114) hx hb hts wi_X12 hown X.1 X.2.1 0 rfl rfl 10 (by decide) (hts _ q6_204) (fun _ h9 => h9) (fl_get (by decide)) dX12_bell_54 ?_
      refine lv_aload_n hx hb dX12_bell_57 rfl (lv_at hl 1 rfl) ?_
      refine va_get (D := D.1) (ci := 12) (v := .int ((gI gT 20) + (1 : Int32))) (C := RX12) (T := TX12) (N := 114) hx hb hts wi_X12 hown X.1 X.2.1 0 rfl rfl 20 (by decide) (hts _ q6_214) (fun _ h9 => h9) (fl_get (by decide)) dX12_bell_58 ?_
      obtain ⟨h_17, hF⟩ := grd_some hF
      refine va_iald (D := D.1) (f := gIA gT 10) hx hb X.1 X.2.1 5 4 rfl rfl (inB_ok h_17) dX12_bell_61 ?_
      obtain ⟨q_18, hc_19, hF⟩ := bnd_some hF
      refine cV_v (As := [.int (gIA gT 10 ((gI gT 20) + (1 : Int32)).toNatClampNeg)]) (rest := []) C X (c_X12_much l D hT aT yT (sI (sI gT 20 ((gI gT 20) + (1 : Int32))) 34 ((gI gT 34) + (1 : Int32))) (gIA gT 10 ((gI gT 20) + (1 : Int32)).toNatClampNeg) q_18 hc_19 _) (cwV 1 hts (good_V q8_181 q8_183 q0_80 q1_9 q8_184) rfl rfl rfl (by decide +kernel) ⟨Nat.le_of_ble_eq_true rfl, Nat.le_of_ble_eq_true rfl⟩) (va_recv X.1 X.2.1 (ci := 12) (q0 := 0) rfl rfl) X.1 X.2.1 X.2.2.1 (free_all X) hl.1 rfl rfl (Nat.le_of_ble_eq_true rfl) dX12_bell_62 ⟨Nat.le_of_ble_eq_true rfl, Nat.le_of_ble_eq_true rfl⟩ (fun t H1 locs1 ht hB hk hS => ?_)
      have X : Hx D (tX12 yT) A s H1 locs1 (wX12 hT aT yT q_18) := Hx_after_all X ht hB hS
      clear hk hS ht hB
      generalize H1 = H at X ⊢
      generalize locs1 = locs at X ⊢
      exact (k_X12_bell_65 l D hT aT yT n) C X (lv_sub hl [1, 0] rfl) hF
  · replace hF := iF c hF
    refine lv_aload_n hx hb dX12_bell_23 rfl (lv_at hl 0 rfl) ?_
    obtain ⟨q_20, hc_21, hF⟩ := bnd_some hF
    refine cV_i (As := []) (rest := []) C X (c_X12_cannot l D hT aT yT (sI gT 20 ((gI gT 20) + (1 : Int32))) q_20 hc_21 _) (cwV 0 hts (good_V q8_173 q8_175 q0_78 q1_9 q8_176) rfl rfl rfl (by decide +kernel) ⟨Nat.le_of_ble_eq_true rfl, Nat.le_of_ble_eq_true rfl⟩) (va_recv X.1 X.2.1 (ci := 12) (q0 := 0) rfl rfl) X.1 X.2.1 X.2.2.1 (free_all X) hl.1 rfl rfl (Nat.le_of_ble_eq_true rfl) dX12_bell_24 ⟨Nat.le_of_ble_eq_true rfl, Nat.le_of_ble_eq_true rfl⟩ (fun t H1 locs1 ht hB hk hS => ?_)
    have X : Hx D (tX12 yT) A s H1 locs1 (wX12 hT aT yT q_20.2) := Hx_after_all X ht hB hS
    clear hk hS ht hB
    generalize H1 = H at X ⊢
    generalize locs1 = locs at X ⊢
    obtain ⟨h_22, hF⟩ := grd_some hF
    have hq := Option.some.inj hF
    subst hq
    exact rt_z (v := q_20.1) C X (zB_n h_22) dX12_bell_27

/-! ### X12_reads -/
theorem dX12_reads_0 : decode cX12_reads 0 = .ok (.aload_n 0, 1) := by decide +kernel
theorem dX12_reads_1 : decode cX12_reads 1 = .ok (.iconst 0, 1) := by decide +kernel
theorem dX12_reads_2 : decode cX12_reads 2 = .ok (.putfield 156, 3) := by decide +kernel
theorem dX12_reads_5 : decode cX12_reads 5 = .ok (.aload_n 0, 1) := by decide +kernel
theorem dX12_reads_6 : decode cX12_reads 6 = .ok (.iconst 0, 1) := by decide +kernel
theorem dX12_reads_7 : decode cX12_reads 7 = .ok (.putfield 159, 3) := by decide +kernel
theorem dX12_reads_10 : decode cX12_reads 10 = .ok (.aload_n 0, 1) := by decide +kernel
theorem dX12_reads_11 : decode cX12_reads 11 = .ok (.iconst 0, 1) := by decide +kernel
theorem dX12_reads_12 : decode cX12_reads 12 = .ok (.putfield 162, 3) := by decide +kernel
theorem dX12_reads_15 : decode cX12_reads 15 = .ok (.aload_n 0, 1) := by decide +kernel
theorem dX12_reads_16 : decode cX12_reads 16 = .ok (.iconst 0, 1) := by decide +kernel
theorem dX12_reads_17 : decode cX12_reads 17 = .ok (.putfield 165, 3) := by decide +kernel
theorem dX12_reads_20 : decode cX12_reads 20 = .ok (.aload_n 0, 1) := by decide +kernel
theorem dX12_reads_21 : decode cX12_reads 21 = .ok (.getfield 82, 3) := by decide +kernel
theorem dX12_reads_24 : decode cX12_reads 24 = .ok (.aload_n 0, 1) := by decide +kernel
theorem dX12_reads_25 : decode cX12_reads 25 = .ok (.getfield 116, 3) := by decide +kernel
theorem dX12_reads_28 : decode cX12_reads 28 = .ok (.iaload, 1) := by decide +kernel
theorem dX12_reads_29 : decode cX12_reads 29 = .ok (.ifCond .eq 76, 3) := by decide +kernel
theorem dX12_reads_32 : decode cX12_reads 32 = .ok (.aload_n 0, 1) := by decide +kernel
theorem dX12_reads_33 : decode cX12_reads 33 = .ok (.getfield 82, 3) := by decide +kernel
theorem dX12_reads_36 : decode cX12_reads 36 = .ok (.aload_n 0, 1) := by decide +kernel
theorem dX12_reads_37 : decode cX12_reads 37 = .ok (.getfield 116, 3) := by decide +kernel
theorem dX12_reads_40 : decode cX12_reads 40 = .ok (.iaload, 1) := by decide +kernel
theorem dX12_reads_41 : decode cX12_reads 41 = .ok (.istore_n 1, 1) := by decide +kernel
theorem dX12_reads_42 : decode cX12_reads 42 = .ok (.iload_n 1, 1) := by decide +kernel
theorem dX12_reads_43 : decode cX12_reads 43 = .ok (.sipush 200, 3) := by decide +kernel
theorem dX12_reads_46 : decode cX12_reads 46 = .ok (.if_icmp .eq 10, 3) := by decide +kernel
theorem dX12_reads_49 : decode cX12_reads 49 = .ok (.iload_n 1, 1) := by decide +kernel
theorem dX12_reads_50 : decode cX12_reads 50 = .ok (.sipush 201, 3) := by decide +kernel
theorem dX12_reads_53 : decode cX12_reads 53 = .ok (.if_icmp .ne 10, 3) := by decide +kernel
theorem dX12_reads_56 : decode cX12_reads 56 = .ok (.aload_n 0, 1) := by decide +kernel
theorem dX12_reads_57 : decode cX12_reads 57 = .ok (.invokevirtual 597, 3) := by decide +kernel
theorem dX12_reads_60 : decode cX12_reads 60 = .ok (.goto 35, 3) := by decide +kernel
theorem dX12_reads_63 : decode cX12_reads 63 = .ok (.iload_n 1, 1) := by decide +kernel
theorem dX12_reads_64 : decode cX12_reads 64 = .ok (.sipush 202, 3) := by decide +kernel
theorem dX12_reads_67 : decode cX12_reads 67 = .ok (.if_icmp .ne 10, 3) := by decide +kernel
theorem dX12_reads_70 : decode cX12_reads 70 = .ok (.aload_n 0, 1) := by decide +kernel
theorem dX12_reads_71 : decode cX12_reads 71 = .ok (.invokevirtual 600, 3) := by decide +kernel
theorem dX12_reads_74 : decode cX12_reads 74 = .ok (.goto 21, 3) := by decide +kernel
theorem dX12_reads_77 : decode cX12_reads 77 = .ok (.iload_n 1, 1) := by decide +kernel
theorem dX12_reads_78 : decode cX12_reads 78 = .ok (.sipush 203, 3) := by decide +kernel
theorem dX12_reads_81 : decode cX12_reads 81 = .ok (.if_icmp .ne 10, 3) := by decide +kernel
theorem dX12_reads_84 : decode cX12_reads 84 = .ok (.aload_n 0, 1) := by decide +kernel
theorem dX12_reads_85 : decode cX12_reads 85 = .ok (.invokevirtual 603, 3) := by decide +kernel
theorem dX12_reads_88 : decode cX12_reads 88 = .ok (.goto 7, 3) := by decide +kernel
theorem dX12_reads_91 : decode cX12_reads 91 = .ok (.aload_n 0, 1) := by decide +kernel
theorem dX12_reads_92 : decode cX12_reads 92 = .ok (.invokevirtual 544, 3) := by decide +kernel
theorem dX12_reads_95 : decode cX12_reads 95 = .ok (.istore_n 2, 1) := by decide +kernel
theorem dX12_reads_96 : decode cX12_reads 96 = .ok (.iload_n 2, 1) := by decide +kernel
theorem dX12_reads_97 : decode cX12_reads 97 = .ok (.ifCond .ne 5, 3) := by decide +kernel
theorem dX12_reads_100 : decode cX12_reads 100 = .ok (.iconst 0, 1) := by decide +kernel
theorem dX12_reads_101 : decode cX12_reads 101 = .ok (.ireturn, 1) := by decide +kernel
theorem dX12_reads_102 : decode cX12_reads 102 = .ok (.goto (-82), 3) := by decide +kernel
theorem dX12_reads_105 : decode cX12_reads 105 = .ok (.aload_n 0, 1) := by decide +kernel
theorem dX12_reads_106 : decode cX12_reads 106 = .ok (.getfield 125, 3) := by decide +kernel
theorem dX12_reads_109 : decode cX12_reads 109 = .ok (.ifCond .lt 13, 3) := by decide +kernel
theorem dX12_reads_112 : decode cX12_reads 112 = .ok (.aload_n 0, 1) := by decide +kernel
theorem dX12_reads_113 : decode cX12_reads 113 = .ok (.iconst 2, 1) := by decide +kernel
theorem dX12_reads_114 : decode cX12_reads 114 = .ok (.aload_n 0, 1) := by decide +kernel
theorem dX12_reads_115 : decode cX12_reads 115 = .ok (.getfield 125, 3) := by decide +kernel
theorem dX12_reads_118 : decode cX12_reads 118 = .ok (.invokevirtual 537, 3) := by decide +kernel
theorem dX12_reads_121 : decode cX12_reads 121 = .ok (.ireturn, 1) := by decide +kernel
theorem dX12_reads_122 : decode cX12_reads 122 = .ok (.iconst 1, 1) := by decide +kernel
theorem dX12_reads_123 : decode cX12_reads 123 = .ok (.ireturn, 1) := by decide +kernel
abbrev R_X12_reads : Room := ({ frames := 427, cells := 0, slots := 0, locals := 25445 } : Room)
def b_X12_reads_95 (n : Nat) (rec : (Gs → Option (Int32 × Gs))) (gT : Gs) (s0 : Int32) : Option (Int32 × Gs) :=
  if s0 = 0 then (some ((0 : Int32), gT)) else (rec gT)
def b_X12_reads_56 (n : Nat) (rec : (Gs → Option (Int32 × Gs))) (gT : Gs) : Option (Int32 × Gs) :=
  bnd (f_X12_thing n gT) (fun q_6 => b_X12_reads_95 n rec q_6.2 q_6.1)
def h_X12_reads_20 (n : Nat) (rec : (Gs → Option (Int32 × Gs))) (gT : Gs) : Option (Int32 × Gs) :=
  grd (inB (gI gT 20) 3001) (if (gIA gT 9 (gI gT 20).toNatClampNeg) = 0 then (if (gI gT 23) < 0 then (some ((1 : Int32), gT)) else (bnd (f_X12_fault gT (2 : Int32) (gI gT 23)) (fun q_2 => grd (zB q_2.1) (some (q_2.1, q_2.2))))) else (grd (inB (gI gT 20) 3001) (if (gIA gT 9 (gI gT 20).toNatClampNeg) = (200 : Int32) then (b_X12_reads_56 n rec gT) else (if (gIA gT 9 (gI gT 20).toNatClampNeg) = (201 : Int32) then (b_X12_reads_56 n rec gT) else (if (gIA gT 9 (gI gT 20).toNatClampNeg) = (202 : Int32) then (bnd (f_X12_cam n gT) (fun q_12 => b_X12_reads_95 n rec q_12.2 q_12.1)) else (if (gIA gT 9 (gI gT 20).toNatClampNeg) = (203 : Int32) then (bnd (f_X12_bell n gT) (fun q_10 => b_X12_reads_95 n rec q_10.2 q_10.1)) else (bnd (f_X12_cannot gT) (fun q_8 => b_X12_reads_95 n rec q_8.2 q_8.1))))))))
def L_X12_reads (n : Nat) : Nat → (Gs → Option (Int32 × Gs))
  | 0 => ((fun _ => none))
  | k + 1 => (h_X12_reads_20 n (L_X12_reads n k))
def f_X12_reads (n : Nat) (gT : Gs) : Option (Int32 × Gs) :=
  (L_X12_reads n n) (sI (sI (sI (sI gT 33 (0 : Int32)) 34 (0 : Int32)) 35 (0 : Int32)) 36 (0 : Int32))
def S_X12_reads_95 (l : Launch) (D : Dx) (hT : Nat) (aT : Nat → Nat) (yT : Nat → ClassId) (fn : Gs → Int32 → Option (Int32 × Gs)) : Prop :=
  ∀ {p : Program} {e : Env} {s : State} {m : MethodId} {args : Array Value} {below : List Frame} {meth : Method} {c : Code} {H : Heap} {locs : List Loc} {A : Nat → Prop} {ls : Array Slot} {gT : Gs} {s0 : Int32} {q : Int32 × Gs}, Cx p s m args meth c cX12_reads (some .boolean) 3 RX12 lw_all → Hx D (tX12 yT) A s H locs (wX12 hT aT yT gT) → lv_has ls 3 [(0, .ref hT)] → fn gT s0 = some q → W p l e R_X12_reads s m args below meth c H locs 0 0 (MQ below (QI D A (wX12 hT aT yT q.2) q.1) args s 0 0 A) (F0 m 95 ls [.int s0])
def S_X12_reads_56 (l : Launch) (D : Dx) (hT : Nat) (aT : Nat → Nat) (yT : Nat → ClassId) (fn : Gs → Option (Int32 × Gs)) : Prop :=
  ∀ {p : Program} {e : Env} {s : State} {m : MethodId} {args : Array Value} {below : List Frame} {meth : Method} {c : Code} {H : Heap} {locs : List Loc} {A : Nat → Prop} {ls : Array Slot} {gT : Gs} {q : Int32 × Gs}, Cx p s m args meth c cX12_reads (some .boolean) 3 RX12 lw_all → Hx D (tX12 yT) A s H locs (wX12 hT aT yT gT) → lv_has ls 3 [(0, .ref hT)] → fn gT = some q → W p l e R_X12_reads s m args below meth c H locs 0 0 (MQ below (QI D A (wX12 hT aT yT q.2) q.1) args s 0 0 A) (F0 m 56 ls [])
def S_X12_reads_20 (l : Launch) (D : Dx) (hT : Nat) (aT : Nat → Nat) (yT : Nat → ClassId) (fn : Gs → Option (Int32 × Gs)) : Prop :=
  ∀ {p : Program} {e : Env} {s : State} {m : MethodId} {args : Array Value} {below : List Frame} {meth : Method} {c : Code} {H : Heap} {locs : List Loc} {A : Nat → Prop} {ls : Array Slot} {gT : Gs} {q : Int32 × Gs}, Cx p s m args meth c cX12_reads (some .boolean) 3 RX12 lw_all → Hx D (tX12 yT) A s H locs (wX12 hT aT yT gT) → lv_has ls 3 [(0, .ref hT)] → fn gT = some q → W p l e R_X12_reads s m args below meth c H locs 0 0 (MQ below (QI D A (wX12 hT aT yT q.2) q.1) args s 0 0 A) (F0 m 20 ls [])
def SH_X12_reads (l : Launch) (D : Dx) (hT : Nat) (aT : Nat → Nat) (yT : Nat → ClassId) (rec : (Gs → Option (Int32 × Gs))) : Prop := S_X12_reads_20 l D hT aT yT rec
set_option maxHeartbeats 4000000 in
set_option maxRecDepth 100000 in
theorem k_X12_reads_95 (l : Launch) (D : Dx) (hT : Nat) (aT : Nat → Nat) (yT : Nat → ClassId) (n : Nat) (rec : (Gs → Option (Int32 × Gs))) (IH : SH_X12_reads l D hT aT yT rec) : S_X12_reads_95 l D hT aT yT (b_X12_reads_95 n rec) := by
  intro p e s m args below meth c H locs A ls gT s0 q C X hl hF
  obtain ⟨hx, hb, hr, hml, hown, hts, hlk⟩ := id C
  unfold b_X12_reads_95 at hF
  refine lv_istore_n (lv' := [(2, .int s0), (0, .ref hT)]) hx hb dX12_reads_95 rfl hl (by decide) rfl (fun ls hl => ?_)
  refine lv_iload_n hx hb dX12_reads_96 rfl (lv_at hl 0 rfl) ?_
  refine lv_if_ne (tgt := 102) hx hb dX12_reads_97 (by decide) (fun c => ?_) (fun c => ?_)
  · replace hF := iF c hF
    refine lv_goto (tgt := 20) hx hb dX12_reads_102 (by decide) ?_
    exact IH C X (lv_sub hl [1] rfl) hF
  · replace hF := iT c hF
    refine lv_iconst (v := (0 : Int32)) hx hb dX12_reads_100 (by decide) ?_
    have hq := Option.some.inj hF
    subst hq
    exact rt_z (v := (0 : Int32)) C X (by decide) dX12_reads_101
set_option maxHeartbeats 4000000 in
set_option maxRecDepth 100000 in
theorem k_X12_reads_56 (l : Launch) (D : Dx) (hT : Nat) (aT : Nat → Nat) (yT : Nat → ClassId) (n : Nat) (rec : (Gs → Option (Int32 × Gs))) (IH : SH_X12_reads l D hT aT yT rec) : S_X12_reads_56 l D hT aT yT (b_X12_reads_56 n rec) := by
  intro p e s m args below meth c H locs A ls gT q C X hl hF
  obtain ⟨hx, hb, hr, hml, hown, hts, hlk⟩ := id C
  unfold b_X12_reads_56 at hF
  refine lv_aload_n hx hb dX12_reads_56 rfl (lv_at hl 0 rfl) ?_
  obtain ⟨q_6, hc_7, hF⟩ := bnd_some hF
  refine cV_i (As := []) (rest := []) C X (c_X12_thing l D hT aT yT n gT q_6 hc_7 _) (cwV 0 hts (good_V q8_169 q8_171 q0_77 q1_9 q8_172) rfl rfl rfl (by decide +kernel) ⟨Nat.le_of_ble_eq_true rfl, Nat.le_of_ble_eq_true rfl⟩) (va_recv X.1 X.2.1 (ci := 12) (q0 := 0) rfl rfl) X.1 X.2.1 X.2.2.1 (free_all X) hl.1 rfl rfl (Nat.le_of_ble_eq_true rfl) dX12_reads_57 ⟨Nat.le_of_ble_eq_true rfl, Nat.le_of_ble_eq_true rfl⟩ (fun t H1 locs1 ht hB hk hS => ?_)
  have X : Hx D (tX12 yT) A s H1 locs1 (wX12 hT aT yT q_6.2) := Hx_after_all X ht hB hS
  clear hk hS ht hB
  generalize H1 = H at X ⊢
  generalize locs1 = locs at X ⊢
  refine lv_goto (tgt := 95) hx hb dX12_reads_60 (by decide) ?_
  exact (k_X12_reads_95 l D hT aT yT n rec IH) C X (lv_sub hl [0] rfl) hF
set_option maxHeartbeats 4000000 in
set_option maxRecDepth 100000 in
theorem k_X12_reads_20 (l : Launch) (D : Dx) (hT : Nat) (aT : Nat → Nat) (yT : Nat → ClassId) (n : Nat) (rec : (Gs → Option (Int32 × Gs))) (IH : SH_X12_reads l D hT aT yT rec) : S_X12_reads_20 l D hT aT yT (h_X12_reads_20 n rec) := by
  intro p e s m args below meth c H locs A ls gT q C X hl hF
  obtain ⟨hx, hb, hr, hml, hown, hts, hlk⟩ := id C
  unfold h_X12_reads_20 at hF
  refine lv_aload_n hx hb dX12_reads_20 rfl (lv_at hl 0 rfl) ?_
  refine va_get (D := D.1) (ci := 12) (v := .ref (aT 9)) (C := RX12) (T := TX12) (N := 114) hx hb hts wi_X12 hown X.1 X.2.1 0 rfl rfl 9 (by decide) (hts _ q6_203) (fun _ h9 => h9) (fl_get (by decide)) dX12_reads_21 ?_
  refine lv_aload_n hx hb dX12_reads_24 rfl (lv_at hl 0 rfl) ?_
  refine va_get (D := D.1) (ci := 12) (v := .int (gI gT 20)) (C := RX12) (T := TX12) (N := 114) hx hb hts wi_X12 hown X.1 X.2.1 0 rfl rfl 20 (by decide) (hts _ q6_214) (fun _ h9 => h9) (fl_get (by decide)) dX12_reads_25 ?_
  obtain ⟨h_1, hF⟩ := grd_some hF
  refine va_iald (D := D.1) (f := gIA gT 9) hx hb X.1 X.2.1 4 3 rfl rfl (inB_ok h_1) dX12_reads_28 ?_
  refine lv_if_eq (tgt := 105) hx hb dX12_reads_29 (by decide) (fun c => ?_) (fun c => ?_)
  · replace hF := iT c hF
    refine lv_aload_n hx hb dX12_reads_105 rfl (lv_at hl 0 rfl) ?_
    refine va_get (D := D.1) (ci := 12) (v := .int (gI gT 23)) (C := RX12) (T := TX12) (N := 114) hx hb hts wi_X12 hown X.1 X.2.1 0 rfl rfl 23 (by decide) (hts _ q6_217) (fun _ h9 => h9) (fl_get (by decide)) dX12_reads_106 ?_
    refine lv_if_lt (tgt := 122) hx hb dX12_reads_109 (by decide) (fun c => ?_) (fun c => ?_)
    · replace hF := iT c hF
      refine lv_iconst (v := (1 : Int32)) hx hb dX12_reads_122 (by decide) ?_
      have hq := Option.some.inj hF
      subst hq
      exact rt_z (v := (1 : Int32)) C X (by decide) dX12_reads_123
    · replace hF := iF c hF
      refine lv_aload_n hx hb dX12_reads_112 rfl (lv_at hl 0 rfl) ?_
      refine lv_iconst (v := (2 : Int32)) hx hb dX12_reads_113 (by decide) ?_
      refine lv_aload_n hx hb dX12_reads_114 rfl (lv_at hl 0 rfl) ?_
      refine va_get (D := D.1) (ci := 12) (v := .int (gI gT 23)) (C := RX12) (T := TX12) (N := 114) hx hb hts wi_X12 hown X.1 X.2.1 0 rfl rfl 23 (by decide) (hts _ q6_217) (fun _ h9 => h9) (fl_get (by decide)) dX12_reads_115 ?_
      obtain ⟨q_2, hc_3, hF⟩ := bnd_some hF
      refine cV_i (As := [.int (2 : Int32), .int (gI gT 23)]) (rest := []) C X (c_X12_fault l D hT aT yT gT (2 : Int32) (gI gT 23) q_2 hc_3 _) (cwV 2 hts (good_V q8_177 q8_179 q0_79 q1_9 q8_180) rfl rfl rfl (by decide +kernel) ⟨Nat.le_of_ble_eq_true rfl, Nat.le_of_ble_eq_true rfl⟩) (va_recv X.1 X.2.1 (ci := 12) (q0 := 0) rfl rfl) X.1 X.2.1 X.2.2.1 (free_all X) hl.1 rfl rfl (Nat.le_of_ble_eq_true rfl) dX12_reads_118 ⟨Nat.le_of_ble_eq_true rfl, Nat.le_of_ble_eq_true rfl⟩ (fun t H1 locs1 ht hB hk hS => ?_)
      have X : Hx D (tX12 yT) A s H1 locs1 (wX12 hT aT yT q_2.2) := Hx_after_all X ht hB hS
      clear hk hS ht hB
      generalize H1 = H at X ⊢
      generalize locs1 = locs at X ⊢
      obtain ⟨h_4, hF⟩ := grd_some hF
      have hq := Option.some.inj hF
      subst hq
      exact rt_z (v := q_2.1) C X (zB_n h_4) dX12_reads_121
  · replace hF := iF c hF
    refine lv_aload_n hx hb dX12_reads_32 rfl (lv_at hl 0 rfl) ?_
    refine va_get (D := D.1) (ci := 12) (v := .ref (aT 9)) (C := RX12) (T := TX12) (N := 114) hx hb hts wi_X12 hown X.1 X.2.1 0 rfl rfl 9 (by decide) (hts _ q6_203) (fun _ h9 => h9) (fl_get (by decide)) dX12_reads_33 ?_
    refine lv_aload_n hx hb dX12_reads_36 rfl (lv_at hl 0 rfl) ?_
    refine va_get (D := D.1) (ci := 12) (v := .int (gI gT 20)) (C := RX12) (T := TX12) (N := 114) hx hb hts wi_X12 hown X.1 X.2.1 0 rfl rfl 20 (by decide) (hts _ q6_214) (fun _ h9 => h9) (fl_get (by decide)) dX12_reads_37 ?_
    obtain ⟨h_5, hF⟩ := grd_some hF
    refine va_iald (D := D.1) (f := gIA gT 9) hx hb X.1 X.2.1 4 3 rfl rfl (inB_ok h_5) dX12_reads_40 ?_
    refine lv_istore_n (lv' := [(1, .int (gIA gT 9 (gI gT 20).toNatClampNeg)), (0, .ref hT)]) hx hb dX12_reads_41 rfl hl (by decide) rfl (fun ls hl => ?_)
    refine lv_iload_n hx hb dX12_reads_42 rfl (lv_at hl 0 rfl) ?_
    refine lv_sipush (v := (200 : Int32)) hx hb dX12_reads_43 (by decide) ?_
    refine lv_icmp_eq (tgt := 56) hx hb dX12_reads_46 (by decide) (fun c => ?_) (fun c => ?_)
    · replace hF := iT c hF
      exact (k_X12_reads_56 l D hT aT yT n rec IH) C X (lv_sub hl [1] rfl) hF
    · replace hF := iF c hF
      refine lv_iload_n hx hb dX12_reads_49 rfl (lv_at hl 0 rfl) ?_
      refine lv_sipush (v := (201 : Int32)) hx hb dX12_reads_50 (by decide) ?_
      refine lv_icmp_ne (tgt := 63) hx hb dX12_reads_53 (by decide) (fun c => ?_) (fun c => ?_)
      · replace hF := iF c hF
        refine lv_iload_n hx hb dX12_reads_63 rfl (lv_at hl 0 rfl) ?_
        refine lv_sipush (v := (202 : Int32)) hx hb dX12_reads_64 (by decide) ?_
        refine lv_icmp_ne (tgt := 77) hx hb dX12_reads_67 (by decide) (fun c => ?_) (fun c => ?_)
        · replace hF := iF c hF
          refine lv_iload_n hx hb dX12_reads_77 rfl (lv_at hl 0 rfl) ?_
          refine lv_sipush (v := (203 : Int32)) hx hb dX12_reads_78 (by decide) ?_
          refine lv_icmp_ne (tgt := 91) hx hb dX12_reads_81 (by decide) (fun c => ?_) (fun c => ?_)
          · replace hF := iF c hF
            refine lv_aload_n hx hb dX12_reads_91 rfl (lv_at hl 1 rfl) ?_
            obtain ⟨q_8, hc_9, hF⟩ := bnd_some hF
            refine cV_i (As := []) (rest := []) C X (c_X12_cannot l D hT aT yT gT q_8 hc_9 _) (cwV 0 hts (good_V q8_173 q8_175 q0_78 q1_9 q8_176) rfl rfl rfl (by decide +kernel) ⟨Nat.le_of_ble_eq_true rfl, Nat.le_of_ble_eq_true rfl⟩) (va_recv X.1 X.2.1 (ci := 12) (q0 := 0) rfl rfl) X.1 X.2.1 X.2.2.1 (free_all X) hl.1 rfl rfl (Nat.le_of_ble_eq_true rfl) dX12_reads_92 ⟨Nat.le_of_ble_eq_true rfl, Nat.le_of_ble_eq_true rfl⟩ (fun t H1 locs1 ht hB hk hS => ?_)
            have X : Hx D (tX12 yT) A s H1 locs1 (wX12 hT aT yT q_8.2) := Hx_after_all X ht hB hS
            clear hk hS ht hB
            generalize H1 = H at X ⊢
            generalize locs1 = locs at X ⊢
            exact (k_X12_reads_95 l D hT aT yT n rec IH) C X (lv_sub hl [1] rfl) hF
          · replace hF := iT c hF
            refine lv_aload_n hx hb dX12_reads_84 rfl (lv_at hl 1 rfl) ?_
            obtain ⟨q_10, hc_11, hF⟩ := bnd_some hF
            refine cV_i (As := []) (rest := []) C X (c_X12_bell l D hT aT yT n gT q_10 hc_11 _) (cwV 0 hts (good_V q9_8 q9_10 q0_96 q1_9 q9_11) rfl rfl rfl (by decide +kernel) ⟨Nat.le_of_ble_eq_true rfl, Nat.le_of_ble_eq_true rfl⟩) (va_recv X.1 X.2.1 (ci := 12) (q0 := 0) rfl rfl) X.1 X.2.1 X.2.2.1 (free_all X) hl.1 rfl rfl (Nat.le_of_ble_eq_true rfl) dX12_reads_85 ⟨Nat.le_of_ble_eq_true rfl, Nat.le_of_ble_eq_true rfl⟩ (fun t H1 locs1 ht hB hk hS => ?_)
            have X : Hx D (tX12 yT) A s H1 locs1 (wX12 hT aT yT q_10.2) := Hx_after_all X ht hB hS
            clear hk hS ht hB
            generalize H1 = H at X ⊢
            generalize locs1 = locs at X ⊢
            refine lv_goto (tgt := 95) hx hb dX12_reads_88 (by decide) ?_
            exact (k_X12_reads_95 l D hT aT yT n rec IH) C X (lv_sub hl [1] rfl) hF
        · replace hF := iT c hF
          refine lv_aload_n hx hb dX12_reads_70 rfl (lv_at hl 1 rfl) ?_
          obtain ⟨q_12, hc_13, hF⟩ := bnd_some hF
          refine cV_i (As := []) (rest := []) C X (c_X12_cam l D hT aT yT n gT q_12 hc_13 _) (cwV 0 hts (good_V q9_4 q9_6 q0_95 q1_9 q9_7) rfl rfl rfl (by decide +kernel) ⟨Nat.le_of_ble_eq_true rfl, Nat.le_of_ble_eq_true rfl⟩) (va_recv X.1 X.2.1 (ci := 12) (q0 := 0) rfl rfl) X.1 X.2.1 X.2.2.1 (free_all X) hl.1 rfl rfl (Nat.le_of_ble_eq_true rfl) dX12_reads_71 ⟨Nat.le_of_ble_eq_true rfl, Nat.le_of_ble_eq_true rfl⟩ (fun t H1 locs1 ht hB hk hS => ?_)
          have X : Hx D (tX12 yT) A s H1 locs1 (wX12 hT aT yT q_12.2) := Hx_after_all X ht hB hS
          clear hk hS ht hB
          generalize H1 = H at X ⊢
          generalize locs1 = locs at X ⊢
          refine lv_goto (tgt := 95) hx hb dX12_reads_74 (by decide) ?_
          exact (k_X12_reads_95 l D hT aT yT n rec IH) C X (lv_sub hl [1] rfl) hF
      · replace hF := iT c hF
        exact (k_X12_reads_56 l D hT aT yT n rec IH) C X (lv_sub hl [1] rfl) hF
theorem kL_X12_reads (l : Launch) (D : Dx) (hT : Nat) (aT : Nat → Nat) (yT : Nat → ClassId) (n : Nat) : ∀ k, SH_X12_reads l D hT aT yT (L_X12_reads n k)
  | 0 => fun _ _ _ h => by cases h
  | k + 1 => k_X12_reads_20 l D hT aT yT n _ (kL_X12_reads l D hT aT yT n k)
set_option maxHeartbeats 4000000 in
set_option maxRecDepth 100000 in
theorem c_X12_reads (l : Launch) (D : Dx) (hT : Nat) (aT : Nat → Nat) (yT : Nat → ClassId) (n : Nat) (gT : Gs) (q : Int32 × Gs) (hF : f_X12_reads n gT = some q) (sz : Nat) : Met l yX12_reads (ws_ yX12_reads cX12_reads 3 (some .boolean)) R_X12_reads (PC D (tX12 yT) [.ref hT] (wX12 hT aT yT gT) sz) (QI D (va_A (wX12 hT aT yT gT) sz) (wX12 hT aT yT q.2) q.1) 0 0 (va_A (wX12 hT aT yT gT) sz) := by
  refine Met.ofW (cc := cX12_reads) (maxL := 3) (ret := (some .boolean)) (by decide) rfl ?_
  intro p e s m args below meth c s₁ B hml hv
  obtain ⟨rfl, hsz, hP, hK, hD, hN⟩ := hv
  subst hsz
  have C : Cx p s m _ meth c cX12_reads (some .boolean) 3 RX12 lw_all := Cx_of B hml
  have X := Hx_start hP hK hD hN
  obtain ⟨hx, hb, hr, -, hown, hts, hlk⟩ := id C
  generalize va_A (wX12 hT aT yT gT) s.heap.size = A at X ⊢
  have hl := lv_entry ([.ref hT]) (n := 3) (Nat.le_of_ble_eq_true rfl)
  rw [lg_entry_eq]
  generalize (lg_sl ([.ref hT]) ++ List.replicate (3 - (lg_sl ([.ref hT])).length) Slot.unset).toArray = ls at hl ⊢
  have hl : lv_has ls 3 [(0, .ref hT)] := hl
  unfold f_X12_reads at hF
  refine lv_aload_n hx hb dX12_reads_0 rfl (lv_at hl 0 rfl) ?_
  refine lv_iconst (v := (0 : Int32)) hx hb dX12_reads_1 (by decide) ?_
  refine va_put (D := D.1) (ci := 12) (v := .int (0 : Int32)) (ty := .int) (C := RX12) (T := TX12) (N := 114) hx hb hts wi_X12 tyX12 tyX12_ok nmX12 hown X.1 X.2.1 X.2.2.1 X.2.2.2.1 0 rfl rfl 33 (by decide) (hts _ q6_227) (fun _ h9 => h9) rfl (by decide +kernel) rfl rfl (by rw [List.length_map, List.length_range]; decide) dX12_reads_2 (fun H locs hP hD hS => ?_)
  have X : Hx D (tX12 yT) A s H locs (wX12 hT aT yT (sI gT 33 (0 : Int32))) := Hx_set X (wG_sI (k := 33) rfl) hP hD hS
  refine lv_aload_n hx hb dX12_reads_5 rfl (lv_at hl 0 rfl) ?_
  refine lv_iconst (v := (0 : Int32)) hx hb dX12_reads_6 (by decide) ?_
  refine va_put (D := D.1) (ci := 12) (v := .int (0 : Int32)) (ty := .int) (C := RX12) (T := TX12) (N := 114) hx hb hts wi_X12 tyX12 tyX12_ok nmX12 hown X.1 X.2.1 X.2.2.1 X.2.2.2.1 0 rfl rfl 34 (by decide) (hts _ q6_228) (fun _ h9 => h9) rfl (by decide +kernel) rfl rfl (by rw [List.length_map, List.length_range]; decide) dX12_reads_7 (fun H locs hP hD hS => ?_)
  have X : Hx D (tX12 yT) A s H locs (wX12 hT aT yT (sI (sI gT 33 (0 : Int32)) 34 (0 : Int32))) := Hx_set X (wG_sI (k := 34) rfl) hP hD hS
  refine lv_aload_n hx hb dX12_reads_10 rfl (lv_at hl 0 rfl) ?_
  refine lv_iconst (v := (0 : Int32)) hx hb dX12_reads_11 (by decide) ?_
  refine va_put (D := D.1) (ci := 12) (v := .int (0 : Int32)) (ty := .int) (C := RX12) (T := TX12) (N := 114) hx hb hts wi_X12 tyX12 tyX12_ok nmX12 hown X.1 X.2.1 X.2.2.1 X.2.2.2.1 0 rfl rfl 35 (by decide) (hts _ q6_229) (fun _ h9 => h9) rfl (by decide +kernel) rfl rfl (by rw [List.length_map, List.length_range]; decide) dX12_reads_12 (fun H locs hP hD hS => ?_)
  have X : Hx D (tX12 yT) A s H locs (wX12 hT aT yT (sI (sI (sI gT 33 (0 : Int32)) 34 (0 : Int32)) 35 (0 : Int32))) := Hx_set X (wG_sI (k := 35) rfl) hP hD hS
  refine lv_aload_n hx hb dX12_reads_15 rfl (lv_at hl 0 rfl) ?_
  refine lv_iconst (v := (0 : Int32)) hx hb dX12_reads_16 (by decide) ?_
  refine va_put (D := D.1) (ci := 12) (v := .int (0 : Int32)) (ty := .int) (C := RX12) (T := TX12) (N := 114) hx hb hts wi_X12 tyX12 tyX12_ok nmX12 hown X.1 X.2.1 X.2.2.1 X.2.2.2.1 0 rfl rfl 36 (by decide) (hts _ q6_230) (fun _ h9 => h9) rfl (by decide +kernel) rfl rfl (by rw [List.length_map, List.length_range]; decide) dX12_reads_17 (fun H locs hP hD hS => ?_)
  have X : Hx D (tX12 yT) A s H locs (wX12 hT aT yT (sI (sI (sI (sI gT 33 (0 : Int32)) 34 (0 : Int32)) 35 (0 : Int32)) 36 (0 : Int32))) := Hx_set X (wG_sI (k := 36) rfl) hP hD hS
  exact (kL_X12_reads l D hT aT yT n n) C X (lv_sub hl [0] rfl) hF

/-! ### X12_plan -/
theorem dX12_plan_0 : decode cX12_plan 0 = .ok (.aload_n 0, 1) := by decide +kernel
theorem dX12_plan_1 : decode cX12_plan 1 = .ok (.invokevirtual 696, 3) := by decide +kernel
theorem dX12_plan_4 : decode cX12_plan 4 = .ok (.aload_n 0, 1) := by decide +kernel
theorem dX12_plan_5 : decode cX12_plan 5 = .ok (.invokevirtual 699, 3) := by decide +kernel
theorem dX12_plan_8 : decode cX12_plan 8 = .ok (.ifCond .eq 26, 3) := by decide +kernel
theorem dX12_plan_11 : decode cX12_plan 11 = .ok (.aload_n 0, 1) := by decide +kernel
theorem dX12_plan_12 : decode cX12_plan 12 = .ok (.invokevirtual 702, 3) := by decide +kernel
theorem dX12_plan_15 : decode cX12_plan 15 = .ok (.ifCond .eq 19, 3) := by decide +kernel
theorem dX12_plan_18 : decode cX12_plan 18 = .ok (.aload_n 0, 1) := by decide +kernel
theorem dX12_plan_19 : decode cX12_plan 19 = .ok (.invokevirtual 705, 3) := by decide +kernel
theorem dX12_plan_22 : decode cX12_plan 22 = .ok (.ifCond .eq 12, 3) := by decide +kernel
theorem dX12_plan_25 : decode cX12_plan 25 = .ok (.aload_n 0, 1) := by decide +kernel
theorem dX12_plan_26 : decode cX12_plan 26 = .ok (.invokevirtual 708, 3) := by decide +kernel
theorem dX12_plan_29 : decode cX12_plan 29 = .ok (.aload_n 0, 1) := by decide +kernel
theorem dX12_plan_30 : decode cX12_plan 30 = .ok (.getfield 238, 3) := by decide +kernel
theorem dX12_plan_33 : decode cX12_plan 33 = .ok (.ireturn, 1) := by decide +kernel
theorem dX12_plan_34 : decode cX12_plan 34 = .ok (.iconst (-1), 1) := by decide +kernel
theorem dX12_plan_35 : decode cX12_plan 35 = .ok (.aload_n 0, 1) := by decide +kernel
theorem dX12_plan_36 : decode cX12_plan 36 = .ok (.getfield 122, 3) := by decide +kernel
theorem dX12_plan_39 : decode cX12_plan 39 = .ok (.isub, 1) := by decide +kernel
theorem dX12_plan_40 : decode cX12_plan 40 = .ok (.ireturn, 1) := by decide +kernel
abbrev R_X12_plan : Room := ({ frames := 428, cells := 0, slots := 0, locals := 25467 } : Room)
def f_X12_plan (n : Nat) (gT : Gs) : Option (Int32 × Gs) :=
  bnd (f_X12_begins n gT) (fun q_1 => bnd (f_X12_reads n q_1) (fun q_3 => if q_3.1 = 0 then (some ((-1 : Int32) - (gI q_3.2 22), q_3.2)) else (bnd (f_X12_means n q_3.2) (fun q_5 => if q_5.1 = 0 then (some ((-1 : Int32) - (gI q_5.2 22), q_5.2)) else (bnd (f_X12_judges n q_5.2) (fun q_7 => if q_7.1 = 0 then (some ((-1 : Int32) - (gI q_7.2 22), q_7.2)) else (bnd (f_X12_settle n q_7.2) (fun q_9 => some (gI q_9 60, q_9)))))))))
set_option maxHeartbeats 4000000 in
set_option maxRecDepth 100000 in
theorem c_X12_plan (l : Launch) (D : Dx) (hT : Nat) (aT : Nat → Nat) (yT : Nat → ClassId) (n : Nat) (gT : Gs) (q : Int32 × Gs) (hF : f_X12_plan n gT = some q) (sz : Nat) : Met l yX12_plan (ws_ yX12_plan cX12_plan 1 (some .int)) R_X12_plan (PC D (tX12 yT) [.ref hT] (wX12 hT aT yT gT) sz) (QI D (va_A (wX12 hT aT yT gT) sz) (wX12 hT aT yT q.2) q.1) 0 0 (va_A (wX12 hT aT yT gT) sz) := by
  refine Met.ofW (cc := cX12_plan) (maxL := 1) (ret := (some .int)) (by decide) rfl ?_
  intro p e s m args below meth c s₁ B hml hv
  obtain ⟨rfl, hsz, hP, hK, hD, hN⟩ := hv
  subst hsz
  have C : Cx p s m _ meth c cX12_plan (some .int) 1 RX12 lw_all := Cx_of B hml
  have X := Hx_start hP hK hD hN
  obtain ⟨hx, hb, hr, -, hown, hts, hlk⟩ := id C
  generalize va_A (wX12 hT aT yT gT) s.heap.size = A at X ⊢
  have hl := lv_entry ([.ref hT]) (n := 1) (Nat.le_of_ble_eq_true rfl)
  rw [lg_entry_eq]
  generalize (lg_sl ([.ref hT]) ++ List.replicate (1 - (lg_sl ([.ref hT])).length) Slot.unset).toArray = ls at hl ⊢
  have hl : lv_has ls 1 [(0, .ref hT)] := hl
  unfold f_X12_plan at hF
  refine lv_aload_n hx hb dX12_plan_0 rfl (lv_at hl 0 rfl) ?_
  obtain ⟨q_1, hc_2, hF⟩ := bnd_some hF
  refine cV_v (As := []) (rest := []) C X (c_X12_begins l D hT aT yT n gT q_1 hc_2 _) (cwV 0 hts (good_V q8_69 q8_71 q0_65 q1_9 q8_72) rfl rfl rfl (by decide +kernel) ⟨Nat.le_of_ble_eq_true rfl, Nat.le_of_ble_eq_true rfl⟩) (va_recv X.1 X.2.1 (ci := 12) (q0 := 0) rfl rfl) X.1 X.2.1 X.2.2.1 (free_all X) hl.1 rfl rfl (Nat.le_of_ble_eq_true rfl) dX12_plan_1 ⟨Nat.le_of_ble_eq_true rfl, Nat.le_of_ble_eq_true rfl⟩ (fun t H1 locs1 ht hB hk hS => ?_)
  have X : Hx D (tX12 yT) A s H1 locs1 (wX12 hT aT yT q_1) := Hx_after_all X ht hB hS
  clear hk hS ht hB
  generalize H1 = H at X ⊢
  generalize locs1 = locs at X ⊢
  refine lv_aload_n hx hb dX12_plan_4 rfl (lv_at hl 0 rfl) ?_
  obtain ⟨q_3, hc_4, hF⟩ := bnd_some hF
  refine cV_i (As := []) (rest := []) C X (c_X12_reads l D hT aT yT n q_1 q_3 hc_4 _) (cwV 0 hts (good_V q8_165 q8_167 q0_76 q1_9 q8_168) rfl rfl rfl (by decide +kernel) ⟨Nat.le_of_ble_eq_true rfl, Nat.le_of_ble_eq_true rfl⟩) (va_recv X.1 X.2.1 (ci := 12) (q0 := 0) rfl rfl) X.1 X.2.1 X.2.2.1 (free_all X) hl.1 rfl rfl (Nat.le_of_ble_eq_true rfl) dX12_plan_5 ⟨Nat.le_of_ble_eq_true rfl, Nat.le_of_ble_eq_true rfl⟩ (fun t H1 locs1 ht hB hk hS => ?_)
  have X : Hx D (tX12 yT) A s H1 locs1 (wX12 hT aT yT q_3.2) := Hx_after_all X ht hB hS
  clear hk hS ht hB
  generalize H1 = H at X ⊢
  generalize locs1 = locs at X ⊢
  refine lv_if_eq (tgt := 34) hx hb dX12_plan_8 (by decide) (fun c => ?_) (fun c => ?_)
  · replace hF := iT c hF
    refine lv_iconst (v := (-1 : Int32)) hx hb dX12_plan_34 (by decide) ?_
    refine lv_aload_n hx hb dX12_plan_35 rfl (lv_at hl 0 rfl) ?_
    refine va_get (D := D.1) (ci := 12) (v := .int (gI q_3.2 22)) (C := RX12) (T := TX12) (N := 114) hx hb hts wi_X12 hown X.1 X.2.1 0 rfl rfl 22 (by decide) (hts _ q6_216) (fun _ h9 => h9) (fl_get (by decide)) dX12_plan_36 ?_
    refine lv_isub hx hb dX12_plan_39 ?_
    have hq := Option.some.inj hF
    subst hq
    exact rt_i C X dX12_plan_40
  · replace hF := iF c hF
    refine lv_aload_n hx hb dX12_plan_11 rfl (lv_at hl 0 rfl) ?_
    obtain ⟨q_5, hc_6, hF⟩ := bnd_some hF
    refine cV_i (As := []) (rest := []) C X (c_X12_means l D hT aT yT n q_3.2 q_5 hc_6 _) (cwV 0 hts (good_V q9_12 q9_14 q0_97 q1_9 q9_15) rfl rfl rfl (by decide +kernel) ⟨Nat.le_of_ble_eq_true rfl, Nat.le_of_ble_eq_true rfl⟩) (va_recv X.1 X.2.1 (ci := 12) (q0 := 0) rfl rfl) X.1 X.2.1 X.2.2.1 (free_all X) hl.1 rfl rfl (Nat.le_of_ble_eq_true rfl) dX12_plan_12 ⟨Nat.le_of_ble_eq_true rfl, Nat.le_of_ble_eq_true rfl⟩ (fun t H1 locs1 ht hB hk hS => ?_)
    have X : Hx D (tX12 yT) A s H1 locs1 (wX12 hT aT yT q_5.2) := Hx_after_all X ht hB hS
    clear hk hS ht hB
    generalize H1 = H at X ⊢
    generalize locs1 = locs at X ⊢
    refine lv_if_eq (tgt := 34) hx hb dX12_plan_15 (by decide) (fun c => ?_) (fun c => ?_)
    · replace hF := iT c hF
      refine lv_iconst (v := (-1 : Int32)) hx hb dX12_plan_34 (by decide) ?_
      refine lv_aload_n hx hb dX12_plan_35 rfl (lv_at hl 0 rfl) ?_
      refine va_get (D := D.1) (ci := 12) (v := .int (gI q_5.2 22)) (C := RX12) (T := TX12) (N := 114) hx hb hts wi_X12 hown X.1 X.2.1 0 rfl rfl 22 (by decide) (hts _ q6_216) (fun _ h9 => h9) (fl_get (by decide)) dX12_plan_36 ?_
      refine lv_isub hx hb dX12_plan_39 ?_
      have hq := Option.some.inj hF
      subst hq
      exact rt_i C X dX12_plan_40
    · replace hF := iF c hF
      refine lv_aload_n hx hb dX12_plan_18 rfl (lv_at hl 0 rfl) ?_
      obtain ⟨q_7, hc_8, hF⟩ := bnd_some hF
      refine cV_i (As := []) (rest := []) C X (c_X12_judges l D hT aT yT n q_5.2 q_7 hc_8 _) (cwV 0 hts (good_V q9_28 q9_30 q0_101 q1_9 q9_31) rfl rfl rfl (by decide +kernel) ⟨Nat.le_of_ble_eq_true rfl, Nat.le_of_ble_eq_true rfl⟩) (va_recv X.1 X.2.1 (ci := 12) (q0 := 0) rfl rfl) X.1 X.2.1 X.2.2.1 (free_all X) hl.1 rfl rfl (Nat.le_of_ble_eq_true rfl) dX12_plan_19 ⟨Nat.le_of_ble_eq_true rfl, Nat.le_of_ble_eq_true rfl⟩ (fun t H1 locs1 ht hB hk hS => ?_)
      have X : Hx D (tX12 yT) A s H1 locs1 (wX12 hT aT yT q_7.2) := Hx_after_all X ht hB hS
      clear hk hS ht hB
      generalize H1 = H at X ⊢
      generalize locs1 = locs at X ⊢
      refine lv_if_eq (tgt := 34) hx hb dX12_plan_22 (by decide) (fun c => ?_) (fun c => ?_)
      · replace hF := iT c hF
        refine lv_iconst (v := (-1 : Int32)) hx hb dX12_plan_34 (by decide) ?_
        refine lv_aload_n hx hb dX12_plan_35 rfl (lv_at hl 0 rfl) ?_
        refine va_get (D := D.1) (ci := 12) (v := .int (gI q_7.2 22)) (C := RX12) (T := TX12) (N := 114) hx hb hts wi_X12 hown X.1 X.2.1 0 rfl rfl 22 (by decide) (hts _ q6_216) (fun _ h9 => h9) (fl_get (by decide)) dX12_plan_36 ?_
        refine lv_isub hx hb dX12_plan_39 ?_
        have hq := Option.some.inj hF
        subst hq
        exact rt_i C X dX12_plan_40
      · replace hF := iF c hF
        refine lv_aload_n hx hb dX12_plan_25 rfl (lv_at hl 0 rfl) ?_
        obtain ⟨q_9, hc_10, hF⟩ := bnd_some hF
        refine cV_v (As := []) (rest := []) C X (c_X12_settle l D hT aT yT n q_7.2 q_9 hc_10 _) (cwV 0 hts (good_V q9_61 q9_63 q0_107 q1_9 q9_64) rfl rfl rfl (by decide +kernel) ⟨Nat.le_of_ble_eq_true rfl, Nat.le_of_ble_eq_true rfl⟩) (va_recv X.1 X.2.1 (ci := 12) (q0 := 0) rfl rfl) X.1 X.2.1 X.2.2.1 (free_all X) hl.1 rfl rfl (Nat.le_of_ble_eq_true rfl) dX12_plan_26 ⟨Nat.le_of_ble_eq_true rfl, Nat.le_of_ble_eq_true rfl⟩ (fun t H1 locs1 ht hB hk hS => ?_)
        have X : Hx D (tX12 yT) A s H1 locs1 (wX12 hT aT yT q_9) := Hx_after_all X ht hB hS
        clear hk hS ht hB
        generalize H1 = H at X ⊢
        generalize locs1 = locs at X ⊢
        refine lv_aload_n hx hb dX12_plan_29 rfl (lv_at hl 0 rfl) ?_
        refine va_get (D := D.1) (ci := 12) (v := .int (gI q_9 60)) (C := RX12) (T := TX12) (N := 114) hx hb hts wi_X12 hown X.1 X.2.1 0 rfl rfl 60 (by decide) (hts _ q7_14) (fun _ h9 => h9) (fl_get (by decide)) dX12_plan_30 ?_
        have hq := Option.some.inj hF
        subst hq
        exact rt_i C X dX12_plan_33

/-! ### X12_asks -/
theorem dX12_asks_0 : decode cX12_asks 0 = .ok (.aload_n 0, 1) := by decide +kernel
theorem dX12_asks_1 : decode cX12_asks 1 = .ok (.invokevirtual 696, 3) := by decide +kernel
theorem dX12_asks_4 : decode cX12_asks 4 = .ok (.aload_n 0, 1) := by decide +kernel
theorem dX12_asks_5 : decode cX12_asks 5 = .ok (.iconst 0, 1) := by decide +kernel
theorem dX12_asks_6 : decode cX12_asks 6 = .ok (.putfield 134, 3) := by decide +kernel
theorem dX12_asks_9 : decode cX12_asks 9 = .ok (.aload_n 0, 1) := by decide +kernel
theorem dX12_asks_10 : decode cX12_asks 10 = .ok (.invokevirtual 561, 3) := by decide +kernel
theorem dX12_asks_13 : decode cX12_asks 13 = .ok (.ifCond .ne 5, 3) := by decide +kernel
theorem dX12_asks_16 : decode cX12_asks 16 = .ok (.iconst (-1), 1) := by decide +kernel
theorem dX12_asks_17 : decode cX12_asks 17 = .ok (.ireturn, 1) := by decide +kernel
theorem dX12_asks_18 : decode cX12_asks 18 = .ok (.aload_n 0, 1) := by decide +kernel
theorem dX12_asks_19 : decode cX12_asks 19 = .ok (.getfield 82, 3) := by decide +kernel
theorem dX12_asks_22 : decode cX12_asks 22 = .ok (.aload_n 0, 1) := by decide +kernel
theorem dX12_asks_23 : decode cX12_asks 23 = .ok (.getfield 116, 3) := by decide +kernel
theorem dX12_asks_26 : decode cX12_asks 26 = .ok (.iaload, 1) := by decide +kernel
theorem dX12_asks_27 : decode cX12_asks 27 = .ok (.ifCond .eq 10, 3) := by decide +kernel
theorem dX12_asks_30 : decode cX12_asks 30 = .ok (.aload_n 0, 1) := by decide +kernel
theorem dX12_asks_31 : decode cX12_asks 31 = .ok (.invokevirtual 544, 3) := by decide +kernel
theorem dX12_asks_34 : decode cX12_asks 34 = .ok (.pop, 1) := by decide +kernel
theorem dX12_asks_35 : decode cX12_asks 35 = .ok (.iconst (-1), 1) := by decide +kernel
theorem dX12_asks_36 : decode cX12_asks 36 = .ok (.ireturn, 1) := by decide +kernel
theorem dX12_asks_37 : decode cX12_asks 37 = .ok (.aload_n 0, 1) := by decide +kernel
theorem dX12_asks_38 : decode cX12_asks 38 = .ok (.getfield 125, 3) := by decide +kernel
theorem dX12_asks_41 : decode cX12_asks 41 = .ok (.ifCond .lt 15, 3) := by decide +kernel
theorem dX12_asks_44 : decode cX12_asks 44 = .ok (.aload_n 0, 1) := by decide +kernel
theorem dX12_asks_45 : decode cX12_asks 45 = .ok (.iconst 2, 1) := by decide +kernel
theorem dX12_asks_46 : decode cX12_asks 46 = .ok (.aload_n 0, 1) := by decide +kernel
theorem dX12_asks_47 : decode cX12_asks 47 = .ok (.getfield 125, 3) := by decide +kernel
theorem dX12_asks_50 : decode cX12_asks 50 = .ok (.invokevirtual 537, 3) := by decide +kernel
theorem dX12_asks_53 : decode cX12_asks 53 = .ok (.pop, 1) := by decide +kernel
theorem dX12_asks_54 : decode cX12_asks 54 = .ok (.iconst (-1), 1) := by decide +kernel
theorem dX12_asks_55 : decode cX12_asks 55 = .ok (.ireturn, 1) := by decide +kernel
theorem dX12_asks_56 : decode cX12_asks 56 = .ok (.iconst 0, 1) := by decide +kernel
theorem dX12_asks_57 : decode cX12_asks 57 = .ok (.istore_n 1, 1) := by decide +kernel
theorem dX12_asks_58 : decode cX12_asks 58 = .ok (.iload_n 1, 1) := by decide +kernel
theorem dX12_asks_59 : decode cX12_asks 59 = .ok (.aload_n 0, 1) := by decide +kernel
theorem dX12_asks_60 : decode cX12_asks 60 = .ok (.getfield 138, 3) := by decide +kernel
theorem dX12_asks_63 : decode cX12_asks 63 = .ok (.if_icmp .ge 89, 3) := by decide +kernel
theorem dX12_asks_66 : decode cX12_asks 66 = .ok (.aload_n 0, 1) := by decide +kernel
theorem dX12_asks_67 : decode cX12_asks 67 = .ok (.getfield 141, 3) := by decide +kernel
theorem dX12_asks_70 : decode cX12_asks 70 = .ok (.iload_n 1, 1) := by decide +kernel
theorem dX12_asks_71 : decode cX12_asks 71 = .ok (.iaload, 1) := by decide +kernel
theorem dX12_asks_72 : decode cX12_asks 72 = .ok (.iconst 1, 1) := by decide +kernel
theorem dX12_asks_73 : decode cX12_asks 73 = .ok (.if_icmp .ne 21, 3) := by decide +kernel
theorem dX12_asks_76 : decode cX12_asks 76 = .ok (.aload_n 0, 1) := by decide +kernel
theorem dX12_asks_77 : decode cX12_asks 77 = .ok (.iconst 0, 1) := by decide +kernel
theorem dX12_asks_78 : decode cX12_asks 78 = .ok (.aload_n 0, 1) := by decide +kernel
theorem dX12_asks_79 : decode cX12_asks 79 = .ok (.getfield 238, 3) := by decide +kernel
theorem dX12_asks_82 : decode cX12_asks 82 = .ok (.aload_n 0, 1) := by decide +kernel
theorem dX12_asks_83 : decode cX12_asks 83 = .ok (.getfield 144, 3) := by decide +kernel
theorem dX12_asks_86 : decode cX12_asks 86 = .ok (.iload_n 1, 1) := by decide +kernel
theorem dX12_asks_87 : decode cX12_asks 87 = .ok (.iaload, 1) := by decide +kernel
theorem dX12_asks_88 : decode cX12_asks 88 = .ok (.invokevirtual 714, 3) := by decide +kernel
theorem dX12_asks_91 : decode cX12_asks 91 = .ok (.goto 19, 3) := by decide +kernel
theorem dX12_asks_94 : decode cX12_asks 94 = .ok (.aload_n 0, 1) := by decide +kernel
theorem dX12_asks_95 : decode cX12_asks 95 = .ok (.bipush 52, 2) := by decide +kernel
theorem dX12_asks_97 : decode cX12_asks 97 = .ok (.aload_n 0, 1) := by decide +kernel
theorem dX12_asks_98 : decode cX12_asks 98 = .ok (.getfield 244, 3) := by decide +kernel
theorem dX12_asks_101 : decode cX12_asks 101 = .ok (.aload_n 0, 1) := by decide +kernel
theorem dX12_asks_102 : decode cX12_asks 102 = .ok (.getfield 144, 3) := by decide +kernel
theorem dX12_asks_105 : decode cX12_asks 105 = .ok (.iload_n 1, 1) := by decide +kernel
theorem dX12_asks_106 : decode cX12_asks 106 = .ok (.iaload, 1) := by decide +kernel
theorem dX12_asks_107 : decode cX12_asks 107 = .ok (.invokevirtual 714, 3) := by decide +kernel
theorem dX12_asks_110 : decode cX12_asks 110 = .ok (.istore_n 2, 1) := by decide +kernel
theorem dX12_asks_111 : decode cX12_asks 111 = .ok (.iload_n 2, 1) := by decide +kernel
theorem dX12_asks_112 : decode cX12_asks 112 = .ok (.ifCond .ge 22, 3) := by decide +kernel
theorem dX12_asks_115 : decode cX12_asks 115 = .ok (.aload_n 0, 1) := by decide +kernel
theorem dX12_asks_116 : decode cX12_asks 116 = .ok (.iconst 3, 1) := by decide +kernel
theorem dX12_asks_117 : decode cX12_asks 117 = .ok (.aload_n 0, 1) := by decide +kernel
theorem dX12_asks_118 : decode cX12_asks 118 = .ok (.getfield 86, 3) := by decide +kernel
theorem dX12_asks_121 : decode cX12_asks 121 = .ok (.aload_n 0, 1) := by decide +kernel
theorem dX12_asks_122 : decode cX12_asks 122 = .ok (.getfield 144, 3) := by decide +kernel
theorem dX12_asks_125 : decode cX12_asks 125 = .ok (.iload_n 1, 1) := by decide +kernel
theorem dX12_asks_126 : decode cX12_asks 126 = .ok (.iaload, 1) := by decide +kernel
theorem dX12_asks_127 : decode cX12_asks 127 = .ok (.iaload, 1) := by decide +kernel
theorem dX12_asks_128 : decode cX12_asks 128 = .ok (.invokevirtual 537, 3) := by decide +kernel
theorem dX12_asks_131 : decode cX12_asks 131 = .ok (.pop, 1) := by decide +kernel
theorem dX12_asks_132 : decode cX12_asks 132 = .ok (.iconst (-1), 1) := by decide +kernel
theorem dX12_asks_133 : decode cX12_asks 133 = .ok (.ireturn, 1) := by decide +kernel
theorem dX12_asks_134 : decode cX12_asks 134 = .ok (.aload_n 0, 1) := by decide +kernel
theorem dX12_asks_135 : decode cX12_asks 135 = .ok (.getfield 101, 3) := by decide +kernel
theorem dX12_asks_138 : decode cX12_asks 138 = .ok (.aload_n 0, 1) := by decide +kernel
theorem dX12_asks_139 : decode cX12_asks 139 = .ok (.getfield 153, 3) := by decide +kernel
theorem dX12_asks_142 : decode cX12_asks 142 = .ok (.iload_n 1, 1) := by decide +kernel
theorem dX12_asks_143 : decode cX12_asks 143 = .ok (.iaload, 1) := by decide +kernel
theorem dX12_asks_144 : decode cX12_asks 144 = .ok (.iload_n 2, 1) := by decide +kernel
theorem dX12_asks_145 : decode cX12_asks 145 = .ok (.iastore, 1) := by decide +kernel
theorem dX12_asks_146 : decode cX12_asks 146 = .ok (.iinc 1 1, 3) := by decide +kernel
theorem dX12_asks_149 : decode cX12_asks 149 = .ok (.goto (-91), 3) := by decide +kernel
theorem dX12_asks_152 : decode cX12_asks 152 = .ok (.aload_n 0, 1) := by decide +kernel
theorem dX12_asks_153 : decode cX12_asks 153 = .ok (.sipush 2000, 3) := by decide +kernel
theorem dX12_asks_156 : decode cX12_asks 156 = .ok (.aload_n 0, 1) := by decide +kernel
theorem dX12_asks_157 : decode cX12_asks 157 = .ok (.getfield 113, 3) := by decide +kernel
theorem dX12_asks_160 : decode cX12_asks 160 = .ok (.invokevirtual 633, 3) := by decide +kernel
theorem dX12_asks_163 : decode cX12_asks 163 = .ok (.ireturn, 1) := by decide +kernel
abbrev R_X12_asks : Room := ({ frames := 426, cells := 0, slots := 0, locals := 25423 } : Room)
def b_X12_asks_110 (n : Nat) (rec : (Gs → Int32 → Option (Int32 × Gs))) (gT : Gs) (v1 : Int32) (s0 : Int32) : Option (Int32 × Gs) :=
  if 0 ≤ s0 then (grd (inB v1 3001) (grd (inB (gIA gT 32 v1.toNatClampNeg) 8000) (rec (sIA gT 15 (upd (gIA gT 15) (gIA gT 32 v1.toNatClampNeg).toNatClampNeg s0)) (v1 + (1 : Int32))))) else (grd (inB v1 3001) (grd (inB (gIA gT 29 v1.toNatClampNeg) 3001) (bnd (f_X12_fault gT (3 : Int32) (gIA gT 10 (gIA gT 29 v1.toNatClampNeg).toNatClampNeg)) (fun q_16 => some ((-1 : Int32), q_16.2)))))
def h_X12_asks_58 (n : Nat) (rec : (Gs → Int32 → Option (Int32 × Gs))) (gT : Gs) (v1 : Int32) : Option (Int32 × Gs) :=
  if (gI gT 27) ≤ v1 then (bnd (f_X12_judged n gT (2000 : Int32) (gI gT 19)) (fun q_6 => some (q_6.1, q_6.2))) else (grd (inB v1 3001) (if (gIA gT 28 v1.toNatClampNeg) = (1 : Int32) then (grd (inB v1 3001) (bnd (f_X12_rowCalled n gT (0 : Int32) (gI gT 60) (gIA gT 29 v1.toNatClampNeg)) (fun q_19 => b_X12_asks_110 n rec gT v1 q_19))) else (grd (inB v1 3001) (bnd (f_X12_rowCalled n gT (52 : Int32) (gI gT 62) (gIA gT 29 v1.toNatClampNeg)) (fun q_10 => b_X12_asks_110 n rec gT v1 q_10)))))
def L_X12_asks (n : Nat) : Nat → (Gs → Int32 → Option (Int32 × Gs))
  | 0 => ((fun _ _ => none))
  | k + 1 => (h_X12_asks_58 n (L_X12_asks n k))
def f_X12_asks (n : Nat) (gT : Gs) : Option (Int32 × Gs) :=
  bnd (f_X12_begins n gT) (fun q_1 => bnd (ff_X12_formula n (sI q_1 26 (0 : Int32))) (fun q_3 => if q_3.1 = 0 then (some ((-1 : Int32), q_3.2)) else (grd (inB (gI q_3.2 20) 3001) (if (gIA q_3.2 9 (gI q_3.2 20).toNatClampNeg) = 0 then (if (gI q_3.2 23) < 0 then ((L_X12_asks n n) q_3.2 (0 : Int32)) else (bnd (f_X12_fault q_3.2 (2 : Int32) (gI q_3.2 23)) (fun q_21 => some ((-1 : Int32), q_21.2)))) else (bnd (f_X12_cannot q_3.2) (fun q_23 => some ((-1 : Int32), q_23.2)))))))
def S_X12_asks_110 (l : Launch) (D : Dx) (hT : Nat) (aT : Nat → Nat) (yT : Nat → ClassId) (fn : Gs → Int32 → Int32 → Option (Int32 × Gs)) : Prop :=
  ∀ {p : Program} {e : Env} {s : State} {m : MethodId} {args : Array Value} {below : List Frame} {meth : Method} {c : Code} {H : Heap} {locs : List Loc} {A : Nat → Prop} {ls : Array Slot} {gT : Gs} {v1 : Int32} {s0 : Int32} {q : Int32 × Gs}, Cx p s m args meth c cX12_asks (some .int) 3 RX12 lw_all → Hx D (tX12 yT) A s H locs (wX12 hT aT yT gT) → lv_has ls 3 [(0, .ref hT), (1, .int v1)] → fn gT v1 s0 = some q → W p l e R_X12_asks s m args below meth c H locs 0 0 (MQ below (QI D A (wX12 hT aT yT q.2) q.1) args s 0 0 A) (F0 m 110 ls [.int s0])
def S_X12_asks_58 (l : Launch) (D : Dx) (hT : Nat) (aT : Nat → Nat) (yT : Nat → ClassId) (fn : Gs → Int32 → Option (Int32 × Gs)) : Prop :=
  ∀ {p : Program} {e : Env} {s : State} {m : MethodId} {args : Array Value} {below : List Frame} {meth : Method} {c : Code} {H : Heap} {locs : List Loc} {A : Nat → Prop} {ls : Array Slot} {gT : Gs} {v1 : Int32} {q : Int32 × Gs}, Cx p s m args meth c cX12_asks (some .int) 3 RX12 lw_all → Hx D (tX12 yT) A s H locs (wX12 hT aT yT gT) → lv_has ls 3 [(0, .ref hT), (1, .int v1)] → fn gT v1 = some q → W p l e R_X12_asks s m args below meth c H locs 0 0 (MQ below (QI D A (wX12 hT aT yT q.2) q.1) args s 0 0 A) (F0 m 58 ls [])
def SH_X12_asks (l : Launch) (D : Dx) (hT : Nat) (aT : Nat → Nat) (yT : Nat → ClassId) (rec : (Gs → Int32 → Option (Int32 × Gs))) : Prop := S_X12_asks_58 l D hT aT yT rec
set_option maxHeartbeats 4000000 in
set_option maxRecDepth 100000 in
theorem k_X12_asks_110 (l : Launch) (D : Dx) (hT : Nat) (aT : Nat → Nat) (yT : Nat → ClassId) (n : Nat) (rec : (Gs → Int32 → Option (Int32 × Gs))) (IH : SH_X12_asks l D hT aT yT rec) : S_X12_asks_110 l D hT aT yT (b_X12_asks_110 n rec) := by
  intro p e s m args below meth c H locs A ls gT v1 s0 q C X hl hF
  obtain ⟨hx, hb, hr, hml, hown, hts, hlk⟩ := id C
  unfold b_X12_asks_110 at hF
  refine lv_istore_n (lv' := [(2, .int s0), (0, .ref hT), (1, .int v1)]) hx hb dX12_asks_110 rfl hl (by decide) rfl (fun ls hl => ?_)
  refine lv_iload_n hx hb dX12_asks_111 rfl (lv_at hl 0 rfl) ?_
  refine lv_if_ge (tgt := 134) hx hb dX12_asks_112 (by decide) (fun c => ?_) (fun c => ?_)
  · replace hF := iT c hF
    refine lv_aload_n hx hb dX12_asks_134 rfl (lv_at hl 1 rfl) ?_
    refine va_get (D := D.1) (ci := 12) (v := .ref (aT 15)) (C := RX12) (T := TX12) (N := 114) hx hb hts wi_X12 hown X.1 X.2.1 0 rfl rfl 15 (by decide) (hts _ q6_209) (fun _ h9 => h9) (fl_get (by decide)) dX12_asks_135 ?_
    refine lv_aload_n hx hb dX12_asks_138 rfl (lv_at hl 1 rfl) ?_
    refine va_get (D := D.1) (ci := 12) (v := .ref (aT 32)) (C := RX12) (T := TX12) (N := 114) hx hb hts wi_X12 hown X.1 X.2.1 0 rfl rfl 32 (by decide) (hts _ q6_226) (fun _ h9 => h9) (fl_get (by decide)) dX12_asks_139 ?_
    refine lv_iload_n hx hb dX12_asks_142 rfl (lv_at hl 2 rfl) ?_
    obtain ⟨h_12, hF⟩ := grd_some hF
    refine va_iald (D := D.1) (f := gIA gT 32) hx hb X.1 X.2.1 18 17 rfl rfl (inB_ok h_12) dX12_asks_143 ?_
    refine lv_iload_n hx hb dX12_asks_144 rfl (lv_at hl 0 rfl) ?_
    obtain ⟨h_13, hF⟩ := grd_some hF
    refine va_iast (D := D.1) (f := gIA gT 15) hx hb X.1 X.2.1 X.2.2.1 X.2.2.2.1 10 9 rfl rfl (inB_ok h_13) dX12_asks_145 (fun H locs hP hD hS => ?_)
    have X : Hx D (tX12 yT) A s H locs (wX12 hT aT yT (sIA gT 15 (upd (gIA gT 15) (gIA gT 32 v1.toNatClampNeg).toNatClampNeg s0))) := Hx_set X (wG_sIA (i := 9) (k := 15) ndX12 rfl rfl) hP hD hS
    refine lv_iinc (v := v1 + (1 : Int32)) (lv' := [(1, .int (v1 + (1 : Int32))), (2, .int s0), (0, .ref hT)]) hx hb dX12_asks_146 hl (k := 2) rfl rfl (by decide) rfl (fun ls hl => ?_)
    refine lv_goto (tgt := 58) hx hb dX12_asks_149 (by decide) ?_
    exact IH C X (lv_sub hl [2, 0] rfl) hF
  · replace hF := iF c hF
    refine lv_aload_n hx hb dX12_asks_115 rfl (lv_at hl 1 rfl) ?_
    refine lv_iconst (v := (3 : Int32)) hx hb dX12_asks_116 (by decide) ?_
    refine lv_aload_n hx hb dX12_asks_117 rfl (lv_at hl 1 rfl) ?_
    refine va_get (D := D.1) (ci := 12) (v := .ref (aT 10)) (C := RX12) (T := TX12) (N := 114) hx hb hts wi_X12 hown X.1 X.2.1 0 rfl rfl 10 (by decide) (hts _ q6_204) (fun _ h9 => h9) (fl_get (by decide)) dX12_asks_118 ?_
    refine lv_aload_n hx hb dX12_asks_121 rfl (lv_at hl 1 rfl) ?_
    refine va_get (D := D.1) (ci := 12) (v := .ref (aT 29)) (C := RX12) (T := TX12) (N := 114) hx hb hts wi_X12 hown X.1 X.2.1 0 rfl rfl 29 (by decide) (hts _ q6_223) (fun _ h9 => h9) (fl_get (by decide)) dX12_asks_122 ?_
    refine lv_iload_n hx hb dX12_asks_125 rfl (lv_at hl 2 rfl) ?_
    obtain ⟨h_14, hF⟩ := grd_some hF
    refine va_iald (D := D.1) (f := gIA gT 29) hx hb X.1 X.2.1 15 14 rfl rfl (inB_ok h_14) dX12_asks_126 ?_
    obtain ⟨h_15, hF⟩ := grd_some hF
    refine va_iald (D := D.1) (f := gIA gT 10) hx hb X.1 X.2.1 5 4 rfl rfl (inB_ok h_15) dX12_asks_127 ?_
    obtain ⟨q_16, hc_17, hF⟩ := bnd_some hF
    refine cV_i (As := [.int (3 : Int32), .int (gIA gT 10 (gIA gT 29 v1.toNatClampNeg).toNatClampNeg)]) (rest := []) C X (c_X12_fault l D hT aT yT gT (3 : Int32) (gIA gT 10 (gIA gT 29 v1.toNatClampNeg).toNatClampNeg) q_16 hc_17 _) (cwV 2 hts (good_V q8_177 q8_179 q0_79 q1_9 q8_180) rfl rfl rfl (by decide +kernel) ⟨Nat.le_of_ble_eq_true rfl, Nat.le_of_ble_eq_true rfl⟩) (va_recv X.1 X.2.1 (ci := 12) (q0 := 0) rfl rfl) X.1 X.2.1 X.2.2.1 (free_all X) hl.1 rfl rfl (Nat.le_of_ble_eq_true rfl) dX12_asks_128 ⟨Nat.le_of_ble_eq_true rfl, Nat.le_of_ble_eq_true rfl⟩ (fun t H1 locs1 ht hB hk hS => ?_)
    have X : Hx D (tX12 yT) A s H1 locs1 (wX12 hT aT yT q_16.2) := Hx_after_all X ht hB hS
    clear hk hS ht hB
    generalize H1 = H at X ⊢
    generalize locs1 = locs at X ⊢
    refine lv_pop hx hb dX12_asks_131 rfl ?_
    refine lv_iconst (v := (-1 : Int32)) hx hb dX12_asks_132 (by decide) ?_
    have hq := Option.some.inj hF
    subst hq
    exact rt_i C X dX12_asks_133
set_option maxHeartbeats 4000000 in
set_option maxRecDepth 100000 in
theorem k_X12_asks_58 (l : Launch) (D : Dx) (hT : Nat) (aT : Nat → Nat) (yT : Nat → ClassId) (n : Nat) (rec : (Gs → Int32 → Option (Int32 × Gs))) (IH : SH_X12_asks l D hT aT yT rec) : S_X12_asks_58 l D hT aT yT (h_X12_asks_58 n rec) := by
  intro p e s m args below meth c H locs A ls gT v1 q C X hl hF
  obtain ⟨hx, hb, hr, hml, hown, hts, hlk⟩ := id C
  unfold h_X12_asks_58 at hF
  refine lv_iload_n hx hb dX12_asks_58 rfl (lv_at hl 1 rfl) ?_
  refine lv_aload_n hx hb dX12_asks_59 rfl (lv_at hl 0 rfl) ?_
  refine va_get (D := D.1) (ci := 12) (v := .int (gI gT 27)) (C := RX12) (T := TX12) (N := 114) hx hb hts wi_X12 hown X.1 X.2.1 0 rfl rfl 27 (by decide) (hts _ q6_221) (fun _ h9 => h9) (fl_get (by decide)) dX12_asks_60 ?_
  refine lv_icmp_ge (tgt := 152) hx hb dX12_asks_63 (by decide) (fun c => ?_) (fun c => ?_)
  · replace hF := iT c hF
    refine lv_aload_n hx hb dX12_asks_152 rfl (lv_at hl 0 rfl) ?_
    refine lv_sipush (v := (2000 : Int32)) hx hb dX12_asks_153 (by decide) ?_
    refine lv_aload_n hx hb dX12_asks_156 rfl (lv_at hl 0 rfl) ?_
    refine va_get (D := D.1) (ci := 12) (v := .int (gI gT 19)) (C := RX12) (T := TX12) (N := 114) hx hb hts wi_X12 hown X.1 X.2.1 0 rfl rfl 19 (by decide) (hts _ q6_213) (fun _ h9 => h9) (fl_get (by decide)) dX12_asks_157 ?_
    obtain ⟨q_6, hc_7, hF⟩ := bnd_some hF
    refine cV_i (As := [.int (2000 : Int32), .int (gI gT 19)]) (rest := []) C X (c_X12_judged l D hT aT yT n gT (2000 : Int32) (gI gT 19) q_6 hc_7 _) (cwV 2 hts (good_V q9_36 q9_38 q0_103 q1_9 q9_39) rfl rfl rfl (by decide +kernel) ⟨Nat.le_of_ble_eq_true rfl, Nat.le_of_ble_eq_true rfl⟩) (va_recv X.1 X.2.1 (ci := 12) (q0 := 0) rfl rfl) X.1 X.2.1 X.2.2.1 (free_all X) hl.1 rfl rfl (Nat.le_of_ble_eq_true rfl) dX12_asks_160 ⟨Nat.le_of_ble_eq_true rfl, Nat.le_of_ble_eq_true rfl⟩ (fun t H1 locs1 ht hB hk hS => ?_)
    have X : Hx D (tX12 yT) A s H1 locs1 (wX12 hT aT yT q_6.2) := Hx_after_all X ht hB hS
    clear hk hS ht hB
    generalize H1 = H at X ⊢
    generalize locs1 = locs at X ⊢
    have hq := Option.some.inj hF
    subst hq
    exact rt_i C X dX12_asks_163
  · replace hF := iF c hF
    refine lv_aload_n hx hb dX12_asks_66 rfl (lv_at hl 0 rfl) ?_
    refine va_get (D := D.1) (ci := 12) (v := .ref (aT 28)) (C := RX12) (T := TX12) (N := 114) hx hb hts wi_X12 hown X.1 X.2.1 0 rfl rfl 28 (by decide) (hts _ q6_222) (fun _ h9 => h9) (fl_get (by decide)) dX12_asks_67 ?_
    refine lv_iload_n hx hb dX12_asks_70 rfl (lv_at hl 1 rfl) ?_
    obtain ⟨h_8, hF⟩ := grd_some hF
    refine va_iald (D := D.1) (f := gIA gT 28) hx hb X.1 X.2.1 14 13 rfl rfl (inB_ok h_8) dX12_asks_71 ?_
    refine lv_iconst (v := (1 : Int32)) hx hb dX12_asks_72 (by decide) ?_
    refine lv_icmp_ne (tgt := 94) hx hb dX12_asks_73 (by decide) (fun c => ?_) (fun c => ?_)
    · replace hF := iF c hF
      refine lv_aload_n hx hb dX12_asks_94 rfl (lv_at hl 0 rfl) ?_
      refine lv_bipush (v := (52 : Int32)) hx hb dX12_asks_95 (by decide) ?_
      refine lv_aload_n hx hb dX12_asks_97 rfl (lv_at hl 0 rfl) ?_
      refine va_get (D := D.1) (ci := 12) (v := .int (gI gT 62)) (C := RX12) (T := TX12) (N := 114) hx hb hts wi_X12 hown X.1 X.2.1 0 rfl rfl 62 (by decide) (hts _ q7_16) (fun _ h9 => h9) (fl_get (by decide)) dX12_asks_98 ?_
      refine lv_aload_n hx hb dX12_asks_101 rfl (lv_at hl 0 rfl) ?_
      refine va_get (D := D.1) (ci := 12) (v := .ref (aT 29)) (C := RX12) (T := TX12) (N := 114) hx hb hts wi_X12 hown X.1 X.2.1 0 rfl rfl 29 (by decide) (hts _ q6_223) (fun _ h9 => h9) (fl_get (by decide)) dX12_asks_102 ?_
      refine lv_iload_n hx hb dX12_asks_105 rfl (lv_at hl 1 rfl) ?_
      obtain ⟨h_9, hF⟩ := grd_some hF
      refine va_iald (D := D.1) (f := gIA gT 29) hx hb X.1 X.2.1 15 14 rfl rfl (inB_ok h_9) dX12_asks_106 ?_
      obtain ⟨q_10, hc_11, hF⟩ := bnd_some hF
      refine cV_i (As := [.int (52 : Int32), .int (gI gT 62), .int (gIA gT 29 v1.toNatClampNeg)]) (rest := []) C X (c_X12_rowCalled l D hT aT yT n gT (52 : Int32) (gI gT 62) (gIA gT 29 v1.toNatClampNeg) q_10 hc_11 _) (cwV 3 hts (good_V q9_151 q9_153 q0_123 q1_9 q9_154) rfl rfl rfl (by decide +kernel) ⟨Nat.le_of_ble_eq_true rfl, Nat.le_of_ble_eq_true rfl⟩) (va_recv X.1 X.2.1 (ci := 12) (q0 := 0) rfl rfl) X.1 X.2.1 X.2.2.1 (free_all X) hl.1 rfl rfl (Nat.le_of_ble_eq_true rfl) dX12_asks_107 ⟨Nat.le_of_ble_eq_true rfl, Nat.le_of_ble_eq_true rfl⟩ (fun t H1 locs1 ht hB hk hS => ?_)
      have X : Hx D (tX12 yT) A s H1 locs1 (wX12 hT aT yT gT) := Hx_after_all X ht hB hS
      clear hk hS ht hB
      generalize H1 = H at X ⊢
      generalize locs1 = locs at X ⊢
      exact (k_X12_asks_110 l D hT aT yT n rec IH) C X (lv_sub hl [0, 1] rfl) hF
    · replace hF := iT c hF
      refine lv_aload_n hx hb dX12_asks_76 rfl (lv_at hl 0 rfl) ?_
      refine lv_iconst (v := (0 : Int32)) hx hb dX12_asks_77 (by decide) ?_
      refine lv_aload_n hx hb dX12_asks_78 rfl (lv_at hl 0 rfl) ?_
      refine va_get (D := D.1) (ci := 12) (v := .int (gI gT 60)) (C := RX12) (T := TX12) (N := 114) hx hb hts wi_X12 hown X.1 X.2.1 0 rfl rfl 60 (by decide) (hts _ q7_14) (fun _ h9 => h9) (fl_get (by decide)) dX12_asks_79 ?_
      refine lv_aload_n hx hb dX12_asks_82 rfl (lv_at hl 0 rfl) ?_
      refine va_get (D := D.1) (ci := 12) (v := .ref (aT 29)) (C := RX12) (T := TX12) (N := 114) hx hb hts wi_X12 hown X.1 X.2.1 0 rfl rfl 29 (by decide) (hts _ q6_223) (fun _ h9 => h9) (fl_get (by decide)) dX12_asks_83 ?_
      refine lv_iload_n hx hb dX12_asks_86 rfl (lv_at hl 1 rfl) ?_
      obtain ⟨h_18, hF⟩ := grd_some hF
      refine va_iald (D := D.1) (f := gIA gT 29) hx hb X.1 X.2.1 15 14 rfl rfl (inB_ok h_18) dX12_asks_87 ?_
      obtain ⟨q_19, hc_20, hF⟩ := bnd_some hF
      refine cV_i (As := [.int (0 : Int32), .int (gI gT 60), .int (gIA gT 29 v1.toNatClampNeg)]) (rest := []) C X (c_X12_rowCalled l D hT aT yT n gT (0 : Int32) (gI gT 60) (gIA gT 29 v1.toNatClampNeg) q_19 hc_20 _) (cwV 3 hts (good_V q9_151 q9_153 q0_123 q1_9 q9_154) rfl rfl rfl (by decide +kernel) ⟨Nat.le_of_ble_eq_true rfl, Nat.le_of_ble_eq_true rfl⟩) (va_recv X.1 X.2.1 (ci := 12) (q0 := 0) rfl rfl) X.1 X.2.1 X.2.2.1 (free_all X) hl.1 rfl rfl (Nat.le_of_ble_eq_true rfl) dX12_asks_88 ⟨Nat.le_of_ble_eq_true rfl, Nat.le_of_ble_eq_true rfl⟩ (fun t H1 locs1 ht hB hk hS => ?_)
      have X : Hx D (tX12 yT) A s H1 locs1 (wX12 hT aT yT gT) := Hx_after_all X ht hB hS
      clear hk hS ht hB
      generalize H1 = H at X ⊢
      generalize locs1 = locs at X ⊢
      refine lv_goto (tgt := 110) hx hb dX12_asks_91 (by decide) ?_
      exact (k_X12_asks_110 l D hT aT yT n rec IH) C X (lv_sub hl [0, 1] rfl) hF
theorem kL_X12_asks (l : Launch) (D : Dx) (hT : Nat) (aT : Nat → Nat) (yT : Nat → ClassId) (n : Nat) : ∀ k, SH_X12_asks l D hT aT yT (L_X12_asks n k)
  | 0 => fun _ _ _ h => by cases h
  | k + 1 => k_X12_asks_58 l D hT aT yT n _ (kL_X12_asks l D hT aT yT n k)
set_option maxHeartbeats 4000000 in
set_option maxRecDepth 100000 in
theorem c_X12_asks (l : Launch) (D : Dx) (hT : Nat) (aT : Nat → Nat) (yT : Nat → ClassId) (n : Nat) (gT : Gs) (q : Int32 × Gs) (hF : f_X12_asks n gT = some q) (sz : Nat) : Met l yX12_asks (ws_ yX12_asks cX12_asks 3 (some .int)) R_X12_asks (PC D (tX12 yT) [.ref hT] (wX12 hT aT yT gT) sz) (QI D (va_A (wX12 hT aT yT gT) sz) (wX12 hT aT yT q.2) q.1) 0 0 (va_A (wX12 hT aT yT gT) sz) := by
  refine Met.ofW (cc := cX12_asks) (maxL := 3) (ret := (some .int)) (by decide) rfl ?_
  intro p e s m args below meth c s₁ B hml hv
  obtain ⟨rfl, hsz, hP, hK, hD, hN⟩ := hv
  subst hsz
  have C : Cx p s m _ meth c cX12_asks (some .int) 3 RX12 lw_all := Cx_of B hml
  have X := Hx_start hP hK hD hN
  obtain ⟨hx, hb, hr, -, hown, hts, hlk⟩ := id C
  generalize va_A (wX12 hT aT yT gT) s.heap.size = A at X ⊢
  have hl := lv_entry ([.ref hT]) (n := 3) (Nat.le_of_ble_eq_true rfl)
  rw [lg_entry_eq]
  generalize (lg_sl ([.ref hT]) ++ List.replicate (3 - (lg_sl ([.ref hT])).length) Slot.unset).toArray = ls at hl ⊢
  have hl : lv_has ls 3 [(0, .ref hT)] := hl
  unfold f_X12_asks at hF
  refine lv_aload_n hx hb dX12_asks_0 rfl (lv_at hl 0 rfl) ?_
  obtain ⟨q_1, hc_2, hF⟩ := bnd_some hF
  refine cV_v (As := []) (rest := []) C X (c_X12_begins l D hT aT yT n gT q_1 hc_2 _) (cwV 0 hts (good_V q8_69 q8_71 q0_65 q1_9 q8_72) rfl rfl rfl (by decide +kernel) ⟨Nat.le_of_ble_eq_true rfl, Nat.le_of_ble_eq_true rfl⟩) (va_recv X.1 X.2.1 (ci := 12) (q0 := 0) rfl rfl) X.1 X.2.1 X.2.2.1 (free_all X) hl.1 rfl rfl (Nat.le_of_ble_eq_true rfl) dX12_asks_1 ⟨Nat.le_of_ble_eq_true rfl, Nat.le_of_ble_eq_true rfl⟩ (fun t H1 locs1 ht hB hk hS => ?_)
  have X : Hx D (tX12 yT) A s H1 locs1 (wX12 hT aT yT q_1) := Hx_after_all X ht hB hS
  clear hk hS ht hB
  generalize H1 = H at X ⊢
  generalize locs1 = locs at X ⊢
  refine lv_aload_n hx hb dX12_asks_4 rfl (lv_at hl 0 rfl) ?_
  refine lv_iconst (v := (0 : Int32)) hx hb dX12_asks_5 (by decide) ?_
  refine va_put (D := D.1) (ci := 12) (v := .int (0 : Int32)) (ty := .boolean) (C := RX12) (T := TX12) (N := 114) hx hb hts wi_X12 tyX12 tyX12_ok nmX12 hown X.1 X.2.1 X.2.2.1 X.2.2.2.1 0 rfl rfl 26 (by decide) (hts _ q6_220) (fun _ h9 => h9) rfl (by decide +kernel) rfl rfl (by rw [List.length_map, List.length_range]; decide) dX12_asks_6 (fun H locs hP hD hS => ?_)
  have X : Hx D (tX12 yT) A s H locs (wX12 hT aT yT (sI q_1 26 (0 : Int32))) := Hx_set X (wG_sI (k := 26) rfl) hP hD hS
  refine lv_aload_n hx hb dX12_asks_9 rfl (lv_at hl 0 rfl) ?_
  obtain ⟨q_3, hc_4, hF⟩ := bnd_some hF
  refine cV_i (As := []) (rest := []) C X (cc_X12_formula l D hT aT yT n (sI q_1 26 (0 : Int32)) q_3 hc_4 _) (cwV 0 hts (good_V q8_196 q8_198 q0_83 q1_9 q8_199) rfl rfl rfl (by decide +kernel) ⟨Nat.le_of_ble_eq_true rfl, Nat.le_of_ble_eq_true rfl⟩) (va_recv X.1 X.2.1 (ci := 12) (q0 := 0) rfl rfl) X.1 X.2.1 X.2.2.1 (free_all X) hl.1 rfl rfl (Nat.le_of_ble_eq_true rfl) dX12_asks_10 ⟨Nat.le_of_ble_eq_true rfl, Nat.le_of_ble_eq_true rfl⟩ (fun t H1 locs1 ht hB hk hS => ?_)
  have X : Hx D (tX12 yT) A s H1 locs1 (wX12 hT aT yT q_3.2) := Hx_after_all X ht hB hS
  clear hk hS ht hB
  generalize H1 = H at X ⊢
  generalize locs1 = locs at X ⊢
  refine lv_if_ne (tgt := 18) hx hb dX12_asks_13 (by decide) (fun c => ?_) (fun c => ?_)
  · replace hF := iF c hF
    refine lv_aload_n hx hb dX12_asks_18 rfl (lv_at hl 0 rfl) ?_
    refine va_get (D := D.1) (ci := 12) (v := .ref (aT 9)) (C := RX12) (T := TX12) (N := 114) hx hb hts wi_X12 hown X.1 X.2.1 0 rfl rfl 9 (by decide) (hts _ q6_203) (fun _ h9 => h9) (fl_get (by decide)) dX12_asks_19 ?_
    refine lv_aload_n hx hb dX12_asks_22 rfl (lv_at hl 0 rfl) ?_
    refine va_get (D := D.1) (ci := 12) (v := .int (gI q_3.2 20)) (C := RX12) (T := TX12) (N := 114) hx hb hts wi_X12 hown X.1 X.2.1 0 rfl rfl 20 (by decide) (hts _ q6_214) (fun _ h9 => h9) (fl_get (by decide)) dX12_asks_23 ?_
    obtain ⟨h_5, hF⟩ := grd_some hF
    refine va_iald (D := D.1) (f := gIA q_3.2 9) hx hb X.1 X.2.1 4 3 rfl rfl (inB_ok h_5) dX12_asks_26 ?_
    refine lv_if_eq (tgt := 37) hx hb dX12_asks_27 (by decide) (fun c => ?_) (fun c => ?_)
    · replace hF := iT c hF
      refine lv_aload_n hx hb dX12_asks_37 rfl (lv_at hl 0 rfl) ?_
      refine va_get (D := D.1) (ci := 12) (v := .int (gI q_3.2 23)) (C := RX12) (T := TX12) (N := 114) hx hb hts wi_X12 hown X.1 X.2.1 0 rfl rfl 23 (by decide) (hts _ q6_217) (fun _ h9 => h9) (fl_get (by decide)) dX12_asks_38 ?_
      refine lv_if_lt (tgt := 56) hx hb dX12_asks_41 (by decide) (fun c => ?_) (fun c => ?_)
      · replace hF := iT c hF
        refine lv_iconst (v := (0 : Int32)) hx hb dX12_asks_56 (by decide) ?_
        refine lv_istore_n (lv' := [(1, .int (0 : Int32)), (0, .ref hT)]) hx hb dX12_asks_57 rfl hl (by decide) rfl (fun ls hl => ?_)
        exact (kL_X12_asks l D hT aT yT n n) C X (lv_sub hl [1, 0] rfl) hF
      · replace hF := iF c hF
        refine lv_aload_n hx hb dX12_asks_44 rfl (lv_at hl 0 rfl) ?_
        refine lv_iconst (v := (2 : Int32)) hx hb dX12_asks_45 (by decide) ?_
        refine lv_aload_n hx hb dX12_asks_46 rfl (lv_at hl 0 rfl) ?_
        refine va_get (D := D.1) (ci := 12) (v := .int (gI q_3.2 23)) (C := RX12) (T := TX12) (N := 114) hx hb hts wi_X12 hown X.1 X.2.1 0 rfl rfl 23 (by decide) (hts _ q6_217) (fun _ h9 => h9) (fl_get (by decide)) dX12_asks_47 ?_
        obtain ⟨q_21, hc_22, hF⟩ := bnd_some hF
        refine cV_i (As := [.int (2 : Int32), .int (gI q_3.2 23)]) (rest := []) C X (c_X12_fault l D hT aT yT q_3.2 (2 : Int32) (gI q_3.2 23) q_21 hc_22 _) (cwV 2 hts (good_V q8_177 q8_179 q0_79 q1_9 q8_180) rfl rfl rfl (by decide +kernel) ⟨Nat.le_of_ble_eq_true rfl, Nat.le_of_ble_eq_true rfl⟩) (va_recv X.1 X.2.1 (ci := 12) (q0 := 0) rfl rfl) X.1 X.2.1 X.2.2.1 (free_all X) hl.1 rfl rfl (Nat.le_of_ble_eq_true rfl) dX12_asks_50 ⟨Nat.le_of_ble_eq_true rfl, Nat.le_of_ble_eq_true rfl⟩ (fun t H1 locs1 ht hB hk hS => ?_)
        have X : Hx D (tX12 yT) A s H1 locs1 (wX12 hT aT yT q_21.2) := Hx_after_all X ht hB hS
        clear hk hS ht hB
        generalize H1 = H at X ⊢
        generalize locs1 = locs at X ⊢
        refine lv_pop hx hb dX12_asks_53 rfl ?_
        refine lv_iconst (v := (-1 : Int32)) hx hb dX12_asks_54 (by decide) ?_
        have hq := Option.some.inj hF
        subst hq
        exact rt_i C X dX12_asks_55
    · replace hF := iF c hF
      refine lv_aload_n hx hb dX12_asks_30 rfl (lv_at hl 0 rfl) ?_
      obtain ⟨q_23, hc_24, hF⟩ := bnd_some hF
      refine cV_i (As := []) (rest := []) C X (c_X12_cannot l D hT aT yT q_3.2 q_23 hc_24 _) (cwV 0 hts (good_V q8_173 q8_175 q0_78 q1_9 q8_176) rfl rfl rfl (by decide +kernel) ⟨Nat.le_of_ble_eq_true rfl, Nat.le_of_ble_eq_true rfl⟩) (va_recv X.1 X.2.1 (ci := 12) (q0 := 0) rfl rfl) X.1 X.2.1 X.2.2.1 (free_all X) hl.1 rfl rfl (Nat.le_of_ble_eq_true rfl) dX12_asks_31 ⟨Nat.le_of_ble_eq_true rfl, Nat.le_of_ble_eq_true rfl⟩ (fun t H1 locs1 ht hB hk hS => ?_)
      have X : Hx D (tX12 yT) A s H1 locs1 (wX12 hT aT yT q_23.2) := Hx_after_all X ht hB hS
      clear hk hS ht hB
      generalize H1 = H at X ⊢
      generalize locs1 = locs at X ⊢
      refine lv_pop hx hb dX12_asks_34 rfl ?_
      refine lv_iconst (v := (-1 : Int32)) hx hb dX12_asks_35 (by decide) ?_
      have hq := Option.some.inj hF
      subst hq
      exact rt_i C X dX12_asks_36
  · replace hF := iT c hF
    refine lv_iconst (v := (-1 : Int32)) hx hb dX12_asks_16 (by decide) ?_
    have hq := Option.some.inj hF
    subst hq
    exact rt_i C X dX12_asks_17

/-! ### X12_ask -/
theorem dX12_ask_0 : decode cX12_ask 0 = .ok (.aload_n 0, 1) := by decide +kernel
theorem dX12_ask_1 : decode cX12_ask 1 = .ok (.invokevirtual 717, 3) := by decide +kernel
theorem dX12_ask_4 : decode cX12_ask 4 = .ok (.istore_n 1, 1) := by decide +kernel
theorem dX12_ask_5 : decode cX12_ask 5 = .ok (.iload_n 1, 1) := by decide +kernel
theorem dX12_ask_6 : decode cX12_ask 6 = .ok (.ifCond .ge 10, 3) := by decide +kernel
theorem dX12_ask_9 : decode cX12_ask 9 = .ok (.iconst (-1), 1) := by decide +kernel
theorem dX12_ask_10 : decode cX12_ask 10 = .ok (.aload_n 0, 1) := by decide +kernel
theorem dX12_ask_11 : decode cX12_ask 11 = .ok (.getfield 122, 3) := by decide +kernel
theorem dX12_ask_14 : decode cX12_ask 14 = .ok (.isub, 1) := by decide +kernel
theorem dX12_ask_15 : decode cX12_ask 15 = .ok (.ireturn, 1) := by decide +kernel
theorem dX12_ask_16 : decode cX12_ask 16 = .ok (.aload_n 0, 1) := by decide +kernel
theorem dX12_ask_17 : decode cX12_ask 17 = .ok (.sipush 2000, 3) := by decide +kernel
theorem dX12_ask_20 : decode cX12_ask 20 = .ok (.aload_n 0, 1) := by decide +kernel
theorem dX12_ask_21 : decode cX12_ask 21 = .ok (.getfield 113, 3) := by decide +kernel
theorem dX12_ask_24 : decode cX12_ask 24 = .ok (.invokevirtual 646, 3) := by decide +kernel
theorem dX12_ask_27 : decode cX12_ask 27 = .ok (.ifCond .ne 11, 3) := by decide +kernel
theorem dX12_ask_30 : decode cX12_ask 30 = .ok (.bipush 8, 2) := by decide +kernel
theorem dX12_ask_32 : decode cX12_ask 32 = .ok (.aload_n 0, 1) := by decide +kernel
theorem dX12_ask_33 : decode cX12_ask 33 = .ok (.getfield 346, 3) := by decide +kernel
theorem dX12_ask_36 : decode cX12_ask 36 = .ok (.iadd, 1) := by decide +kernel
theorem dX12_ask_37 : decode cX12_ask 37 = .ok (.ireturn, 1) := by decide +kernel
theorem dX12_ask_38 : decode cX12_ask 38 = .ok (.aload_n 0, 1) := by decide +kernel
theorem dX12_ask_39 : decode cX12_ask 39 = .ok (.aload_n 0, 1) := by decide +kernel
theorem dX12_ask_40 : decode cX12_ask 40 = .ok (.getfield 343, 3) := by decide +kernel
theorem dX12_ask_43 : decode cX12_ask 43 = .ok (.putfield 352, 3) := by decide +kernel
theorem dX12_ask_46 : decode cX12_ask 46 = .ok (.iload_n 1, 1) := by decide +kernel
theorem dX12_ask_47 : decode cX12_ask 47 = .ok (.ireturn, 1) := by decide +kernel
abbrev R_X12_ask : Room := ({ frames := 427, cells := 0, slots := 0, locals := 25445 } : Room)
def f_X12_ask (n : Nat) (gT : Gs) : Option (Int32 × Gs) :=
  bnd (f_X12_asks n gT) (fun q_1 => if 0 ≤ q_1.1 then (bnd (f_X12_works n q_1.2 (2000 : Int32) (gI q_1.2 19)) (fun q_3 => if q_3.1 = 0 then (some ((8 : Int32) + (gI q_3.2 95), q_3.2)) else (some (q_1.1, (sL q_3.2 97 (gL q_3.2 94)))))) else (some ((-1 : Int32) - (gI q_1.2 22), q_1.2)))
set_option maxHeartbeats 4000000 in
set_option maxRecDepth 100000 in
theorem c_X12_ask (l : Launch) (D : Dx) (hT : Nat) (aT : Nat → Nat) (yT : Nat → ClassId) (n : Nat) (gT : Gs) (q : Int32 × Gs) (hF : f_X12_ask n gT = some q) (sz : Nat) : Met l yX12_ask (ws_ yX12_ask cX12_ask 2 (some .int)) R_X12_ask (PC D (tX12 yT) [.ref hT] (wX12 hT aT yT gT) sz) (QI D (va_A (wX12 hT aT yT gT) sz) (wX12 hT aT yT q.2) q.1) 0 0 (va_A (wX12 hT aT yT gT) sz) := by
  refine Met.ofW (cc := cX12_ask) (maxL := 2) (ret := (some .int)) (by decide) rfl ?_
  intro p e s m args below meth c s₁ B hml hv
  obtain ⟨rfl, hsz, hP, hK, hD, hN⟩ := hv
  subst hsz
  have C : Cx p s m _ meth c cX12_ask (some .int) 2 RX12 lw_all := Cx_of B hml
  have X := Hx_start hP hK hD hN
  obtain ⟨hx, hb, hr, -, hown, hts, hlk⟩ := id C
  generalize va_A (wX12 hT aT yT gT) s.heap.size = A at X ⊢
  have hl := lv_entry ([.ref hT]) (n := 2) (Nat.le_of_ble_eq_true rfl)
  rw [lg_entry_eq]
  generalize (lg_sl ([.ref hT]) ++ List.replicate (2 - (lg_sl ([.ref hT])).length) Slot.unset).toArray = ls at hl ⊢
  have hl : lv_has ls 2 [(0, .ref hT)] := hl
  unfold f_X12_ask at hF
  refine lv_aload_n hx hb dX12_ask_0 rfl (lv_at hl 0 rfl) ?_
  obtain ⟨q_1, hc_2, hF⟩ := bnd_some hF
  refine cV_i (As := []) (rest := []) C X (c_X12_asks l D hT aT yT n gT q_1 hc_2 _) (cwV 0 hts (good_V q9_147 q9_149 q0_122 q1_9 q9_150) rfl rfl rfl (by decide +kernel) ⟨Nat.le_of_ble_eq_true rfl, Nat.le_of_ble_eq_true rfl⟩) (va_recv X.1 X.2.1 (ci := 12) (q0 := 0) rfl rfl) X.1 X.2.1 X.2.2.1 (free_all X) hl.1 rfl rfl (Nat.le_of_ble_eq_true rfl) dX12_ask_1 ⟨Nat.le_of_ble_eq_true rfl, Nat.le_of_ble_eq_true rfl⟩ (fun t H1 locs1 ht hB hk hS => ?_)
  have X : Hx D (tX12 yT) A s H1 locs1 (wX12 hT aT yT q_1.2) := Hx_after_all X ht hB hS
  clear hk hS ht hB
  generalize H1 = H at X ⊢
  generalize locs1 = locs at X ⊢
  refine lv_istore_n (lv' := [(1, .int q_1.1), (0, .ref hT)]) hx hb dX12_ask_4 rfl hl (by decide) rfl (fun ls hl => ?_)
  refine lv_iload_n hx hb dX12_ask_5 rfl (lv_at hl 0 rfl) ?_
  refine lv_if_ge (tgt := 16) hx hb dX12_ask_6 (by decide) (fun c => ?_) (fun c => ?_)
  · replace hF := iT c hF
    refine lv_aload_n hx hb dX12_ask_16 rfl (lv_at hl 1 rfl) ?_
    refine lv_sipush (v := (2000 : Int32)) hx hb dX12_ask_17 (by decide) ?_
    refine lv_aload_n hx hb dX12_ask_20 rfl (lv_at hl 1 rfl) ?_
    refine va_get (D := D.1) (ci := 12) (v := .int (gI q_1.2 19)) (C := RX12) (T := TX12) (N := 114) hx hb hts wi_X12 hown X.1 X.2.1 0 rfl rfl 19 (by decide) (hts _ q6_213) (fun _ h9 => h9) (fl_get (by decide)) dX12_ask_21 ?_
    obtain ⟨q_3, hc_4, hF⟩ := bnd_some hF
    refine cV_i (As := [.int (2000 : Int32), .int (gI q_1.2 19)]) (rest := []) C X (c_X12_works l D hT aT yT n q_1.2 (2000 : Int32) (gI q_1.2 19) q_3 hc_4 _) (cwV 2 hts (good_V q9_69 q9_71 q0_109 q1_9 q9_72) rfl rfl rfl (by decide +kernel) ⟨Nat.le_of_ble_eq_true rfl, Nat.le_of_ble_eq_true rfl⟩) (va_recv X.1 X.2.1 (ci := 12) (q0 := 0) rfl rfl) X.1 X.2.1 X.2.2.1 (free_all X) hl.1 rfl rfl (Nat.le_of_ble_eq_true rfl) dX12_ask_24 ⟨Nat.le_of_ble_eq_true rfl, Nat.le_of_ble_eq_true rfl⟩ (fun t H1 locs1 ht hB hk hS => ?_)
    have X : Hx D (tX12 yT) A s H1 locs1 (wX12 hT aT yT q_3.2) := Hx_after_all X ht hB hS
    clear hk hS ht hB
    generalize H1 = H at X ⊢
    generalize locs1 = locs at X ⊢
    refine lv_if_ne (tgt := 38) hx hb dX12_ask_27 (by decide) (fun c => ?_) (fun c => ?_)
    · replace hF := iF c hF
      refine lv_aload_n hx hb dX12_ask_38 rfl (lv_at hl 1 rfl) ?_
      refine lv_aload_n hx hb dX12_ask_39 rfl (lv_at hl 1 rfl) ?_
      refine va_get (D := D.1) (ci := 12) (v := .long (gL q_3.2 94)) (C := RX12) (T := TX12) (N := 114) hx hb hts wi_X12 hown X.1 X.2.1 0 rfl rfl 94 (by decide) (hts _ q7_48) (fun _ h9 => h9) (fl_get (by decide)) dX12_ask_40 ?_
      refine va_put (D := D.1) (ci := 12) (v := .long (gL q_3.2 94)) (ty := .long) (C := RX12) (T := TX12) (N := 114) hx hb hts wi_X12 tyX12 tyX12_ok nmX12 hown X.1 X.2.1 X.2.2.1 X.2.2.2.1 0 rfl rfl 97 (by decide) (hts _ q7_51) (fun _ h9 => h9) rfl (by decide +kernel) rfl rfl (by rw [List.length_map, List.length_range]; decide) dX12_ask_43 (fun H locs hP hD hS => ?_)
      have X : Hx D (tX12 yT) A s H locs (wX12 hT aT yT (sL q_3.2 97 (gL q_3.2 94))) := Hx_set X (wG_sL (k := 97) rfl) hP hD hS
      refine lv_iload_n hx hb dX12_ask_46 rfl (lv_at hl 0 rfl) ?_
      have hq := Option.some.inj hF
      subst hq
      exact rt_i C X dX12_ask_47
    · replace hF := iT c hF
      refine lv_bipush (v := (8 : Int32)) hx hb dX12_ask_30 (by decide) ?_
      refine lv_aload_n hx hb dX12_ask_32 rfl (lv_at hl 1 rfl) ?_
      refine va_get (D := D.1) (ci := 12) (v := .int (gI q_3.2 95)) (C := RX12) (T := TX12) (N := 114) hx hb hts wi_X12 hown X.1 X.2.1 0 rfl rfl 95 (by decide) (hts _ q7_49) (fun _ h9 => h9) (fl_get (by decide)) dX12_ask_33 ?_
      refine lv_iadd hx hb dX12_ask_36 ?_
      have hq := Option.some.inj hF
      subst hq
      exact rt_i C X dX12_ask_37
  · replace hF := iF c hF
    refine lv_iconst (v := (-1 : Int32)) hx hb dX12_ask_9 (by decide) ?_
    refine lv_aload_n hx hb dX12_ask_10 rfl (lv_at hl 1 rfl) ?_
    refine va_get (D := D.1) (ci := 12) (v := .int (gI q_1.2 22)) (C := RX12) (T := TX12) (N := 114) hx hb hts wi_X12 hown X.1 X.2.1 0 rfl rfl 22 (by decide) (hts _ q6_216) (fun _ h9 => h9) (fl_get (by decide)) dX12_ask_11 ?_
    refine lv_isub hx hb dX12_ask_14 ?_
    have hq := Option.some.inj hF
    subst hq
    exact rt_i C X dX12_ask_15

/-! ### X12_await -/
theorem dX12_await_0 : decode cX12_await 0 = .ok (.iload_n 1, 1) := by decide +kernel
theorem dX12_await_1 : decode cX12_await 1 = .ok (.ifCond .lt 10, 3) := by decide +kernel
theorem dX12_await_4 : decode cX12_await 4 = .ok (.iload_n 1, 1) := by decide +kernel
theorem dX12_await_5 : decode cX12_await 5 = .ok (.sipush 500, 3) := by decide +kernel
theorem dX12_await_8 : decode cX12_await 8 = .ok (.if_icmp .le 10, 3) := by decide +kernel
theorem dX12_await_11 : decode cX12_await 11 = .ok (.aload_n 0, 1) := by decide +kernel
theorem dX12_await_12 : decode cX12_await 12 = .ok (.iconst 0, 1) := by decide +kernel
theorem dX12_await_13 : decode cX12_await 13 = .ok (.putfield 13, 3) := by decide +kernel
theorem dX12_await_16 : decode cX12_await 16 = .ok (.iconst (-1), 1) := by decide +kernel
theorem dX12_await_17 : decode cX12_await 17 = .ok (.ireturn, 1) := by decide +kernel
theorem dX12_await_18 : decode cX12_await 18 = .ok (.aload_n 0, 1) := by decide +kernel
theorem dX12_await_19 : decode cX12_await 19 = .ok (.invokevirtual 717, 3) := by decide +kernel
theorem dX12_await_22 : decode cX12_await 22 = .ok (.istore_n 2, 1) := by decide +kernel
theorem dX12_await_23 : decode cX12_await 23 = .ok (.iload_n 2, 1) := by decide +kernel
theorem dX12_await_24 : decode cX12_await 24 = .ok (.ifCond .le 10, 3) := by decide +kernel
theorem dX12_await_27 : decode cX12_await 27 = .ok (.aload_n 0, 1) := by decide +kernel
theorem dX12_await_28 : decode cX12_await 28 = .ok (.iconst 4, 1) := by decide +kernel
theorem dX12_await_29 : decode cX12_await 29 = .ok (.iconst 0, 1) := by decide +kernel
theorem dX12_await_30 : decode cX12_await 30 = .ok (.invokevirtual 537, 3) := by decide +kernel
theorem dX12_await_33 : decode cX12_await 33 = .ok (.pop, 1) := by decide +kernel
theorem dX12_await_34 : decode cX12_await 34 = .ok (.iload_n 2, 1) := by decide +kernel
theorem dX12_await_35 : decode cX12_await 35 = .ok (.ifCond .eq 5, 3) := by decide +kernel
theorem dX12_await_38 : decode cX12_await 38 = .ok (.iconst (-1), 1) := by decide +kernel
theorem dX12_await_39 : decode cX12_await 39 = .ok (.ireturn, 1) := by decide +kernel
theorem dX12_await_40 : decode cX12_await 40 = .ok (.iconst 0, 1) := by decide +kernel
theorem dX12_await_41 : decode cX12_await 41 = .ok (.istore_n 3, 1) := by decide +kernel
theorem dX12_await_42 : decode cX12_await 42 = .ok (.iload_n 3, 1) := by decide +kernel
theorem dX12_await_43 : decode cX12_await 43 = .ok (.iload_n 1, 1) := by decide +kernel
theorem dX12_await_44 : decode cX12_await 44 = .ok (.if_icmp .gt 46, 3) := by decide +kernel
theorem dX12_await_47 : decode cX12_await 47 = .ok (.aload_n 0, 1) := by decide +kernel
theorem dX12_await_48 : decode cX12_await 48 = .ok (.sipush 2000, 3) := by decide +kernel
theorem dX12_await_51 : decode cX12_await 51 = .ok (.aload_n 0, 1) := by decide +kernel
theorem dX12_await_52 : decode cX12_await 52 = .ok (.getfield 113, 3) := by decide +kernel
theorem dX12_await_55 : decode cX12_await 55 = .ok (.invokevirtual 646, 3) := by decide +kernel
theorem dX12_await_58 : decode cX12_await 58 = .ok (.ifCond .ne 6, 3) := by decide +kernel
theorem dX12_await_61 : decode cX12_await 61 = .ok (.bipush (-3), 2) := by decide +kernel
theorem dX12_await_63 : decode cX12_await 63 = .ok (.ireturn, 1) := by decide +kernel
theorem dX12_await_64 : decode cX12_await 64 = .ok (.aload_n 0, 1) := by decide +kernel
theorem dX12_await_65 : decode cX12_await 65 = .ok (.getfield 343, 3) := by decide +kernel
theorem dX12_await_68 : decode cX12_await 68 = .ok (.lconst 0, 1) := by decide +kernel
theorem dX12_await_69 : decode cX12_await 69 = .ok (.lcmp, 1) := by decide +kernel
theorem dX12_await_70 : decode cX12_await 70 = .ok (.ifCond .eq 5, 3) := by decide +kernel
theorem dX12_await_73 : decode cX12_await 73 = .ok (.iload_n 3, 1) := by decide +kernel
theorem dX12_await_74 : decode cX12_await 74 = .ok (.ireturn, 1) := by decide +kernel
theorem dX12_await_75 : decode cX12_await 75 = .ok (.iload_n 3, 1) := by decide +kernel
theorem dX12_await_76 : decode cX12_await 76 = .ok (.iload_n 1, 1) := by decide +kernel
theorem dX12_await_77 : decode cX12_await 77 = .ok (.if_icmp .ge 7, 3) := by decide +kernel
theorem dX12_await_80 : decode cX12_await 80 = .ok (.aload_n 0, 1) := by decide +kernel
theorem dX12_await_81 : decode cX12_await 81 = .ok (.invokevirtual 721, 3) := by decide +kernel
theorem dX12_await_84 : decode cX12_await 84 = .ok (.iinc 3 1, 3) := by decide +kernel
theorem dX12_await_87 : decode cX12_await 87 = .ok (.goto (-45), 3) := by decide +kernel
theorem dX12_await_90 : decode cX12_await 90 = .ok (.bipush (-2), 2) := by decide +kernel
theorem dX12_await_92 : decode cX12_await 92 = .ok (.ireturn, 1) := by decide +kernel
abbrev R_X12_await : Room := ({ frames := 427, cells := 0, slots := 0, locals := 25445 } : Room)
def b_X12_await_11 (n : Nat) (rec : (Gs → Int32 → Int32 → Option (Int32 × Gs))) (gT : Gs) : Option (Int32 × Gs) :=
  some ((-1 : Int32), (sI gT 4 (0 : Int32)))
def b_X12_await_84 (n : Nat) (rec : (Gs → Int32 → Int32 → Option (Int32 × Gs))) (gT : Gs) (v1 : Int32) (v3 : Int32) : Option (Int32 × Gs) :=
  rec gT v1 (v3 + (1 : Int32))
def h_X12_await_42 (n : Nat) (rec : (Gs → Int32 → Int32 → Option (Int32 × Gs))) (gT : Gs) (v1 : Int32) (v3 : Int32) : Option (Int32 × Gs) :=
  if v1 < v3 then (some ((-2 : Int32), gT)) else (bnd (f_X12_works n gT (2000 : Int32) (gI gT 19)) (fun q_3 => if q_3.1 = 0 then (some ((-3 : Int32), q_3.2)) else (if (gL q_3.2 94) = (0 : Int64) then (if v1 ≤ v3 then (b_X12_await_84 n rec q_3.2 v1 v3) else (bnd (f_X12_tick1 n q_3.2) (fun q_5 => b_X12_await_84 n rec q_5 v1 v3))) else (some (v3, q_3.2)))))
def b_X12_await_34 (n : Nat) (rec : (Gs → Int32 → Int32 → Option (Int32 × Gs))) (gT : Gs) (v1 : Int32) (v2 : Int32) : Option (Int32 × Gs) :=
  if v2 = 0 then (rec gT v1 (0 : Int32)) else (some ((-1 : Int32), gT))
def L_X12_await (n : Nat) : Nat → (Gs → Int32 → Int32 → Option (Int32 × Gs))
  | 0 => ((fun _ _ _ => none))
  | k + 1 => (h_X12_await_42 n (L_X12_await n k))
def f_X12_await (n : Nat) (gT : Gs) (x0 : Int32) : Option (Int32 × Gs) :=
  if x0 < 0 then (b_X12_await_11 n (L_X12_await n n) gT) else (if x0 ≤ (500 : Int32) then (bnd (f_X12_asks n gT) (fun q_1 => if q_1.1 ≤ 0 then (b_X12_await_34 n (L_X12_await n n) q_1.2 x0 q_1.1) else (bnd (f_X12_fault q_1.2 (4 : Int32) (0 : Int32)) (fun q_7 => b_X12_await_34 n (L_X12_await n n) q_7.2 x0 q_1.1)))) else (b_X12_await_11 n (L_X12_await n n) gT))
def S_X12_await_11 (l : Launch) (D : Dx) (hT : Nat) (aT : Nat → Nat) (yT : Nat → ClassId) (fn : Gs → Option (Int32 × Gs)) : Prop :=
  ∀ {p : Program} {e : Env} {s : State} {m : MethodId} {args : Array Value} {below : List Frame} {meth : Method} {c : Code} {H : Heap} {locs : List Loc} {A : Nat → Prop} {ls : Array Slot} {gT : Gs} {q : Int32 × Gs}, Cx p s m args meth c cX12_await (some .int) 4 RX12 lw_all → Hx D (tX12 yT) A s H locs (wX12 hT aT yT gT) → lv_has ls 4 [(0, .ref hT)] → fn gT = some q → W p l e R_X12_await s m args below meth c H locs 0 0 (MQ below (QI D A (wX12 hT aT yT q.2) q.1) args s 0 0 A) (F0 m 11 ls [])
def S_X12_await_84 (l : Launch) (D : Dx) (hT : Nat) (aT : Nat → Nat) (yT : Nat → ClassId) (fn : Gs → Int32 → Int32 → Option (Int32 × Gs)) : Prop :=
  ∀ {p : Program} {e : Env} {s : State} {m : MethodId} {args : Array Value} {below : List Frame} {meth : Method} {c : Code} {H : Heap} {locs : List Loc} {A : Nat → Prop} {ls : Array Slot} {gT : Gs} {v1 : Int32} {v3 : Int32} {q : Int32 × Gs}, Cx p s m args meth c cX12_await (some .int) 4 RX12 lw_all → Hx D (tX12 yT) A s H locs (wX12 hT aT yT gT) → lv_has ls 4 [(0, .ref hT), (1, .int v1), (3, .int v3)] → fn gT v1 v3 = some q → W p l e R_X12_await s m args below meth c H locs 0 0 (MQ below (QI D A (wX12 hT aT yT q.2) q.1) args s 0 0 A) (F0 m 84 ls [])
def S_X12_await_42 (l : Launch) (D : Dx) (hT : Nat) (aT : Nat → Nat) (yT : Nat → ClassId) (fn : Gs → Int32 → Int32 → Option (Int32 × Gs)) : Prop :=
  ∀ {p : Program} {e : Env} {s : State} {m : MethodId} {args : Array Value} {below : List Frame} {meth : Method} {c : Code} {H : Heap} {locs : List Loc} {A : Nat → Prop} {ls : Array Slot} {gT : Gs} {v1 : Int32} {v3 : Int32} {q : Int32 × Gs}, Cx p s m args meth c cX12_await (some .int) 4 RX12 lw_all → Hx D (tX12 yT) A s H locs (wX12 hT aT yT gT) → lv_has ls 4 [(0, .ref hT), (1, .int v1), (3, .int v3)] → fn gT v1 v3 = some q → W p l e R_X12_await s m args below meth c H locs 0 0 (MQ below (QI D A (wX12 hT aT yT q.2) q.1) args s 0 0 A) (F0 m 42 ls [])
def S_X12_await_34 (l : Launch) (D : Dx) (hT : Nat) (aT : Nat → Nat) (yT : Nat → ClassId) (fn : Gs → Int32 → Int32 → Option (Int32 × Gs)) : Prop :=
  ∀ {p : Program} {e : Env} {s : State} {m : MethodId} {args : Array Value} {below : List Frame} {meth : Method} {c : Code} {H : Heap} {locs : List Loc} {A : Nat → Prop} {ls : Array Slot} {gT : Gs} {v1 : Int32} {v2 : Int32} {q : Int32 × Gs}, Cx p s m args meth c cX12_await (some .int) 4 RX12 lw_all → Hx D (tX12 yT) A s H locs (wX12 hT aT yT gT) → lv_has ls 4 [(0, .ref hT), (1, .int v1), (2, .int v2)] → fn gT v1 v2 = some q → W p l e R_X12_await s m args below meth c H locs 0 0 (MQ below (QI D A (wX12 hT aT yT q.2) q.1) args s 0 0 A) (F0 m 34 ls [])
def SH_X12_await (l : Launch) (D : Dx) (hT : Nat) (aT : Nat → Nat) (yT : Nat → ClassId) (rec : (Gs → Int32 → Int32 → Option (Int32 × Gs))) : Prop := S_X12_await_42 l D hT aT yT rec
set_option maxHeartbeats 4000000 in
set_option maxRecDepth 100000 in
theorem k_X12_await_11 (l : Launch) (D : Dx) (hT : Nat) (aT : Nat → Nat) (yT : Nat → ClassId) (n : Nat) (rec : (Gs → Int32 → Int32 → Option (Int32 × Gs))) (IH : SH_X12_await l D hT aT yT rec) : S_X12_await_11 l D hT aT yT (b_X12_await_11 n rec) := by
  intro p e s m args below meth c H locs A ls gT q C X hl hF
  obtain ⟨hx, hb, hr, hml, hown, hts, hlk⟩ := id C
  unfold b_X12_await_11 at hF
  refine lv_aload_n hx hb dX12_await_11 rfl (lv_at hl 0 rfl) ?_
  refine lv_iconst (v := (0 : Int32)) hx hb dX12_await_12 (by decide) ?_
  refine va_put (D := D.1) (ci := 12) (v := .int (0 : Int32)) (ty := .int) (C := RX12) (T := TX12) (N := 114) hx hb hts wi_X12 tyX12 tyX12_ok nmX12 hown X.1 X.2.1 X.2.2.1 X.2.2.2.1 0 rfl rfl 4 (by decide) (hts _ q6_198) (fun _ h9 => h9) rfl (by decide +kernel) rfl rfl (by rw [List.length_map, List.length_range]; decide) dX12_await_13 (fun H locs hP hD hS => ?_)
  have X : Hx D (tX12 yT) A s H locs (wX12 hT aT yT (sI gT 4 (0 : Int32))) := Hx_set X (wG_sI (k := 4) rfl) hP hD hS
  refine lv_iconst (v := (-1 : Int32)) hx hb dX12_await_16 (by decide) ?_
  have hq := Option.some.inj hF
  subst hq
  exact rt_i C X dX12_await_17
set_option maxHeartbeats 4000000 in
set_option maxRecDepth 100000 in
theorem k_X12_await_84 (l : Launch) (D : Dx) (hT : Nat) (aT : Nat → Nat) (yT : Nat → ClassId) (n : Nat) (rec : (Gs → Int32 → Int32 → Option (Int32 × Gs))) (IH : SH_X12_await l D hT aT yT rec) : S_X12_await_84 l D hT aT yT (b_X12_await_84 n rec) := by
  intro p e s m args below meth c H locs A ls gT v1 v3 q C X hl hF
  obtain ⟨hx, hb, hr, hml, hown, hts, hlk⟩ := id C
  unfold b_X12_await_84 at hF
  refine lv_iinc (v := v3 + (1 : Int32)) (lv' := [(3, .int (v3 + (1 : Int32))), (0, .ref hT), (1, .int v1)]) hx hb dX12_await_84 hl (k := 2) rfl rfl (by decide) rfl (fun ls hl => ?_)
  refine lv_goto (tgt := 42) hx hb dX12_await_87 (by decide) ?_
  exact IH C X (lv_sub hl [1, 2, 0] rfl) hF
set_option maxHeartbeats 4000000 in
set_option maxRecDepth 100000 in
theorem k_X12_await_42 (l : Launch) (D : Dx) (hT : Nat) (aT : Nat → Nat) (yT : Nat → ClassId) (n : Nat) (rec : (Gs → Int32 → Int32 → Option (Int32 × Gs))) (IH : SH_X12_await l D hT aT yT rec) : S_X12_await_42 l D hT aT yT (h_X12_await_42 n rec) := by
  intro p e s m args below meth c H locs A ls gT v1 v3 q C X hl hF
  obtain ⟨hx, hb, hr, hml, hown, hts, hlk⟩ := id C
  unfold h_X12_await_42 at hF
  refine lv_iload_n hx hb dX12_await_42 rfl (lv_at hl 2 rfl) ?_
  refine lv_iload_n hx hb dX12_await_43 rfl (lv_at hl 1 rfl) ?_
  refine lv_icmp_gt (tgt := 90) hx hb dX12_await_44 (by decide) (fun c => ?_) (fun c => ?_)
  · replace hF := iT c hF
    refine lv_bipush (v := (-2 : Int32)) hx hb dX12_await_90 (by decide) ?_
    have hq := Option.some.inj hF
    subst hq
    exact rt_i C X dX12_await_92
  · replace hF := iF c hF
    refine lv_aload_n hx hb dX12_await_47 rfl (lv_at hl 0 rfl) ?_
    refine lv_sipush (v := (2000 : Int32)) hx hb dX12_await_48 (by decide) ?_
    refine lv_aload_n hx hb dX12_await_51 rfl (lv_at hl 0 rfl) ?_
    refine va_get (D := D.1) (ci := 12) (v := .int (gI gT 19)) (C := RX12) (T := TX12) (N := 114) hx hb hts wi_X12 hown X.1 X.2.1 0 rfl rfl 19 (by decide) (hts _ q6_213) (fun _ h9 => h9) (fl_get (by decide)) dX12_await_52 ?_
    obtain ⟨q_3, hc_4, hF⟩ := bnd_some hF
    refine cV_i (As := [.int (2000 : Int32), .int (gI gT 19)]) (rest := []) C X (c_X12_works l D hT aT yT n gT (2000 : Int32) (gI gT 19) q_3 hc_4 _) (cwV 2 hts (good_V q9_69 q9_71 q0_109 q1_9 q9_72) rfl rfl rfl (by decide +kernel) ⟨Nat.le_of_ble_eq_true rfl, Nat.le_of_ble_eq_true rfl⟩) (va_recv X.1 X.2.1 (ci := 12) (q0 := 0) rfl rfl) X.1 X.2.1 X.2.2.1 (free_all X) hl.1 rfl rfl (Nat.le_of_ble_eq_true rfl) dX12_await_55 ⟨Nat.le_of_ble_eq_true rfl, Nat.le_of_ble_eq_true rfl⟩ (fun t H1 locs1 ht hB hk hS => ?_)
    have X : Hx D (tX12 yT) A s H1 locs1 (wX12 hT aT yT q_3.2) := Hx_after_all X ht hB hS
    clear hk hS ht hB
    generalize H1 = H at X ⊢
    generalize locs1 = locs at X ⊢
    refine lv_if_ne (tgt := 64) hx hb dX12_await_58 (by decide) (fun c => ?_) (fun c => ?_)
    · replace hF := iF c hF
      refine lv_aload_n hx hb dX12_await_64 rfl (lv_at hl 0 rfl) ?_
      refine va_get (D := D.1) (ci := 12) (v := .long (gL q_3.2 94)) (C := RX12) (T := TX12) (N := 114) hx hb hts wi_X12 hown X.1 X.2.1 0 rfl rfl 94 (by decide) (hts _ q7_48) (fun _ h9 => h9) (fl_get (by decide)) dX12_await_65 ?_
      refine lv_lconst (v := (0 : Int64)) hx hb dX12_await_68 (by decide) ?_
      refine W.lcmp hx hb dX12_await_69 ?_
      refine lv_if_eq (tgt := 75) hx hb dX12_await_70 (by decide) (fun c => ?_) (fun c => ?_)
      · have c := (lg_cmp_eq _ _).mp c
        replace hF := iT c hF
        refine lv_iload_n hx hb dX12_await_75 rfl (lv_at hl 2 rfl) ?_
        refine lv_iload_n hx hb dX12_await_76 rfl (lv_at hl 1 rfl) ?_
        refine lv_icmp_ge (tgt := 84) hx hb dX12_await_77 (by decide) (fun c => ?_) (fun c => ?_)
        · replace hF := iT c hF
          exact (k_X12_await_84 l D hT aT yT n rec IH) C X (lv_sub hl [0, 1, 2] rfl) hF
        · replace hF := iF c hF
          refine lv_aload_n hx hb dX12_await_80 rfl (lv_at hl 0 rfl) ?_
          obtain ⟨q_5, hc_6, hF⟩ := bnd_some hF
          refine cV_v (As := []) (rest := []) C X (c_X12_tick1 l D hT aT yT n q_3.2 q_5 hc_6 _) (cwV 0 hts (good_V q9_167 q9_169 q0_125 q1_9 q9_170) rfl rfl rfl (by decide +kernel) ⟨Nat.le_of_ble_eq_true rfl, Nat.le_of_ble_eq_true rfl⟩) (va_recv X.1 X.2.1 (ci := 12) (q0 := 0) rfl rfl) X.1 X.2.1 X.2.2.1 (free_all X) hl.1 rfl rfl (Nat.le_of_ble_eq_true rfl) dX12_await_81 ⟨Nat.le_of_ble_eq_true rfl, Nat.le_of_ble_eq_true rfl⟩ (fun t H1 locs1 ht hB hk hS => ?_)
          have X : Hx D (tX12 yT) A s H1 locs1 (wX12 hT aT yT q_5) := Hx_after_all X ht hB hS
          clear hk hS ht hB
          generalize H1 = H at X ⊢
          generalize locs1 = locs at X ⊢
          exact (k_X12_await_84 l D hT aT yT n rec IH) C X (lv_sub hl [0, 1, 2] rfl) hF
      · have c := fun h => c ((lg_cmp_eq _ _).mpr h)
        replace hF := iF c hF
        refine lv_iload_n hx hb dX12_await_73 rfl (lv_at hl 2 rfl) ?_
        have hq := Option.some.inj hF
        subst hq
        exact rt_i C X dX12_await_74
    · replace hF := iT c hF
      refine lv_bipush (v := (-3 : Int32)) hx hb dX12_await_61 (by decide) ?_
      have hq := Option.some.inj hF
      subst hq
      exact rt_i C X dX12_await_63
set_option maxHeartbeats 4000000 in
set_option maxRecDepth 100000 in
theorem k_X12_await_34 (l : Launch) (D : Dx) (hT : Nat) (aT : Nat → Nat) (yT : Nat → ClassId) (n : Nat) (rec : (Gs → Int32 → Int32 → Option (Int32 × Gs))) (IH : SH_X12_await l D hT aT yT rec) : S_X12_await_34 l D hT aT yT (b_X12_await_34 n rec) := by
  intro p e s m args below meth c H locs A ls gT v1 v2 q C X hl hF
  obtain ⟨hx, hb, hr, hml, hown, hts, hlk⟩ := id C
  unfold b_X12_await_34 at hF
  refine lv_iload_n hx hb dX12_await_34 rfl (lv_at hl 2 rfl) ?_
  refine lv_if_eq (tgt := 40) hx hb dX12_await_35 (by decide) (fun c => ?_) (fun c => ?_)
  · replace hF := iT c hF
    refine lv_iconst (v := (0 : Int32)) hx hb dX12_await_40 (by decide) ?_
    refine lv_istore_n (lv' := [(3, .int (0 : Int32)), (0, .ref hT), (1, .int v1), (2, .int v2)]) hx hb dX12_await_41 rfl hl (by decide) rfl (fun ls hl => ?_)
    exact IH C X (lv_sub hl [1, 2, 0] rfl) hF
  · replace hF := iF c hF
    refine lv_iconst (v := (-1 : Int32)) hx hb dX12_await_38 (by decide) ?_
    have hq := Option.some.inj hF
    subst hq
    exact rt_i C X dX12_await_39
theorem kL_X12_await (l : Launch) (D : Dx) (hT : Nat) (aT : Nat → Nat) (yT : Nat → ClassId) (n : Nat) : ∀ k, SH_X12_await l D hT aT yT (L_X12_await n k)
  | 0 => fun _ _ _ h => by cases h
  | k + 1 => k_X12_await_42 l D hT aT yT n _ (kL_X12_await l D hT aT yT n k)
set_option maxHeartbeats 4000000 in
set_option maxRecDepth 100000 in
theorem c_X12_await (l : Launch) (D : Dx) (hT : Nat) (aT : Nat → Nat) (yT : Nat → ClassId) (n : Nat) (gT : Gs) (x0 : Int32) (q : Int32 × Gs) (hF : f_X12_await n gT x0 = some q) (sz : Nat) : Met l yX12_await (ws_ yX12_await cX12_await 4 (some .int)) R_X12_await (PC D (tX12 yT) [.ref hT, .int x0] (wX12 hT aT yT gT) sz) (QI D (va_A (wX12 hT aT yT gT) sz) (wX12 hT aT yT q.2) q.1) 0 0 (va_A (wX12 hT aT yT gT) sz) := by
  refine Met.ofW (cc := cX12_await) (maxL := 4) (ret := (some .int)) (by decide) rfl ?_
  intro p e s m args below meth c s₁ B hml hv
  obtain ⟨rfl, hsz, hP, hK, hD, hN⟩ := hv
  subst hsz
  have C : Cx p s m _ meth c cX12_await (some .int) 4 RX12 lw_all := Cx_of B hml
  have X := Hx_start hP hK hD hN
  obtain ⟨hx, hb, hr, -, hown, hts, hlk⟩ := id C
  generalize va_A (wX12 hT aT yT gT) s.heap.size = A at X ⊢
  have hl := lv_entry ([.ref hT, .int x0]) (n := 4) (Nat.le_of_ble_eq_true rfl)
  rw [lg_entry_eq]
  generalize (lg_sl ([.ref hT, .int x0]) ++ List.replicate (4 - (lg_sl ([.ref hT, .int x0])).length) Slot.unset).toArray = ls at hl ⊢
  have hl : lv_has ls 4 [(0, .ref hT), (1, .int x0)] := hl
  unfold f_X12_await at hF
  refine lv_iload_n hx hb dX12_await_0 rfl (lv_at hl 1 rfl) ?_
  refine lv_if_lt (tgt := 11) hx hb dX12_await_1 (by decide) (fun c => ?_) (fun c => ?_)
  · replace hF := iT c hF
    exact (k_X12_await_11 l D hT aT yT n (L_X12_await n n) (kL_X12_await l D hT aT yT n n)) C X (lv_sub hl [0] rfl) hF
  · replace hF := iF c hF
    refine lv_iload_n hx hb dX12_await_4 rfl (lv_at hl 1 rfl) ?_
    refine lv_sipush (v := (500 : Int32)) hx hb dX12_await_5 (by decide) ?_
    refine lv_icmp_le (tgt := 18) hx hb dX12_await_8 (by decide) (fun c => ?_) (fun c => ?_)
    · replace hF := iT c hF
      refine lv_aload_n hx hb dX12_await_18 rfl (lv_at hl 0 rfl) ?_
      obtain ⟨q_1, hc_2, hF⟩ := bnd_some hF
      refine cV_i (As := []) (rest := []) C X (c_X12_asks l D hT aT yT n gT q_1 hc_2 _) (cwV 0 hts (good_V q9_147 q9_149 q0_122 q1_9 q9_150) rfl rfl rfl (by decide +kernel) ⟨Nat.le_of_ble_eq_true rfl, Nat.le_of_ble_eq_true rfl⟩) (va_recv X.1 X.2.1 (ci := 12) (q0 := 0) rfl rfl) X.1 X.2.1 X.2.2.1 (free_all X) hl.1 rfl rfl (Nat.le_of_ble_eq_true rfl) dX12_await_19 ⟨Nat.le_of_ble_eq_true rfl, Nat.le_of_ble_eq_true rfl⟩ (fun t H1 locs1 ht hB hk hS => ?_)
      have X : Hx D (tX12 yT) A s H1 locs1 (wX12 hT aT yT q_1.2) := Hx_after_all X ht hB hS
      clear hk hS ht hB
      generalize H1 = H at X ⊢
      generalize locs1 = locs at X ⊢
      refine lv_istore_n (lv' := [(2, .int q_1.1), (0, .ref hT), (1, .int x0)]) hx hb dX12_await_22 rfl hl (by decide) rfl (fun ls hl => ?_)
      refine lv_iload_n hx hb dX12_await_23 rfl (lv_at hl 0 rfl) ?_
      refine lv_if_le (tgt := 34) hx hb dX12_await_24 (by decide) (fun c => ?_) (fun c => ?_)
      · replace hF := iT c hF
        exact (k_X12_await_34 l D hT aT yT n (L_X12_await n n) (kL_X12_await l D hT aT yT n n)) C X (lv_sub hl [1, 2, 0] rfl) hF
      · replace hF := iF c hF
        refine lv_aload_n hx hb dX12_await_27 rfl (lv_at hl 1 rfl) ?_
        refine lv_iconst (v := (4 : Int32)) hx hb dX12_await_28 (by decide) ?_
        refine lv_iconst (v := (0 : Int32)) hx hb dX12_await_29 (by decide) ?_
        obtain ⟨q_7, hc_8, hF⟩ := bnd_some hF
        refine cV_i (As := [.int (4 : Int32), .int (0 : Int32)]) (rest := []) C X (c_X12_fault l D hT aT yT q_1.2 (4 : Int32) (0 : Int32) q_7 hc_8 _) (cwV 2 hts (good_V q8_177 q8_179 q0_79 q1_9 q8_180) rfl rfl rfl (by decide +kernel) ⟨Nat.le_of_ble_eq_true rfl, Nat.le_of_ble_eq_true rfl⟩) (va_recv X.1 X.2.1 (ci := 12) (q0 := 0) rfl rfl) X.1 X.2.1 X.2.2.1 (free_all X) hl.1 rfl rfl (Nat.le_of_ble_eq_true rfl) dX12_await_30 ⟨Nat.le_of_ble_eq_true rfl, Nat.le_of_ble_eq_true rfl⟩ (fun t H1 locs1 ht hB hk hS => ?_)
        have X : Hx D (tX12 yT) A s H1 locs1 (wX12 hT aT yT q_7.2) := Hx_after_all X ht hB hS
        clear hk hS ht hB
        generalize H1 = H at X ⊢
        generalize locs1 = locs at X ⊢
        refine lv_pop hx hb dX12_await_33 rfl ?_
        exact (k_X12_await_34 l D hT aT yT n (L_X12_await n n) (kL_X12_await l D hT aT yT n n)) C X (lv_sub hl [1, 2, 0] rfl) hF
    · replace hF := iF c hF
      exact (k_X12_await_11 l D hT aT yT n (L_X12_await n n) (kL_X12_await l D hT aT yT n n)) C X (lv_sub hl [0] rfl) hF
