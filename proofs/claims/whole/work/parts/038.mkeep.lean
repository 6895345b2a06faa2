theorem q7_65 : Cond.fieldLink RX12 394 "TurningHallModel" "keptStrikeTick" "[J" ∈ lw_all := lw_in (tc_7 (List.mem_of_getElem? (i := 65) rfl)) rfl
theorem q7_66 : Cond.fieldLink RX12 397 "TurningHallModel" "keptStrikeBell" "[I" ∈ lw_all := lw_in (tc_7 (List.mem_of_getElem? (i := 66) rfl)) rfl
theorem q7_62 : Cond.fieldLink RX12 385 "TurningHallModel" "keptCounts" "[I" ∈ lw_all := lw_in (tc_7 (List.mem_of_getElem? (i := 62) rfl)) rfl
theorem q7_61 : Cond.fieldLink RX12 382 "TurningHallModel" "keptJams" "[I" ∈ lw_all := lw_in (tc_7 (List.mem_of_getElem? (i := 61) rfl)) rfl
theorem q7_60 : Cond.fieldLink RX12 379 "TurningHallModel" "keptPast" "[J" ∈ lw_all := lw_in (tc_7 (List.mem_of_getElem? (i := 60) rfl)) rfl
theorem q7_58 : Cond.fieldLink RX12 373 "TurningHallModel" "keptNow" "[J" ∈ lw_all := lw_in (tc_7 (List.mem_of_getElem? (i := 58) rfl)) rfl
theorem q7_59 : Cond.fieldLink RX12 376 "TurningHallModel" "keptOld" "[J" ∈ lw_all := lw_in (tc_7 (List.mem_of_getElem? (i := 59) rfl)) rfl
theorem q7_57 : Cond.fieldLink RX12 370 "TurningHallModel" "kept" "[I" ∈ lw_all := lw_in (tc_7 (List.mem_of_getElem? (i := 57) rfl)) rfl
theorem q7_63 : Cond.fieldLink RX12 388 "TurningHallModel" "keptTicks" "[J" ∈ lw_all := lw_in (tc_7 (List.mem_of_getElem? (i := 63) rfl)) rfl
theorem q7_64 : Cond.fieldLink RX12 391 "TurningHallModel" "keptStrikes" "[I" ∈ lw_all := lw_in (tc_7 (List.mem_of_getElem? (i := 64) rfl)) rfl
theorem q7_67 : Cond.fieldLink RX12 400 "TurningHallModel" "keptStep" "[J" ∈ lw_all := lw_in (tc_7 (List.mem_of_getElem? (i := 67) rfl)) rfl
theorem q10_43 : Cond.methodLink RX12 762 yX12_goes ∈ lw_all := lw_in (tc_10 (List.mem_of_getElem? (i := 43) rfl)) rfl
theorem q10_45 : Cond.instanceMethod yX12_goes ∈ lw_all := lw_in (tc_10 (List.mem_of_getElem? (i := 45) rfl)) rfl
theorem q0_132 : Cond.selects RX12 yX12_goes yX12_goes ∈ lw_all := lw_in (tc_0 (List.mem_of_getElem? (i := 132) rfl)) rfl
theorem q10_46 : Cond.code yX12_goes cX12_goes 5 (some .boolean) ∈ lw_all := lw_in (tc_10 (List.mem_of_getElem? (i := 46) rfl)) rfl
/-! ### X12_goes -/
theorem dX12_goes_0 : decode cX12_goes 0 = .ok (.iconst 0, 1) := by decide +kernel
theorem dX12_goes_1 : decode cX12_goes 1 = .ok (.istore_n 3, 1) := by decide +kernel
theorem dX12_goes_2 : decode cX12_goes 2 = .ok (.iload_n 3, 1) := by decide +kernel
theorem dX12_goes_3 : decode cX12_goes 3 = .ok (.bipush 40, 2) := by decide +kernel
theorem dX12_goes_5 : decode cX12_goes 5 = .ok (.if_icmp .ge 76, 3) := by decide +kernel
theorem dX12_goes_8 : decode cX12_goes 8 = .ok (.bipush 40, 2) := by decide +kernel
theorem dX12_goes_10 : decode cX12_goes 10 = .ok (.iload_n 1, 1) := by decide +kernel
theorem dX12_goes_11 : decode cX12_goes 11 = .ok (.imul, 1) := by decide +kernel
theorem dX12_goes_12 : decode cX12_goes 12 = .ok (.iload_n 3, 1) := by decide +kernel
theorem dX12_goes_13 : decode cX12_goes 13 = .ok (.iadd, 1) := by decide +kernel
theorem dX12_goes_14 : decode cX12_goes 14 = .ok (.istore 4, 2) := by decide +kernel
theorem dX12_goes_16 : decode cX12_goes 16 = .ok (.iload_n 2, 1) := by decide +kernel
theorem dX12_goes_17 : decode cX12_goes 17 = .ok (.ifCond .eq 32, 3) := by decide +kernel
theorem dX12_goes_20 : decode cX12_goes 20 = .ok (.aload_n 0, 1) := by decide +kernel
theorem dX12_goes_21 : decode cX12_goes 21 = .ok (.getfield 373, 3) := by decide +kernel
theorem dX12_goes_24 : decode cX12_goes 24 = .ok (.iload 4, 2) := by decide +kernel
theorem dX12_goes_26 : decode cX12_goes 26 = .ok (.aload_n 0, 1) := by decide +kernel
theorem dX12_goes_27 : decode cX12_goes 27 = .ok (.getfield 298, 3) := by decide +kernel
theorem dX12_goes_30 : decode cX12_goes 30 = .ok (.iload_n 3, 1) := by decide +kernel
theorem dX12_goes_31 : decode cX12_goes 31 = .ok (.laload, 1) := by decide +kernel
theorem dX12_goes_32 : decode cX12_goes 32 = .ok (.lastore, 1) := by decide +kernel
theorem dX12_goes_33 : decode cX12_goes 33 = .ok (.aload_n 0, 1) := by decide +kernel
theorem dX12_goes_34 : decode cX12_goes 34 = .ok (.getfield 376, 3) := by decide +kernel
theorem dX12_goes_37 : decode cX12_goes 37 = .ok (.iload 4, 2) := by decide +kernel
theorem dX12_goes_39 : decode cX12_goes 39 = .ok (.aload_n 0, 1) := by decide +kernel
theorem dX12_goes_40 : decode cX12_goes 40 = .ok (.getfield 301, 3) := by decide +kernel
theorem dX12_goes_43 : decode cX12_goes 43 = .ok (.iload_n 3, 1) := by decide +kernel
theorem dX12_goes_44 : decode cX12_goes 44 = .ok (.laload, 1) := by decide +kernel
theorem dX12_goes_45 : decode cX12_goes 45 = .ok (.lastore, 1) := by decide +kernel
theorem dX12_goes_46 : decode cX12_goes 46 = .ok (.goto 29, 3) := by decide +kernel
theorem dX12_goes_49 : decode cX12_goes 49 = .ok (.aload_n 0, 1) := by decide +kernel
theorem dX12_goes_50 : decode cX12_goes 50 = .ok (.getfield 298, 3) := by decide +kernel
theorem dX12_goes_53 : decode cX12_goes 53 = .ok (.iload_n 3, 1) := by decide +kernel
theorem dX12_goes_54 : decode cX12_goes 54 = .ok (.aload_n 0, 1) := by decide +kernel
theorem dX12_goes_55 : decode cX12_goes 55 = .ok (.getfield 373, 3) := by decide +kernel
theorem dX12_goes_58 : decode cX12_goes 58 = .ok (.iload 4, 2) := by decide +kernel
theorem dX12_goes_60 : decode cX12_goes 60 = .ok (.laload, 1) := by decide +kernel
theorem dX12_goes_61 : decode cX12_goes 61 = .ok (.lastore, 1) := by decide +kernel
theorem dX12_goes_62 : decode cX12_goes 62 = .ok (.aload_n 0, 1) := by decide +kernel
theorem dX12_goes_63 : decode cX12_goes 63 = .ok (.getfield 301, 3) := by decide +kernel
theorem dX12_goes_66 : decode cX12_goes 66 = .ok (.iload_n 3, 1) := by decide +kernel
theorem dX12_goes_67 : decode cX12_goes 67 = .ok (.aload_n 0, 1) := by decide +kernel
theorem dX12_goes_68 : decode cX12_goes 68 = .ok (.getfield 376, 3) := by decide +kernel
theorem dX12_goes_71 : decode cX12_goes 71 = .ok (.iload 4, 2) := by decide +kernel
theorem dX12_goes_73 : decode cX12_goes 73 = .ok (.laload, 1) := by decide +kernel
theorem dX12_goes_74 : decode cX12_goes 74 = .ok (.lastore, 1) := by decide +kernel
theorem dX12_goes_75 : decode cX12_goes 75 = .ok (.iinc 3 1, 3) := by decide +kernel
theorem dX12_goes_78 : decode cX12_goes 78 = .ok (.goto (-76), 3) := by decide +kernel
theorem dX12_goes_81 : decode cX12_goes 81 = .ok (.iconst 0, 1) := by decide +kernel
theorem dX12_goes_82 : decode cX12_goes 82 = .ok (.istore_n 3, 1) := by decide +kernel
theorem dX12_goes_83 : decode cX12_goes 83 = .ok (.iload_n 3, 1) := by decide +kernel
theorem dX12_goes_84 : decode cX12_goes 84 = .ok (.sipush 1280, 3) := by decide +kernel
theorem dX12_goes_87 : decode cX12_goes 87 = .ok (.if_icmp .ge 52, 3) := by decide +kernel
theorem dX12_goes_90 : decode cX12_goes 90 = .ok (.iload_n 2, 1) := by decide +kernel
theorem dX12_goes_91 : decode cX12_goes 91 = .ok (.ifCond .eq 24, 3) := by decide +kernel
theorem dX12_goes_94 : decode cX12_goes 94 = .ok (.aload_n 0, 1) := by decide +kernel
theorem dX12_goes_95 : decode cX12_goes 95 = .ok (.getfield 379, 3) := by decide +kernel
theorem dX12_goes_98 : decode cX12_goes 98 = .ok (.sipush 1280, 3) := by decide +kernel
theorem dX12_goes_101 : decode cX12_goes 101 = .ok (.iload_n 1, 1) := by decide +kernel
theorem dX12_goes_102 : decode cX12_goes 102 = .ok (.imul, 1) := by decide +kernel
theorem dX12_goes_103 : decode cX12_goes 103 = .ok (.iload_n 3, 1) := by decide +kernel
theorem dX12_goes_104 : decode cX12_goes 104 = .ok (.iadd, 1) := by decide +kernel
theorem dX12_goes_105 : decode cX12_goes 105 = .ok (.aload_n 0, 1) := by decide +kernel
theorem dX12_goes_106 : decode cX12_goes 106 = .ok (.getfield 304, 3) := by decide +kernel
theorem dX12_goes_109 : decode cX12_goes 109 = .ok (.iload_n 3, 1) := by decide +kernel
theorem dX12_goes_110 : decode cX12_goes 110 = .ok (.laload, 1) := by decide +kernel
theorem dX12_goes_111 : decode cX12_goes 111 = .ok (.lastore, 1) := by decide +kernel
theorem dX12_goes_112 : decode cX12_goes 112 = .ok (.goto 21, 3) := by decide +kernel
theorem dX12_goes_115 : decode cX12_goes 115 = .ok (.aload_n 0, 1) := by decide +kernel
theorem dX12_goes_116 : decode cX12_goes 116 = .ok (.getfield 304, 3) := by decide +kernel
theorem dX12_goes_119 : decode cX12_goes 119 = .ok (.iload_n 3, 1) := by decide +kernel
theorem dX12_goes_120 : decode cX12_goes 120 = .ok (.aload_n 0, 1) := by decide +kernel
theorem dX12_goes_121 : decode cX12_goes 121 = .ok (.getfield 379, 3) := by decide +kernel
theorem dX12_goes_124 : decode cX12_goes 124 = .ok (.sipush 1280, 3) := by decide +kernel
theorem dX12_goes_127 : decode cX12_goes 127 = .ok (.iload_n 1, 1) := by decide +kernel
theorem dX12_goes_128 : decode cX12_goes 128 = .ok (.imul, 1) := by decide +kernel
theorem dX12_goes_129 : decode cX12_goes 129 = .ok (.iload_n 3, 1) := by decide +kernel
theorem dX12_goes_130 : decode cX12_goes 130 = .ok (.iadd, 1) := by decide +kernel
theorem dX12_goes_131 : decode cX12_goes 131 = .ok (.laload, 1) := by decide +kernel
theorem dX12_goes_132 : decode cX12_goes 132 = .ok (.lastore, 1) := by decide +kernel
theorem dX12_goes_133 : decode cX12_goes 133 = .ok (.iinc 3 1, 3) := by decide +kernel
theorem dX12_goes_136 : decode cX12_goes 136 = .ok (.goto (-53), 3) := by decide +kernel
theorem dX12_goes_139 : decode cX12_goes 139 = .ok (.iconst 0, 1) := by decide +kernel
theorem dX12_goes_140 : decode cX12_goes 140 = .ok (.istore_n 3, 1) := by decide +kernel
theorem dX12_goes_141 : decode cX12_goes 141 = .ok (.iload_n 3, 1) := by decide +kernel
theorem dX12_goes_142 : decode cX12_goes 142 = .ok (.bipush 52, 2) := by decide +kernel
theorem dX12_goes_144 : decode cX12_goes 144 = .ok (.if_icmp .ge 113, 3) := by decide +kernel
theorem dX12_goes_147 : decode cX12_goes 147 = .ok (.sipush 156, 3) := by decide +kernel
theorem dX12_goes_150 : decode cX12_goes 150 = .ok (.iload_n 1, 1) := by decide +kernel
theorem dX12_goes_151 : decode cX12_goes 151 = .ok (.imul, 1) := by decide +kernel
theorem dX12_goes_152 : decode cX12_goes 152 = .ok (.iconst 3, 1) := by decide +kernel
theorem dX12_goes_153 : decode cX12_goes 153 = .ok (.iload_n 3, 1) := by decide +kernel
theorem dX12_goes_154 : decode cX12_goes 154 = .ok (.imul, 1) := by decide +kernel
theorem dX12_goes_155 : decode cX12_goes 155 = .ok (.iadd, 1) := by decide +kernel
theorem dX12_goes_156 : decode cX12_goes 156 = .ok (.istore 4, 2) := by decide +kernel
theorem dX12_goes_158 : decode cX12_goes 158 = .ok (.iload_n 2, 1) := by decide +kernel
theorem dX12_goes_159 : decode cX12_goes 159 = .ok (.ifCond .eq 49, 3) := by decide +kernel
theorem dX12_goes_162 : decode cX12_goes 162 = .ok (.aload_n 0, 1) := by decide +kernel
theorem dX12_goes_163 : decode cX12_goes 163 = .ok (.getfield 382, 3) := by decide +kernel
theorem dX12_goes_166 : decode cX12_goes 166 = .ok (.iload 4, 2) := by decide +kernel
theorem dX12_goes_168 : decode cX12_goes 168 = .ok (.aload_n 0, 1) := by decide +kernel
theorem dX12_goes_169 : decode cX12_goes 169 = .ok (.getfield 307, 3) := by decide +kernel
theorem dX12_goes_172 : decode cX12_goes 172 = .ok (.iload_n 3, 1) := by decide +kernel
theorem dX12_goes_173 : decode cX12_goes 173 = .ok (.iaload, 1) := by decide +kernel
theorem dX12_goes_174 : decode cX12_goes 174 = .ok (.iastore, 1) := by decide +kernel
theorem dX12_goes_175 : decode cX12_goes 175 = .ok (.aload_n 0, 1) := by decide +kernel
theorem dX12_goes_176 : decode cX12_goes 176 = .ok (.getfield 382, 3) := by decide +kernel
theorem dX12_goes_179 : decode cX12_goes 179 = .ok (.iload 4, 2) := by decide +kernel
theorem dX12_goes_181 : decode cX12_goes 181 = .ok (.iconst 1, 1) := by decide +kernel
theorem dX12_goes_182 : decode cX12_goes 182 = .ok (.iadd, 1) := by decide +kernel
theorem dX12_goes_183 : decode cX12_goes 183 = .ok (.aload_n 0, 1) := by decide +kernel
theorem dX12_goes_184 : decode cX12_goes 184 = .ok (.getfield 310, 3) := by decide +kernel
theorem dX12_goes_187 : decode cX12_goes 187 = .ok (.iload_n 3, 1) := by decide +kernel
theorem dX12_goes_188 : decode cX12_goes 188 = .ok (.iaload, 1) := by decide +kernel
theorem dX12_goes_189 : decode cX12_goes 189 = .ok (.iastore, 1) := by decide +kernel
theorem dX12_goes_190 : decode cX12_goes 190 = .ok (.aload_n 0, 1) := by decide +kernel
theorem dX12_goes_191 : decode cX12_goes 191 = .ok (.getfield 382, 3) := by decide +kernel
theorem dX12_goes_194 : decode cX12_goes 194 = .ok (.iload 4, 2) := by decide +kernel
theorem dX12_goes_196 : decode cX12_goes 196 = .ok (.iconst 2, 1) := by decide +kernel
theorem dX12_goes_197 : decode cX12_goes 197 = .ok (.iadd, 1) := by decide +kernel
theorem dX12_goes_198 : decode cX12_goes 198 = .ok (.aload_n 0, 1) := by decide +kernel
theorem dX12_goes_199 : decode cX12_goes 199 = .ok (.getfield 313, 3) := by decide +kernel
theorem dX12_goes_202 : decode cX12_goes 202 = .ok (.iload_n 3, 1) := by decide +kernel
theorem dX12_goes_203 : decode cX12_goes 203 = .ok (.iaload, 1) := by decide +kernel
theorem dX12_goes_204 : decode cX12_goes 204 = .ok (.iastore, 1) := by decide +kernel
theorem dX12_goes_205 : decode cX12_goes 205 = .ok (.goto 46, 3) := by decide +kernel
theorem dX12_goes_208 : decode cX12_goes 208 = .ok (.aload_n 0, 1) := by decide +kernel
theorem dX12_goes_209 : decode cX12_goes 209 = .ok (.getfield 307, 3) := by decide +kernel
theorem dX12_goes_212 : decode cX12_goes 212 = .ok (.iload_n 3, 1) := by decide +kernel
theorem dX12_goes_213 : decode cX12_goes 213 = .ok (.aload_n 0, 1) := by decide +kernel
theorem dX12_goes_214 : decode cX12_goes 214 = .ok (.getfield 382, 3) := by decide +kernel
theorem dX12_goes_217 : decode cX12_goes 217 = .ok (.iload 4, 2) := by decide +kernel
theorem dX12_goes_219 : decode cX12_goes 219 = .ok (.iaload, 1) := by decide +kernel
theorem dX12_goes_220 : decode cX12_goes 220 = .ok (.iastore, 1) := by decide +kernel
theorem dX12_goes_221 : decode cX12_goes 221 = .ok (.aload_n 0, 1) := by decide +kernel
theorem dX12_goes_222 : decode cX12_goes 222 = .ok (.getfield 310, 3) := by decide +kernel
theorem dX12_goes_225 : decode cX12_goes 225 = .ok (.iload_n 3, 1) := by decide +kernel
theorem dX12_goes_226 : decode cX12_goes 226 = .ok (.aload_n 0, 1) := by decide +kernel
theorem dX12_goes_227 : decode cX12_goes 227 = .ok (.getfield 382, 3) := by decide +kernel
theorem dX12_goes_230 : decode cX12_goes 230 = .ok (.iload 4, 2) := by decide +kernel
theorem dX12_goes_232 : decode cX12_goes 232 = .ok (.iconst 1, 1) := by decide +kernel
theorem dX12_goes_233 : decode cX12_goes 233 = .ok (.iadd, 1) := by decide +kernel
theorem dX12_goes_234 : decode cX12_goes 234 = .ok (.iaload, 1) := by decide +kernel
theorem dX12_goes_235 : decode cX12_goes 235 = .ok (.iastore, 1) := by decide +kernel
theorem dX12_goes_236 : decode cX12_goes 236 = .ok (.aload_n 0, 1) := by decide +kernel
theorem dX12_goes_237 : decode cX12_goes 237 = .ok (.getfield 313, 3) := by decide +kernel
theorem dX12_goes_240 : decode cX12_goes 240 = .ok (.iload_n 3, 1) := by decide +kernel
theorem dX12_goes_241 : decode cX12_goes 241 = .ok (.aload_n 0, 1) := by decide +kernel
theorem dX12_goes_242 : decode cX12_goes 242 = .ok (.getfield 382, 3) := by decide +kernel
theorem dX12_goes_245 : decode cX12_goes 245 = .ok (.iload 4, 2) := by decide +kernel
theorem dX12_goes_247 : decode cX12_goes 247 = .ok (.iconst 2, 1) := by decide +kernel
theorem dX12_goes_248 : decode cX12_goes 248 = .ok (.iadd, 1) := by decide +kernel
theorem dX12_goes_249 : decode cX12_goes 249 = .ok (.iaload, 1) := by decide +kernel
theorem dX12_goes_250 : decode cX12_goes 250 = .ok (.iastore, 1) := by decide +kernel
theorem dX12_goes_251 : decode cX12_goes 251 = .ok (.iinc 3 1, 3) := by decide +kernel
theorem dX12_goes_254 : decode cX12_goes 254 = .ok (.goto (-113), 3) := by decide +kernel
theorem dX12_goes_257 : decode cX12_goes 257 = .ok (.iconst 0, 1) := by decide +kernel
theorem dX12_goes_258 : decode cX12_goes 258 = .ok (.istore_n 3, 1) := by decide +kernel
theorem dX12_goes_259 : decode cX12_goes 259 = .ok (.iload_n 3, 1) := by decide +kernel
theorem dX12_goes_260 : decode cX12_goes 260 = .ok (.bipush 12, 2) := by decide +kernel
theorem dX12_goes_262 : decode cX12_goes 262 = .ok (.if_icmp .ge 50, 3) := by decide +kernel
theorem dX12_goes_265 : decode cX12_goes 265 = .ok (.iload_n 2, 1) := by decide +kernel
theorem dX12_goes_266 : decode cX12_goes 266 = .ok (.ifCond .eq 23, 3) := by decide +kernel
theorem dX12_goes_269 : decode cX12_goes 269 = .ok (.aload_n 0, 1) := by decide +kernel
theorem dX12_goes_270 : decode cX12_goes 270 = .ok (.getfield 385, 3) := by decide +kernel
theorem dX12_goes_273 : decode cX12_goes 273 = .ok (.bipush 12, 2) := by decide +kernel
theorem dX12_goes_275 : decode cX12_goes 275 = .ok (.iload_n 1, 1) := by decide +kernel
theorem dX12_goes_276 : decode cX12_goes 276 = .ok (.imul, 1) := by decide +kernel
theorem dX12_goes_277 : decode cX12_goes 277 = .ok (.iload_n 3, 1) := by decide +kernel
theorem dX12_goes_278 : decode cX12_goes 278 = .ok (.iadd, 1) := by decide +kernel
theorem dX12_goes_279 : decode cX12_goes 279 = .ok (.aload_n 0, 1) := by decide +kernel
theorem dX12_goes_280 : decode cX12_goes 280 = .ok (.getfield 316, 3) := by decide +kernel
theorem dX12_goes_283 : decode cX12_goes 283 = .ok (.iload_n 3, 1) := by decide +kernel
theorem dX12_goes_284 : decode cX12_goes 284 = .ok (.iaload, 1) := by decide +kernel
theorem dX12_goes_285 : decode cX12_goes 285 = .ok (.iastore, 1) := by decide +kernel
theorem dX12_goes_286 : decode cX12_goes 286 = .ok (.goto 20, 3) := by decide +kernel
theorem dX12_goes_289 : decode cX12_goes 289 = .ok (.aload_n 0, 1) := by decide +kernel
theorem dX12_goes_290 : decode cX12_goes 290 = .ok (.getfield 316, 3) := by decide +kernel
theorem dX12_goes_293 : decode cX12_goes 293 = .ok (.iload_n 3, 1) := by decide +kernel
theorem dX12_goes_294 : decode cX12_goes 294 = .ok (.aload_n 0, 1) := by decide +kernel
theorem dX12_goes_295 : decode cX12_goes 295 = .ok (.getfield 385, 3) := by decide +kernel
theorem dX12_goes_298 : decode cX12_goes 298 = .ok (.bipush 12, 2) := by decide +kernel
theorem dX12_goes_300 : decode cX12_goes 300 = .ok (.iload_n 1, 1) := by decide +kernel
theorem dX12_goes_301 : decode cX12_goes 301 = .ok (.imul, 1) := by decide +kernel
theorem dX12_goes_302 : decode cX12_goes 302 = .ok (.iload_n 3, 1) := by decide +kernel
theorem dX12_goes_303 : decode cX12_goes 303 = .ok (.iadd, 1) := by decide +kernel
theorem dX12_goes_304 : decode cX12_goes 304 = .ok (.iaload, 1) := by decide +kernel
theorem dX12_goes_305 : decode cX12_goes 305 = .ok (.iastore, 1) := by decide +kernel
theorem dX12_goes_306 : decode cX12_goes 306 = .ok (.iinc 3 1, 3) := by decide +kernel
theorem dX12_goes_309 : decode cX12_goes 309 = .ok (.goto (-50), 3) := by decide +kernel
theorem dX12_goes_312 : decode cX12_goes 312 = .ok (.iconst 0, 1) := by decide +kernel
theorem dX12_goes_313 : decode cX12_goes 313 = .ok (.istore_n 3, 1) := by decide +kernel
theorem dX12_goes_314 : decode cX12_goes 314 = .ok (.iload_n 3, 1) := by decide +kernel
theorem dX12_goes_315 : decode cX12_goes 315 = .ok (.bipush 64, 2) := by decide +kernel
theorem dX12_goes_317 : decode cX12_goes 317 = .ok (.if_icmp .ge 76, 3) := by decide +kernel
theorem dX12_goes_320 : decode cX12_goes 320 = .ok (.bipush 64, 2) := by decide +kernel
theorem dX12_goes_322 : decode cX12_goes 322 = .ok (.iload_n 1, 1) := by decide +kernel
theorem dX12_goes_323 : decode cX12_goes 323 = .ok (.imul, 1) := by decide +kernel
theorem dX12_goes_324 : decode cX12_goes 324 = .ok (.iload_n 3, 1) := by decide +kernel
theorem dX12_goes_325 : decode cX12_goes 325 = .ok (.iadd, 1) := by decide +kernel
theorem dX12_goes_326 : decode cX12_goes 326 = .ok (.istore 4, 2) := by decide +kernel
theorem dX12_goes_328 : decode cX12_goes 328 = .ok (.iload_n 2, 1) := by decide +kernel
theorem dX12_goes_329 : decode cX12_goes 329 = .ok (.ifCond .eq 32, 3) := by decide +kernel
theorem dX12_goes_332 : decode cX12_goes 332 = .ok (.aload_n 0, 1) := by decide +kernel
theorem dX12_goes_333 : decode cX12_goes 333 = .ok (.getfield 394, 3) := by decide +kernel
theorem dX12_goes_336 : decode cX12_goes 336 = .ok (.iload 4, 2) := by decide +kernel
theorem dX12_goes_338 : decode cX12_goes 338 = .ok (.aload_n 0, 1) := by decide +kernel
theorem dX12_goes_339 : decode cX12_goes 339 = .ok (.getfield 326, 3) := by decide +kernel
theorem dX12_goes_342 : decode cX12_goes 342 = .ok (.iload_n 3, 1) := by decide +kernel
theorem dX12_goes_343 : decode cX12_goes 343 = .ok (.laload, 1) := by decide +kernel
theorem dX12_goes_344 : decode cX12_goes 344 = .ok (.lastore, 1) := by decide +kernel
theorem dX12_goes_345 : decode cX12_goes 345 = .ok (.aload_n 0, 1) := by decide +kernel
theorem dX12_goes_346 : decode cX12_goes 346 = .ok (.getfield 397, 3) := by decide +kernel
theorem dX12_goes_349 : decode cX12_goes 349 = .ok (.iload 4, 2) := by decide +kernel
theorem dX12_goes_351 : decode cX12_goes 351 = .ok (.aload_n 0, 1) := by decide +kernel
theorem dX12_goes_352 : decode cX12_goes 352 = .ok (.getfield 329, 3) := by decide +kernel
theorem dX12_goes_355 : decode cX12_goes 355 = .ok (.iload_n 3, 1) := by decide +kernel
theorem dX12_goes_356 : decode cX12_goes 356 = .ok (.iaload, 1) := by decide +kernel
theorem dX12_goes_357 : decode cX12_goes 357 = .ok (.iastore, 1) := by decide +kernel
theorem dX12_goes_358 : decode cX12_goes 358 = .ok (.goto 29, 3) := by decide +kernel
theorem dX12_goes_361 : decode cX12_goes 361 = .ok (.aload_n 0, 1) := by decide +kernel
theorem dX12_goes_362 : decode cX12_goes 362 = .ok (.getfield 326, 3) := by decide +kernel
theorem dX12_goes_365 : decode cX12_goes 365 = .ok (.iload_n 3, 1) := by decide +kernel
theorem dX12_goes_366 : decode cX12_goes 366 = .ok (.aload_n 0, 1) := by decide +kernel
theorem dX12_goes_367 : decode cX12_goes 367 = .ok (.getfield 394, 3) := by decide +kernel
theorem dX12_goes_370 : decode cX12_goes 370 = .ok (.iload 4, 2) := by decide +kernel
theorem dX12_goes_372 : decode cX12_goes 372 = .ok (.laload, 1) := by decide +kernel
theorem dX12_goes_373 : decode cX12_goes 373 = .ok (.lastore, 1) := by decide +kernel
theorem dX12_goes_374 : decode cX12_goes 374 = .ok (.aload_n 0, 1) := by decide +kernel
theorem dX12_goes_375 : decode cX12_goes 375 = .ok (.getfield 329, 3) := by decide +kernel
theorem dX12_goes_378 : decode cX12_goes 378 = .ok (.iload_n 3, 1) := by decide +kernel
theorem dX12_goes_379 : decode cX12_goes 379 = .ok (.aload_n 0, 1) := by decide +kernel
theorem dX12_goes_380 : decode cX12_goes 380 = .ok (.getfield 397, 3) := by decide +kernel
theorem dX12_goes_383 : decode cX12_goes 383 = .ok (.iload 4, 2) := by decide +kernel
theorem dX12_goes_385 : decode cX12_goes 385 = .ok (.iaload, 1) := by decide +kernel
theorem dX12_goes_386 : decode cX12_goes 386 = .ok (.iastore, 1) := by decide +kernel
theorem dX12_goes_387 : decode cX12_goes 387 = .ok (.iinc 3 1, 3) := by decide +kernel
theorem dX12_goes_390 : decode cX12_goes 390 = .ok (.goto (-76), 3) := by decide +kernel
theorem dX12_goes_393 : decode cX12_goes 393 = .ok (.iconst 1, 1) := by decide +kernel
theorem dX12_goes_394 : decode cX12_goes 394 = .ok (.ireturn, 1) := by decide +kernel
abbrev R_X12_goes : Room := ({ frames := 0, cells := 0, slots := 0, locals := 0 } : Room)
def b_X12_goes_387 (n : Nat) (rec : (Gs → Int32 → Int32 → Int32 → Option (Int32 × Gs)) × (Gs → Int32 → Int32 → Int32 → Option (Int32 × Gs)) × (Gs → Int32 → Int32 → Int32 → Option (Int32 × Gs)) × (Gs → Int32 → Int32 → Int32 → Option (Int32 × Gs)) × (Gs → Int32 → Int32 → Int32 → Option (Int32 × Gs))) (gT : Gs) (v1 : Int32) (v2 : Int32) (v3 : Int32) : Option (Int32 × Gs) :=
  rec.2.2.2.2 gT v1 v2 (v3 + (1 : Int32))
def h_X12_goes_314 (n : Nat) (rec : (Gs → Int32 → Int32 → Int32 → Option (Int32 × Gs)) × (Gs → Int32 → Int32 → Int32 → Option (Int32 × Gs)) × (Gs → Int32 → Int32 → Int32 → Option (Int32 × Gs)) × (Gs → Int32 → Int32 → Int32 → Option (Int32 × Gs)) × (Gs → Int32 → Int32 → Int32 → Option (Int32 × Gs))) (gT : Gs) (v1 : Int32) (v2 : Int32) (v3 : Int32) : Option (Int32 × Gs) :=
  if (64 : Int32) ≤ v3 then (some ((1 : Int32), gT)) else (if v2 = 0 then (grd (inB (((64 : Int32) * v1) + v3) 256) (grd (inB v3 64) (grd (inB (((64 : Int32) * v1) + v3) 256) (grd (inB v3 64) (b_X12_goes_387 n rec (sIA (sLA gT 89 (vp_updL (gLA gT 89) v3.toNatClampNeg (gLA gT 111 (((64 : Int32) * v1) + v3).toNatClampNeg))) 90 (upd (gIA gT 90) v3.toNatClampNeg (gIA gT 112 (((64 : Int32) * v1) + v3).toNatClampNeg))) v1 v2 v3))))) else (grd (inB v3 64) (grd (inB (((64 : Int32) * v1) + v3) 256) (grd (inB v3 64) (grd (inB (((64 : Int32) * v1) + v3) 256) (b_X12_goes_387 n rec (sIA (sLA gT 111 (vp_updL (gLA gT 111) (((64 : Int32) * v1) + v3).toNatClampNeg (gLA gT 89 v3.toNatClampNeg))) 112 (upd (gIA gT 112) (((64 : Int32) * v1) + v3).toNatClampNeg (gIA gT 90 v3.toNatClampNeg))) v1 v2 v3))))))
def b_X12_goes_306 (n : Nat) (rec : (Gs → Int32 → Int32 → Int32 → Option (Int32 × Gs)) × (Gs → Int32 → Int32 → Int32 → Option (Int32 × Gs)) × (Gs → Int32 → Int32 → Int32 → Option (Int32 × Gs)) × (Gs → Int32 → Int32 → Int32 → Option (Int32 × Gs)) × (Gs → Int32 → Int32 → Int32 → Option (Int32 × Gs))) (gT : Gs) (v1 : Int32) (v2 : Int32) (v3 : Int32) : Option (Int32 × Gs) :=
  rec.2.2.2.1 gT v1 v2 (v3 + (1 : Int32))
def h_X12_goes_259 (n : Nat) (rec : (Gs → Int32 → Int32 → Int32 → Option (Int32 × Gs)) × (Gs → Int32 → Int32 → Int32 → Option (Int32 × Gs)) × (Gs → Int32 → Int32 → Int32 → Option (Int32 × Gs)) × (Gs → Int32 → Int32 → Int32 → Option (Int32 × Gs)) × (Gs → Int32 → Int32 → Int32 → Option (Int32 × Gs))) (gT : Gs) (v1 : Int32) (v2 : Int32) (v3 : Int32) : Option (Int32 × Gs) :=
  if (12 : Int32) ≤ v3 then (rec.2.2.2.2 gT v1 v2 (0 : Int32)) else (if v2 = 0 then (grd (inB (((12 : Int32) * v1) + v3) 48) (grd (inB v3 12) (b_X12_goes_306 n rec (sIA gT 86 (upd (gIA gT 86) v3.toNatClampNeg (gIA gT 108 (((12 : Int32) * v1) + v3).toNatClampNeg))) v1 v2 v3))) else (grd (inB v3 12) (grd (inB (((12 : Int32) * v1) + v3) 48) (b_X12_goes_306 n rec (sIA gT 108 (upd (gIA gT 108) (((12 : Int32) * v1) + v3).toNatClampNeg (gIA gT 86 v3.toNatClampNeg))) v1 v2 v3))))
def b_X12_goes_251 (n : Nat) (rec : (Gs → Int32 → Int32 → Int32 → Option (Int32 × Gs)) × (Gs → Int32 → Int32 → Int32 → Option (Int32 × Gs)) × (Gs → Int32 → Int32 → Int32 → Option (Int32 × Gs)) × (Gs → Int32 → Int32 → Int32 → Option (Int32 × Gs)) × (Gs → Int32 → Int32 → Int32 → Option (Int32 × Gs))) (gT : Gs) (v1 : Int32) (v2 : Int32) (v3 : Int32) : Option (Int32 × Gs) :=
  rec.2.2.1 gT v1 v2 (v3 + (1 : Int32))
def h_X12_goes_141 (n : Nat) (rec : (Gs → Int32 → Int32 → Int32 → Option (Int32 × Gs)) × (Gs → Int32 → Int32 → Int32 → Option (Int32 × Gs)) × (Gs → Int32 → Int32 → Int32 → Option (Int32 × Gs)) × (Gs → Int32 → Int32 → Int32 → Option (Int32 × Gs)) × (Gs → Int32 → Int32 → Int32 → Option (Int32 × Gs))) (gT : Gs) (v1 : Int32) (v2 : Int32) (v3 : Int32) : Option (Int32 × Gs) :=
  if (52 : Int32) ≤ v3 then (rec.2.2.2.1 gT v1 v2 (0 : Int32)) else (if v2 = 0 then (grd (inB (((156 : Int32) * v1) + ((3 : Int32) * v3)) 624) (grd (inB v3 52) (grd (inB ((((156 : Int32) * v1) + ((3 : Int32) * v3)) + (1 : Int32)) 624) (grd (inB v3 52) (grd (inB ((((156 : Int32) * v1) + ((3 : Int32) * v3)) + (2 : Int32)) 624) (grd (inB v3 52) (b_X12_goes_251 n rec (sIA (sIA (sIA gT 83 (upd (gIA gT 83) v3.toNatClampNeg (gIA gT 107 (((156 : Int32) * v1) + ((3 : Int32) * v3)).toNatClampNeg))) 84 (upd (gIA gT 84) v3.toNatClampNeg (gIA gT 107 ((((156 : Int32) * v1) + ((3 : Int32) * v3)) + (1 : Int32)).toNatClampNeg))) 85 (upd (gIA gT 85) v3.toNatClampNeg (gIA gT 107 ((((156 : Int32) * v1) + ((3 : Int32) * v3)) + (2 : Int32)).toNatClampNeg))) v1 v2 v3))))))) else (grd (inB v3 52) (grd (inB (((156 : Int32) * v1) + ((3 : Int32) * v3)) 624) (grd (inB v3 52) (grd (inB ((((156 : Int32) * v1) + ((3 : Int32) * v3)) + (1 : Int32)) 624) (grd (inB v3 52) (grd (inB ((((156 : Int32) * v1) + ((3 : Int32) * v3)) + (2 : Int32)) 624) (b_X12_goes_251 n rec (sIA (sIA (sIA gT 107 (upd (gIA gT 107) (((156 : Int32) * v1) + ((3 : Int32) * v3)).toNatClampNeg (gIA gT 83 v3.toNatClampNeg))) 107 (upd (upd (gIA gT 107) (((156 : Int32) * v1) + ((3 : Int32) * v3)).toNatClampNeg (gIA gT 83 v3.toNatClampNeg)) ((((156 : Int32) * v1) + ((3 : Int32) * v3)) + (1 : Int32)).toNatClampNeg (gIA gT 84 v3.toNatClampNeg))) 107 (upd (upd (upd (gIA gT 107) (((156 : Int32) * v1) + ((3 : Int32) * v3)).toNatClampNeg (gIA gT 83 v3.toNatClampNeg)) ((((156 : Int32) * v1) + ((3 : Int32) * v3)) + (1 : Int32)).toNatClampNeg (gIA gT 84 v3.toNatClampNeg)) ((((156 : Int32) * v1) + ((3 : Int32) * v3)) + (2 : Int32)).toNatClampNeg (gIA gT 85 v3.toNatClampNeg))) v1 v2 v3))))))))
def b_X12_goes_133 (n : Nat) (rec : (Gs → Int32 → Int32 → Int32 → Option (Int32 × Gs)) × (Gs → Int32 → Int32 → Int32 → Option (Int32 × Gs)) × (Gs → Int32 → Int32 → Int32 → Option (Int32 × Gs)) × (Gs → Int32 → Int32 → Int32 → Option (Int32 × Gs)) × (Gs → Int32 → Int32 → Int32 → Option (Int32 × Gs))) (gT : Gs) (v1 : Int32) (v2 : Int32) (v3 : Int32) : Option (Int32 × Gs) :=
  rec.2.1 gT v1 v2 (v3 + (1 : Int32))
def h_X12_goes_83 (n : Nat) (rec : (Gs → Int32 → Int32 → Int32 → Option (Int32 × Gs)) × (Gs → Int32 → Int32 → Int32 → Option (Int32 × Gs)) × (Gs → Int32 → Int32 → Int32 → Option (Int32 × Gs)) × (Gs → Int32 → Int32 → Int32 → Option (Int32 × Gs)) × (Gs → Int32 → Int32 → Int32 → Option (Int32 × Gs))) (gT : Gs) (v1 : Int32) (v2 : Int32) (v3 : Int32) : Option (Int32 × Gs) :=
  if (1280 : Int32) ≤ v3 then (rec.2.2.1 gT v1 v2 (0 : Int32)) else (if v2 = 0 then (grd (inB (((1280 : Int32) * v1) + v3) 5120) (grd (inB v3 1280) (b_X12_goes_133 n rec (sLA gT 82 (vp_updL (gLA gT 82) v3.toNatClampNeg (gLA gT 106 (((1280 : Int32) * v1) + v3).toNatClampNeg))) v1 v2 v3))) else (grd (inB v3 1280) (grd (inB (((1280 : Int32) * v1) + v3) 5120) (b_X12_goes_133 n rec (sLA gT 106 (vp_updL (gLA gT 106) (((1280 : Int32) * v1) + v3).toNatClampNeg (gLA gT 82 v3.toNatClampNeg))) v1 v2 v3))))
def b_X12_goes_75 (n : Nat) (rec : (Gs → Int32 → Int32 → Int32 → Option (Int32 × Gs)) × (Gs → Int32 → Int32 → Int32 → Option (Int32 × Gs)) × (Gs → Int32 → Int32 → Int32 → Option (Int32 × Gs)) × (Gs → Int32 → Int32 → Int32 → Option (Int32 × Gs)) × (Gs → Int32 → Int32 → Int32 → Option (Int32 × Gs))) (gT : Gs) (v1 : Int32) (v2 : Int32) (v3 : Int32) : Option (Int32 × Gs) :=
  rec.1 gT v1 v2 (v3 + (1 : Int32))
def h_X12_goes_2 (n : Nat) (rec : (Gs → Int32 → Int32 → Int32 → Option (Int32 × Gs)) × (Gs → Int32 → Int32 → Int32 → Option (Int32 × Gs)) × (Gs → Int32 → Int32 → Int32 → Option (Int32 × Gs)) × (Gs → Int32 → Int32 → Int32 → Option (Int32 × Gs)) × (Gs → Int32 → Int32 → Int32 → Option (Int32 × Gs))) (gT : Gs) (v1 : Int32) (v2 : Int32) (v3 : Int32) : Option (Int32 × Gs) :=
  if (40 : Int32) ≤ v3 then (rec.2.1 gT v1 v2 (0 : Int32)) else (if v2 = 0 then (grd (inB (((40 : Int32) * v1) + v3) 160) (grd (inB v3 40) (grd (inB (((40 : Int32) * v1) + v3) 160) (grd (inB v3 40) (b_X12_goes_75 n rec (sLA (sLA gT 80 (vp_updL (gLA gT 80) v3.toNatClampNeg (gLA gT 104 (((40 : Int32) * v1) + v3).toNatClampNeg))) 81 (vp_updL (gLA gT 81) v3.toNatClampNeg (gLA gT 105 (((40 : Int32) * v1) + v3).toNatClampNeg))) v1 v2 v3))))) else (grd (inB v3 40) (grd (inB (((40 : Int32) * v1) + v3) 160) (grd (inB v3 40) (grd (inB (((40 : Int32) * v1) + v3) 160) (b_X12_goes_75 n rec (sLA (sLA gT 104 (vp_updL (gLA gT 104) (((40 : Int32) * v1) + v3).toNatClampNeg (gLA gT 80 v3.toNatClampNeg))) 105 (vp_updL (gLA gT 105) (((40 : Int32) * v1) + v3).toNatClampNeg (gLA gT 81 v3.toNatClampNeg))) v1 v2 v3))))))
def L_X12_goes (n : Nat) : Nat → ((Gs → Int32 → Int32 → Int32 → Option (Int32 × Gs)) × (Gs → Int32 → Int32 → Int32 → Option (Int32 × Gs)) × (Gs → Int32 → Int32 → Int32 → Option (Int32 × Gs)) × (Gs → Int32 → Int32 → Int32 → Option (Int32 × Gs)) × (Gs → Int32 → Int32 → Int32 → Option (Int32 × Gs)))
  | 0 => ((fun _ _ _ _ => none), (fun _ _ _ _ => none), (fun _ _ _ _ => none), (fun _ _ _ _ => none), (fun _ _ _ _ => none))
  | k + 1 => (h_X12_goes_2 n (L_X12_goes n k), h_X12_goes_83 n (L_X12_goes n k), h_X12_goes_141 n (L_X12_goes n k), h_X12_goes_259 n (L_X12_goes n k), h_X12_goes_314 n (L_X12_goes n k))
def f_X12_goes (n : Nat) (gT : Gs) (x0 : Int32) (x1 : Int32) : Option (Int32 × Gs) :=
  (L_X12_goes n n).1 gT x0 x1 (0 : Int32)
def S_X12_goes_387 (l : Launch) (D : Dx) (hT : Nat) (aT : Nat → Nat) (yT : Nat → ClassId) (fn : Gs → Int32 → Int32 → Int32 → Option (Int32 × Gs)) : Prop :=
  ∀ {p : Program} {e : Env} {s : State} {m : MethodId} {args : Array Value} {below : List Frame} {meth : Method} {c : Code} {H : Heap} {locs : List Loc} {A : Nat → Prop} {ls : Array Slot} {gT : Gs} {v1 : Int32} {v2 : Int32} {v3 : Int32} {q : Int32 × Gs}, Cx p s m args meth c cX12_goes (some .boolean) 5 RX12 lw_all → Hx D (tX12 yT) A s H locs (wX12 hT aT yT gT) → lv_has ls 5 [(0, .ref hT), (1, .int v1), (2, .int v2), (3, .int v3)] → fn gT v1 v2 v3 = some q → W p l e R_X12_goes s m args below meth c H locs 0 0 (MQ below (QI D A (wX12 hT aT yT q.2) q.1) args s 0 0 A) (F0 m 387 ls [])
def S_X12_goes_314 (l : Launch) (D : Dx) (hT : Nat) (aT : Nat → Nat) (yT : Nat → ClassId) (fn : Gs → Int32 → Int32 → Int32 → Option (Int32 × Gs)) : Prop :=
  ∀ {p : Program} {e : Env} {s : State} {m : MethodId} {args : Array Value} {below : List Frame} {meth : Method} {c : Code} {H : Heap} {locs : List Loc} {A : Nat → Prop} {ls : Array Slot} {gT : Gs} {v1 : Int32} {v2 : Int32} {v3 : Int32} {q : Int32 × Gs}, Cx p s m args meth c cX12_goes (some .boolean) 5 RX12 lw_all → Hx D (tX12 yT) A s H locs (wX12 hT aT yT gT) → lv_has ls 5 [(0, .ref hT), (1, .int v1), (2, .int v2), (3, .int v3)] → fn gT v1 v2 v3 = some q → W p l e R_X12_goes s m args below meth c H locs 0 0 (MQ below (QI D A (wX12 hT aT yT q.2) q.1) args s 0 0 A) (F0 m 314 ls [])
def S_X12_goes_306 (l : Launch) (D : Dx) (hT : Nat) (aT : Nat → Nat) (yT : Nat → ClassId) (fn : Gs → Int32 → Int32 → Int32 → Option (Int32 × Gs)) : Prop :=
  ∀ {p : Program} {e : Env} {s : State} {m : MethodId} {args : Array Value} {below : List Frame} {meth : Method} {c : Code} {H : Heap} {locs : List Loc} {A : Nat → Prop} {ls : Array Slot} {gT : Gs} {v1 : Int32} {v2 : Int32} {v3 : Int32} {q : Int32 × Gs}, Cx p s m args meth c cX12_goes (some .boolean) 5 RX12 lw_all → Hx D (tX12 yT) A s H locs (wX12 hT aT yT gT) → lv_has ls 5 [(0, .ref hT), (1, .int v1), (2, .int v2), (3, .int v3)] → fn gT v1 v2 v3 = some q → W p l e R_X12_goes s m args below meth c H locs 0 0 (MQ below (QI D A (wX12 hT aT yT q.2) q.1) args s 0 0 A) (F0 m 306 ls [])
def S_X12_goes_259 (l : Launch) (D : Dx) (hT : Nat) (aT : Nat → Nat) (yT : Nat → ClassId) (fn : Gs → Int32 → Int32 → Int32 → Option (Int32 × Gs)) : Prop :=
  ∀ {p : Program} {e : Env} {s : State} {m : MethodId} {args : Array Value} {below : List Frame} {meth : Method} {c : Code} {H : Heap} {locs : List Loc} {A : Nat → Prop} {ls : Array Slot} {gT : Gs} {v1 : Int32} {v2 : Int32} {v3 : Int32} {q : Int32 × Gs}, Cx p s m args meth c cX12_goes (some .boolean) 5 RX12 lw_all → Hx D (tX12 yT) A s H locs (wX12 hT aT yT gT) → lv_has ls 5 [(0, .ref hT), (1, .int v1), (2, .int v2), (3, .int v3)] → fn gT v1 v2 v3 = some q → W p l e R_X12_goes s m args below meth c H locs 0 0 (MQ below (QI D A (wX12 hT aT yT q.2) q.1) args s 0 0 A) (F0 m 259 ls [])
def S_X12_goes_251 (l : Launch) (D : Dx) (hT : Nat) (aT : Nat → Nat) (yT : Nat → ClassId) (fn : Gs → Int32 → Int32 → Int32 → Option (Int32 × Gs)) : Prop :=
  ∀ {p : Program} {e : Env} {s : State} {m : MethodId} {args : Array Value} {below : List Frame} {meth : Method} {c : Code} {H : Heap} {locs : List Loc} {A : Nat → Prop} {ls : Array Slot} {gT : Gs} {v1 : Int32} {v2 : Int32} {v3 : Int32} {q : Int32 × Gs}, Cx p s m args meth c cX12_goes (some .boolean) 5 RX12 lw_all → Hx D (tX12 yT) A s H locs (wX12 hT aT yT gT) → lv_has ls 5 [(0, .ref hT), (1, .int v1), (2, .int v2), (3, .int v3)] → fn gT v1 v2 v3 = some q → W p l e R_X12_goes s m args below meth c H locs 0 0 (MQ below (QI D A (wX12 hT aT yT q.2) q.1) args s 0 0 A) (F0 m 251 ls [])
def S_X12_goes_141 (l : Launch) (D : Dx) (hT : Nat) (aT : Nat → Nat) (yT : Nat → ClassId) (fn : Gs → Int32 → Int32 → Int32 → Option (Int32 × Gs)) : Prop :=
  ∀ {p : Program} {e : Env} {s : State} {m : MethodId} {args : Array Value} {below : List Frame} {meth : Method} {c : Code} {H : Heap} {locs : List Loc} {A : Nat → Prop} {ls : Array Slot} {gT : Gs} {v1 : Int32} {v2 : Int32} {v3 : Int32} {q : Int32 × Gs}, Cx p s m args meth c cX12_goes (some .boolean) 5 RX12 lw_all → Hx D (tX12 yT) A s H locs (wX12 hT aT yT gT) → lv_has ls 5 [(0, .ref hT), (1, .int v1), (2, .int v2), (3, .int v3)] → fn gT v1 v2 v3 = some q → W p l e R_X12_goes s m args below meth c H locs 0 0 (MQ below (QI D A (wX12 hT aT yT q.2) q.1) args s 0 0 A) (F0 m 141 ls [])
def S_X12_goes_133 (l : Launch) (D : Dx) (hT : Nat) (aT : Nat → Nat) (yT : Nat → ClassId) (fn : Gs → Int32 → Int32 → Int32 → Option (Int32 × Gs)) : Prop :=
  ∀ {p : Program} {e : Env} {s : State} {m : MethodId} {args : Array Value} {below : List Frame} {meth : Method} {c : Code} {H : Heap} {locs : List Loc} {A : Nat → Prop} {ls : Array Slot} {gT : Gs} {v1 : Int32} {v2 : Int32} {v3 : Int32} {q : Int32 × Gs}, Cx p s m args meth c cX12_goes (some .boolean) 5 RX12 lw_all → Hx D (tX12 yT) A s H locs (wX12 hT aT yT gT) → lv_has ls 5 [(0, .ref hT), (1, .int v1), (2, .int v2), (3, .int v3)] → fn gT v1 v2 v3 = some q → W p l e R_X12_goes s m args below meth c H locs 0 0 (MQ below (QI D A (wX12 hT aT yT q.2) q.1) args s 0 0 A) (F0 m 133 ls [])
def S_X12_goes_83 (l : Launch) (D : Dx) (hT : Nat) (aT : Nat → Nat) (yT : Nat → ClassId) (fn : Gs → Int32 → Int32 → Int32 → Option (Int32 × Gs)) : Prop :=
  ∀ {p : Program} {e : Env} {s : State} {m : MethodId} {args : Array Value} {below : List Frame} {meth : Method} {c : Code} {H : Heap} {locs : List Loc} {A : Nat → Prop} {ls : Array Slot} {gT : Gs} {v1 : Int32} {v2 : Int32} {v3 : Int32} {q : Int32 × Gs}, Cx p s m args meth c cX12_goes (some .boolean) 5 RX12 lw_all → Hx D (tX12 yT) A s H locs (wX12 hT aT yT gT) → lv_has ls 5 [(0, .ref hT), (1, .int v1), (2, .int v2), (3, .int v3)] → fn gT v1 v2 v3 = some q → W p l e R_X12_goes s m args below meth c H locs 0 0 (MQ below (QI D A (wX12 hT aT yT q.2) q.1) args s 0 0 A) (F0 m 83 ls [])
def S_X12_goes_75 (l : Launch) (D : Dx) (hT : Nat) (aT : Nat → Nat) (yT : Nat → ClassId) (fn : Gs → Int32 → Int32 → Int32 → Option (Int32 × Gs)) : Prop :=
  ∀ {p : Program} {e : Env} {s : State} {m : MethodId} {args : Array Value} {below : List Frame} {meth : Method} {c : Code} {H : Heap} {locs : List Loc} {A : Nat → Prop} {ls : Array Slot} {gT : Gs} {v1 : Int32} {v2 : Int32} {v3 : Int32} {q : Int32 × Gs}, Cx p s m args meth c cX12_goes (some .boolean) 5 RX12 lw_all → Hx D (tX12 yT) A s H locs (wX12 hT aT yT gT) → lv_has ls 5 [(0, .ref hT), (1, .int v1), (2, .int v2), (3, .int v3)] → fn gT v1 v2 v3 = some q → W p l e R_X12_goes s m args below meth c H locs 0 0 (MQ below (QI D A (wX12 hT aT yT q.2) q.1) args s 0 0 A) (F0 m 75 ls [])
def S_X12_goes_2 (l : Launch) (D : Dx) (hT : Nat) (aT : Nat → Nat) (yT : Nat → ClassId) (fn : Gs → Int32 → Int32 → Int32 → Option (Int32 × Gs)) : Prop :=
  ∀ {p : Program} {e : Env} {s : State} {m : MethodId} {args : Array Value} {below : List Frame} {meth : Method} {c : Code} {H : Heap} {locs : List Loc} {A : Nat → Prop} {ls : Array Slot} {gT : Gs} {v1 : Int32} {v2 : Int32} {v3 : Int32} {q : Int32 × Gs}, Cx p s m args meth c cX12_goes (some .boolean) 5 RX12 lw_all → Hx D (tX12 yT) A s H locs (wX12 hT aT yT gT) → lv_has ls 5 [(0, .ref hT), (1, .int v1), (2, .int v2), (3, .int v3)] → fn gT v1 v2 v3 = some q → W p l e R_X12_goes s m args below meth c H locs 0 0 (MQ below (QI D A (wX12 hT aT yT q.2) q.1) args s 0 0 A) (F0 m 2 ls [])
def SH_X12_goes (l : Launch) (D : Dx) (hT : Nat) (aT : Nat → Nat) (yT : Nat → ClassId) (rec : (Gs → Int32 → Int32 → Int32 → Option (Int32 × Gs)) × (Gs → Int32 → Int32 → Int32 → Option (Int32 × Gs)) × (Gs → Int32 → Int32 → Int32 → Option (Int32 × Gs)) × (Gs → Int32 → Int32 → Int32 → Option (Int32 × Gs)) × (Gs → Int32 → Int32 → Int32 → Option (Int32 × Gs))) : Prop := S_X12_goes_2 l D hT aT yT rec.1 ∧ S_X12_goes_83 l D hT aT yT rec.2.1 ∧ S_X12_goes_141 l D hT aT yT rec.2.2.1 ∧ S_X12_goes_259 l D hT aT yT rec.2.2.2.1 ∧ S_X12_goes_314 l D hT aT yT rec.2.2.2.2
set_option maxHeartbeats 4000000 in
set_option maxRecDepth 100000 in
theorem k_X12_goes_387 (l : Launch) (D : Dx) (hT : Nat) (aT : Nat → Nat) (yT : Nat → ClassId) (n : Nat) (rec : (Gs → Int32 → Int32 → Int32 → Option (Int32 × Gs)) × (Gs → Int32 → Int32 → Int32 → Option (Int32 × Gs)) × (Gs → Int32 → Int32 → Int32 → Option (Int32 × Gs)) × (Gs → Int32 → Int32 → Int32 → Option (Int32 × Gs)) × (Gs → Int32 → Int32 → Int32 → Option (Int32 × Gs))) (IH : SH_X12_goes l D hT aT yT rec) : S_X12_goes_387 l D hT aT yT (b_X12_goes_387 n rec) := by
  intro p e s m args below meth c H locs A ls gT v1 v2 v3 q C X hl hF
  obtain ⟨hx, hb, hr, hml, hown, hts, hlk⟩ := id C
  unfold b_X12_goes_387 at hF
  refine lv_iinc (v := v3 + (1 : Int32)) (lv' := [(3, .int (v3 + (1 : Int32))), (0, .ref hT), (1, .int v1), (2, .int v2)]) hx hb dX12_goes_387 hl (k := 3) rfl rfl (by decide) rfl (fun ls hl => ?_)
  refine lv_goto (tgt := 314) hx hb dX12_goes_390 (by decide) ?_
  exact IH.2.2.2.2 C X (lv_sub hl [1, 2, 3, 0] rfl) hF
set_option maxHeartbeats 4000000 in
set_option maxRecDepth 100000 in
theorem k_X12_goes_314 (l : Launch) (D : Dx) (hT : Nat) (aT : Nat → Nat) (yT : Nat → ClassId) (n : Nat) (rec : (Gs → Int32 → Int32 → Int32 → Option (Int32 × Gs)) × (Gs → Int32 → Int32 → Int32 → Option (Int32 × Gs)) × (Gs → Int32 → Int32 → Int32 → Option (Int32 × Gs)) × (Gs → Int32 → Int32 → Int32 → Option (Int32 × Gs)) × (Gs → Int32 → Int32 → Int32 → Option (Int32 × Gs))) (IH : SH_X12_goes l D hT aT yT rec) : S_X12_goes_314 l D hT aT yT (h_X12_goes_314 n rec) := by
  intro p e s m args below meth c H locs A ls gT v1 v2 v3 q C X hl hF
  obtain ⟨hx, hb, hr, hml, hown, hts, hlk⟩ := id C
  unfold h_X12_goes_314 at hF
  refine lv_iload_n hx hb dX12_goes_314 rfl (lv_at hl 3 rfl) ?_
  refine lv_bipush (v := (64 : Int32)) hx hb dX12_goes_315 (by decide) ?_
  refine lv_icmp_ge (tgt := 393) hx hb dX12_goes_317 (by decide) (fun c => ?_) (fun c => ?_)
  · replace hF := iT c hF
    refine lv_iconst (v := (1 : Int32)) hx hb dX12_goes_393 (by decide) ?_
    have hq := Option.some.inj hF
    subst hq
    exact rt_z (v := (1 : Int32)) C X (by decide) dX12_goes_394
  · replace hF := iF c hF
    refine lv_bipush (v := (64 : Int32)) hx hb dX12_goes_320 (by decide) ?_
    refine lv_iload_n hx hb dX12_goes_322 rfl (lv_at hl 1 rfl) ?_
    refine lv_imul hx hb dX12_goes_323 ?_
    refine lv_iload_n hx hb dX12_goes_324 rfl (lv_at hl 3 rfl) ?_
    refine lv_iadd hx hb dX12_goes_325 ?_
    refine lv_istore (lv' := [(4, .int (((64 : Int32) * v1) + v3)), (0, .ref hT), (1, .int v1), (2, .int v2), (3, .int v3)]) hx hb dX12_goes_326 hl (by decide) rfl (fun ls hl => ?_)
    refine lv_iload_n hx hb dX12_goes_328 rfl (lv_at hl 3 rfl) ?_
    refine lv_if_eq (tgt := 361) hx hb dX12_goes_329 (by decide) (fun c => ?_) (fun c => ?_)
    · replace hF := iT c hF
      refine lv_aload_n hx hb dX12_goes_361 rfl (lv_at hl 1 rfl) ?_
      refine va_get (D := D.1) (ci := 12) (v := .ref (aT 89)) (C := RX12) (T := TX12) (N := 114) hx hb hts wi_X12 hown X.1 X.2.1 0 rfl rfl 89 (by decide) (hts _ q7_43) (fun _ h9 => h9) (fl_get (by decide)) dX12_goes_362 ?_
      refine lv_iload_n hx hb dX12_goes_365 rfl (lv_at hl 4 rfl) ?_
      refine lv_aload_n hx hb dX12_goes_366 rfl (lv_at hl 1 rfl) ?_
      refine va_get (D := D.1) (ci := 12) (v := .ref (aT 111)) (C := RX12) (T := TX12) (N := 114) hx hb hts wi_X12 hown X.1 X.2.1 0 rfl rfl 111 (by decide) (hts _ q7_65) (fun _ h9 => h9) (fl_get (by decide)) dX12_goes_367 ?_
      refine lv_iload hx hb dX12_goes_370 (lv_at hl 0 rfl) ?_
      obtain ⟨h_1, hF⟩ := grd_some hF
      refine va_lald (D := D.1) (f := gLA gT 111) hx hb X.1 X.2.1 75 74 rfl rfl (inB_ok h_1) dX12_goes_372 ?_
      obtain ⟨h_2, hF⟩ := grd_some hF
      refine va_last (D := D.1) (f := gLA gT 89) hx hb X.1 X.2.1 X.2.2.1 X.2.2.2.1 61 60 rfl rfl (inB_ok h_2) dX12_goes_373 (fun H locs hP hD hS => ?_)
      have X : Hx D (tX12 yT) A s H locs (wX12 hT aT yT (sLA gT 89 (vp_updL (gLA gT 89) v3.toNatClampNeg (gLA gT 111 (((64 : Int32) * v1) + v3).toNatClampNeg)))) := Hx_set X (wG_sLA (i := 60) (k := 89) ndX12 rfl rfl) hP hD hS
      refine lv_aload_n hx hb dX12_goes_374 rfl (lv_at hl 1 rfl) ?_
      refine va_get (D := D.1) (ci := 12) (v := .ref (aT 90)) (C := RX12) (T := TX12) (N := 114) hx hb hts wi_X12 hown X.1 X.2.1 0 rfl rfl 90 (by decide) (hts _ q7_44) (fun _ h9 => h9) (fl_get (by decide)) dX12_goes_375 ?_
      refine lv_iload_n hx hb dX12_goes_378 rfl (lv_at hl 4 rfl) ?_
      refine lv_aload_n hx hb dX12_goes_379 rfl (lv_at hl 1 rfl) ?_
      refine va_get (D := D.1) (ci := 12) (v := .ref (aT 112)) (C := RX12) (T := TX12) (N := 114) hx hb hts wi_X12 hown X.1 X.2.1 0 rfl rfl 112 (by decide) (hts _ q7_66) (fun _ h9 => h9) (fl_get (by decide)) dX12_goes_380 ?_
      refine lv_iload hx hb dX12_goes_383 (lv_at hl 0 rfl) ?_
      obtain ⟨h_3, hF⟩ := grd_some hF
      refine va_iald (D := D.1) (f := gIA gT 112) hx hb X.1 X.2.1 76 75 rfl rfl (inB_ok h_3) dX12_goes_385 ?_
      obtain ⟨h_4, hF⟩ := grd_some hF
      refine va_iast (D := D.1) (f := gIA gT 90) hx hb X.1 X.2.1 X.2.2.1 X.2.2.2.1 62 61 rfl rfl (inB_ok h_4) dX12_goes_386 (fun H locs hP hD hS => ?_)
      have X : Hx D (tX12 yT) A s H locs (wX12 hT aT yT (sIA (sLA gT 89 (vp_updL (gLA gT 89) v3.toNatClampNeg (gLA gT 111 (((64 : Int32) * v1) + v3).toNatClampNeg))) 90 (upd (gIA gT 90) v3.toNatClampNeg (gIA gT 112 (((64 : Int32) * v1) + v3).toNatClampNeg)))) := Hx_set X (wG_sIA (i := 61) (k := 90) ndX12 rfl rfl) hP hD hS
      exact (k_X12_goes_387 l D hT aT yT n rec IH) C X (lv_sub hl [1, 2, 3, 4] rfl) hF
    · replace hF := iF c hF
      refine lv_aload_n hx hb dX12_goes_332 rfl (lv_at hl 1 rfl) ?_
      refine va_get (D := D.1) (ci := 12) (v := .ref (aT 111)) (C := RX12) (T := TX12) (N := 114) hx hb hts wi_X12 hown X.1 X.2.1 0 rfl rfl 111 (by decide) (hts _ q7_65) (fun _ h9 => h9) (fl_get (by decide)) dX12_goes_333 ?_
      refine lv_iload hx hb dX12_goes_336 (lv_at hl 0 rfl) ?_
      refine lv_aload_n hx hb dX12_goes_338 rfl (lv_at hl 1 rfl) ?_
      refine va_get (D := D.1) (ci := 12) (v := .ref (aT 89)) (C := RX12) (T := TX12) (N := 114) hx hb hts wi_X12 hown X.1 X.2.1 0 rfl rfl 89 (by decide) (hts _ q7_43) (fun _ h9 => h9) (fl_get (by decide)) dX12_goes_339 ?_
      refine lv_iload_n hx hb dX12_goes_342 rfl (lv_at hl 4 rfl) ?_
      obtain ⟨h_5, hF⟩ := grd_some hF
      refine va_lald (D := D.1) (f := gLA gT 89) hx hb X.1 X.2.1 61 60 rfl rfl (inB_ok h_5) dX12_goes_343 ?_
      obtain ⟨h_6, hF⟩ := grd_some hF
      refine va_last (D := D.1) (f := gLA gT 111) hx hb X.1 X.2.1 X.2.2.1 X.2.2.2.1 75 74 rfl rfl (inB_ok h_6) dX12_goes_344 (fun H locs hP hD hS => ?_)
      have X : Hx D (tX12 yT) A s H locs (wX12 hT aT yT (sLA gT 111 (vp_updL (gLA gT 111) (((64 : Int32) * v1) + v3).toNatClampNeg (gLA gT 89 v3.toNatClampNeg)))) := Hx_set X (wG_sLA (i := 74) (k := 111) ndX12 rfl rfl) hP hD hS
      refine lv_aload_n hx hb dX12_goes_345 rfl (lv_at hl 1 rfl) ?_
      refine va_get (D := D.1) (ci := 12) (v := .ref (aT 112)) (C := RX12) (T := TX12) (N := 114) hx hb hts wi_X12 hown X.1 X.2.1 0 rfl rfl 112 (by decide) (hts _ q7_66) (fun _ h9 => h9) (fl_get (by decide)) dX12_goes_346 ?_
      refine lv_iload hx hb dX12_goes_349 (lv_at hl 0 rfl) ?_
      refine lv_aload_n hx hb dX12_goes_351 rfl (lv_at hl 1 rfl) ?_
      refine va_get (D := D.1) (ci := 12) (v := .ref (aT 90)) (C := RX12) (T := TX12) (N := 114) hx hb hts wi_X12 hown X.1 X.2.1 0 rfl rfl 90 (by decide) (hts _ q7_44) (fun _ h9 => h9) (fl_get (by decide)) dX12_goes_352 ?_
      refine lv_iload_n hx hb dX12_goes_355 rfl (lv_at hl 4 rfl) ?_
      obtain ⟨h_7, hF⟩ := grd_some hF
      refine va_iald (D := D.1) (f := gIA gT 90) hx hb X.1 X.2.1 62 61 rfl rfl (inB_ok h_7) dX12_goes_356 ?_
      obtain ⟨h_8, hF⟩ := grd_some hF
      refine va_iast (D := D.1) (f := gIA gT 112) hx hb X.1 X.2.1 X.2.2.1 X.2.2.2.1 76 75 rfl rfl (inB_ok h_8) dX12_goes_357 (fun H locs hP hD hS => ?_)
      have X : Hx D (tX12 yT) A s H locs (wX12 hT aT yT (sIA (sLA gT 111 (vp_updL (gLA gT 111) (((64 : Int32) * v1) + v3).toNatClampNeg (gLA gT 89 v3.toNatClampNeg))) 112 (upd (gIA gT 112) (((64 : Int32) * v1) + v3).toNatClampNeg (gIA gT 90 v3.toNatClampNeg)))) := Hx_set X (wG_sIA (i := 75) (k := 112) ndX12 rfl rfl) hP hD hS
      refine lv_goto (tgt := 387) hx hb dX12_goes_358 (by decide) ?_
      exact (k_X12_goes_387 l D hT aT yT n rec IH) C X (lv_sub hl [1, 2, 3, 4] rfl) hF
set_option maxHeartbeats 4000000 in
set_option maxRecDepth 100000 in
theorem k_X12_goes_306 (l : Launch) (D : Dx) (hT : Nat) (aT : Nat → Nat) (yT : Nat → ClassId) (n : Nat) (rec : (Gs → Int32 → Int32 → Int32 → Option (Int32 × Gs)) × (Gs → Int32 → Int32 → Int32 → Option (Int32 × Gs)) × (Gs → Int32 → Int32 → Int32 → Option (Int32 × Gs)) × (Gs → Int32 → Int32 → Int32 → Option (Int32 × Gs)) × (Gs → Int32 → Int32 → Int32 → Option (Int32 × Gs))) (IH : SH_X12_goes l D hT aT yT rec) : S_X12_goes_306 l D hT aT yT (b_X12_goes_306 n rec) := by
  intro p e s m args below meth c H locs A ls gT v1 v2 v3 q C X hl hF
  obtain ⟨hx, hb, hr, hml, hown, hts, hlk⟩ := id C
  unfold b_X12_goes_306 at hF
  refine lv_iinc (v := v3 + (1 : Int32)) (lv' := [(3, .int (v3 + (1 : Int32))), (0, .ref hT), (1, .int v1), (2, .int v2)]) hx hb dX12_goes_306 hl (k := 3) rfl rfl (by decide) rfl (fun ls hl => ?_)
  refine lv_goto (tgt := 259) hx hb dX12_goes_309 (by decide) ?_
  exact IH.2.2.2.1 C X (lv_sub hl [1, 2, 3, 0] rfl) hF
set_option maxHeartbeats 4000000 in
set_option maxRecDepth 100000 in
theorem k_X12_goes_259 (l : Launch) (D : Dx) (hT : Nat) (aT : Nat → Nat) (yT : Nat → ClassId) (n : Nat) (rec : (Gs → Int32 → Int32 → Int32 → Option (Int32 × Gs)) × (Gs → Int32 → Int32 → Int32 → Option (Int32 × Gs)) × (Gs → Int32 → Int32 → Int32 → Option (Int32 × Gs)) × (Gs → Int32 → Int32 → Int32 → Option (Int32 × Gs)) × (Gs → Int32 → Int32 → Int32 → Option (Int32 × Gs))) (IH : SH_X12_goes l D hT aT yT rec) : S_X12_goes_259 l D hT aT yT (h_X12_goes_259 n rec) := by
  intro p e s m args below meth c H locs A ls gT v1 v2 v3 q C X hl hF
  obtain ⟨hx, hb, hr, hml, hown, hts, hlk⟩ := id C
  unfold h_X12_goes_259 at hF
  refine lv_iload_n hx hb dX12_goes_259 rfl (lv_at hl 3 rfl) ?_
  refine lv_bipush (v := (12 : Int32)) hx hb dX12_goes_260 (by decide) ?_
  refine lv_icmp_ge (tgt := 312) hx hb dX12_goes_262 (by decide) (fun c => ?_) (fun c => ?_)
  · replace hF := iT c hF
    refine lv_iconst (v := (0 : Int32)) hx hb dX12_goes_312 (by decide) ?_
    refine lv_istore_n (lv' := [(3, .int (0 : Int32)), (0, .ref hT), (1, .int v1), (2, .int v2)]) hx hb dX12_goes_313 rfl hl (by decide) rfl (fun ls hl => ?_)
    exact IH.2.2.2.2 C X (lv_sub hl [1, 2, 3, 0] rfl) hF
  · replace hF := iF c hF
    refine lv_iload_n hx hb dX12_goes_265 rfl (lv_at hl 2 rfl) ?_
    refine lv_if_eq (tgt := 289) hx hb dX12_goes_266 (by decide) (fun c => ?_) (fun c => ?_)
    · replace hF := iT c hF
      refine lv_aload_n hx hb dX12_goes_289 rfl (lv_at hl 0 rfl) ?_
      refine va_get (D := D.1) (ci := 12) (v := .ref (aT 86)) (C := RX12) (T := TX12) (N := 114) hx hb hts wi_X12 hown X.1 X.2.1 0 rfl rfl 86 (by decide) (hts _ q7_40) (fun _ h9 => h9) (fl_get (by decide)) dX12_goes_290 ?_
      refine lv_iload_n hx hb dX12_goes_293 rfl (lv_at hl 3 rfl) ?_
      refine lv_aload_n hx hb dX12_goes_294 rfl (lv_at hl 0 rfl) ?_
      refine va_get (D := D.1) (ci := 12) (v := .ref (aT 108)) (C := RX12) (T := TX12) (N := 114) hx hb hts wi_X12 hown X.1 X.2.1 0 rfl rfl 108 (by decide) (hts _ q7_62) (fun _ h9 => h9) (fl_get (by decide)) dX12_goes_295 ?_
      refine lv_bipush (v := (12 : Int32)) hx hb dX12_goes_298 (by decide) ?_
      refine lv_iload_n hx hb dX12_goes_300 rfl (lv_at hl 1 rfl) ?_
      refine lv_imul hx hb dX12_goes_301 ?_
      refine lv_iload_n hx hb dX12_goes_302 rfl (lv_at hl 3 rfl) ?_
      refine lv_iadd hx hb dX12_goes_303 ?_
      obtain ⟨h_9, hF⟩ := grd_some hF
      refine va_iald (D := D.1) (f := gIA gT 108) hx hb X.1 X.2.1 72 71 rfl rfl (inB_ok h_9) dX12_goes_304 ?_
      obtain ⟨h_10, hF⟩ := grd_some hF
      refine va_iast (D := D.1) (f := gIA gT 86) hx hb X.1 X.2.1 X.2.2.1 X.2.2.2.1 60 59 rfl rfl (inB_ok h_10) dX12_goes_305 (fun H locs hP hD hS => ?_)
      have X : Hx D (tX12 yT) A s H locs (wX12 hT aT yT (sIA gT 86 (upd (gIA gT 86) v3.toNatClampNeg (gIA gT 108 (((12 : Int32) * v1) + v3).toNatClampNeg)))) := Hx_set X (wG_sIA (i := 59) (k := 86) ndX12 rfl rfl) hP hD hS
      exact (k_X12_goes_306 l D hT aT yT n rec IH) C X (lv_sub hl [0, 1, 2, 3] rfl) hF
    · replace hF := iF c hF
      refine lv_aload_n hx hb dX12_goes_269 rfl (lv_at hl 0 rfl) ?_
      refine va_get (D := D.1) (ci := 12) (v := .ref (aT 108)) (C := RX12) (T := TX12) (N := 114) hx hb hts wi_X12 hown X.1 X.2.1 0 rfl rfl 108 (by decide) (hts _ q7_62) (fun _ h9 => h9) (fl_get (by decide)) dX12_goes_270 ?_
      refine lv_bipush (v := (12 : Int32)) hx hb dX12_goes_273 (by decide) ?_
      refine lv_iload_n hx hb dX12_goes_275 rfl (lv_at hl 1 rfl) ?_
      refine lv_imul hx hb dX12_goes_276 ?_
      refine lv_iload_n hx hb dX12_goes_277 rfl (lv_at hl 3 rfl) ?_
      refine lv_iadd hx hb dX12_goes_278 ?_
      refine lv_aload_n hx hb dX12_goes_279 rfl (lv_at hl 0 rfl) ?_
      refine va_get (D := D.1) (ci := 12) (v := .ref (aT 86)) (C := RX12) (T := TX12) (N := 114) hx hb hts wi_X12 hown X.1 X.2.1 0 rfl rfl 86 (by decide) (hts _ q7_40) (fun _ h9 => h9) (fl_get (by decide)) dX12_goes_280 ?_
      refine lv_iload_n hx hb dX12_goes_283 rfl (lv_at hl 3 rfl) ?_
      obtain ⟨h_11, hF⟩ := grd_some hF
      refine va_iald (D := D.1) (f := gIA gT 86) hx hb X.1 X.2.1 60 59 rfl rfl (inB_ok h_11) dX12_goes_284 ?_
      obtain ⟨h_12, hF⟩ := grd_some hF
      refine va_iast (D := D.1) (f := gIA gT 108) hx hb X.1 X.2.1 X.2.2.1 X.2.2.2.1 72 71 rfl rfl (inB_ok h_12) dX12_goes_285 (fun H locs hP hD hS => ?_)
      have X : Hx D (tX12 yT) A s H locs (wX12 hT aT yT (sIA gT 108 (upd (gIA gT 108) (((12 : Int32) * v1) + v3).toNatClampNeg (gIA gT 86 v3.toNatClampNeg)))) := Hx_set X (wG_sIA (i := 71) (k := 108) ndX12 rfl rfl) hP hD hS
      refine lv_goto (tgt := 306) hx hb dX12_goes_286 (by decide) ?_
      exact (k_X12_goes_306 l D hT aT yT n rec IH) C X (lv_sub hl [0, 1, 2, 3] rfl) hF
set_option maxHeartbeats 4000000 in
set_option maxRecDepth 100000 in
theorem k_X12_goes_251 (l : Launch) (D : Dx) (hT : Nat) (aT : Nat → Nat) (yT : Nat → ClassId) (n : Nat) (rec : (Gs → Int32 → Int32 → Int32 → Option (Int32 × Gs)) × (Gs → Int32 → Int32 → Int32 → Option (Int32 × Gs)) × (Gs → Int32 → Int32 → Int32 → Option (Int32 × Gs)) × (Gs → Int32 → Int32 → Int32 → Option (Int32 × Gs)) × (Gs → Int32 → Int32 → Int32 → Option (Int32 × Gs))) (IH : SH_X12_goes l D hT aT yT rec) : S_X12_goes_251 l D hT aT yT (b_X12_goes_251 n rec) := by
  intro p e s m args below meth c H locs A ls gT v1 v2 v3 q C X hl hF
  obtain ⟨hx, hb, hr, hml, hown, hts, hlk⟩ := id C
  unfold b_X12_goes_251 at hF
  refine lv_iinc (v := v3 + (1 : Int32)) (lv' := [(3, .int (v3 + (1 : Int32))), (0, .ref hT), (1, .int v1), (2, .int v2)]) hx hb dX12_goes_251 hl (k := 3) rfl rfl (by decide) rfl (fun ls hl => ?_)
  refine lv_goto (tgt := 141) hx hb dX12_goes_254 (by decide) ?_
  exact IH.2.2.1 C X (lv_sub hl [1, 2, 3, 0] rfl) hF
set_option maxHeartbeats 4000000 in
set_option maxRecDepth 100000 in
theorem k_X12_goes_141 (l : Launch) (D : Dx) (hT : Nat) (aT : Nat → Nat) (yT : Nat → ClassId) (n : Nat) (rec : (Gs → Int32 → Int32 → Int32 → Option (Int32 × Gs)) × (Gs → Int32 → Int32 → Int32 → Option (Int32 × Gs)) × (Gs → Int32 → Int32 → Int32 → Option (Int32 × Gs)) × (Gs → Int32 → Int32 → Int32 → Option (Int32 × Gs)) × (Gs → Int32 → Int32 → Int32 → Option (Int32 × Gs))) (IH : SH_X12_goes l D hT aT yT rec) : S_X12_goes_141 l D hT aT yT (h_X12_goes_141 n rec) := by
  intro p e s m args below meth c H locs A ls gT v1 v2 v3 q C X hl hF
  obtain ⟨hx, hb, hr, hml, hown, hts, hlk⟩ := id C
  unfold h_X12_goes_141 at hF
  refine lv_iload_n hx hb dX12_goes_141 rfl (lv_at hl 3 rfl) ?_
  refine lv_bipush (v := (52 : Int32)) hx hb dX12_goes_142 (by decide) ?_
  refine lv_icmp_ge (tgt := 257) hx hb dX12_goes_144 (by decide) (fun c => ?_) (fun c => ?_)
  · replace hF := iT c hF
    refine lv_iconst (v := (0 : Int32)) hx hb dX12_goes_257 (by decide) ?_
    refine lv_istore_n (lv' := [(3, .int (0 : Int32)), (0, .ref hT), (1, .int v1), (2, .int v2)]) hx hb dX12_goes_258 rfl hl (by decide) rfl (fun ls hl => ?_)
    exact IH.2.2.2.1 C X (lv_sub hl [1, 2, 3, 0] rfl) hF
  · replace hF := iF c hF
    refine lv_sipush (v := (156 : Int32)) hx hb dX12_goes_147 (by decide) ?_
    refine lv_iload_n hx hb dX12_goes_150 rfl (lv_at hl 1 rfl) ?_
    refine lv_imul hx hb dX12_goes_151 ?_
    refine lv_iconst (v := (3 : Int32)) hx hb dX12_goes_152 (by decide) ?_
    refine lv_iload_n hx hb dX12_goes_153 rfl (lv_at hl 3 rfl) ?_
    refine lv_imul hx hb dX12_goes_154 ?_
    refine lv_iadd hx hb dX12_goes_155 ?_
    refine lv_istore (lv' := [(4, .int (((156 : Int32) * v1) + ((3 : Int32) * v3))), (0, .ref hT), (1, .int v1), (2, .int v2), (3, .int v3)]) hx hb dX12_goes_156 hl (by decide) rfl (fun ls hl => ?_)
    refine lv_iload_n hx hb dX12_goes_158 rfl (lv_at hl 3 rfl) ?_
    refine lv_if_eq (tgt := 208) hx hb dX12_goes_159 (by decide) (fun c => ?_) (fun c => ?_)
    · replace hF := iT c hF
      refine lv_aload_n hx hb dX12_goes_208 rfl (lv_at hl 1 rfl) ?_
      refine va_get (D := D.1) (ci := 12) (v := .ref (aT 83)) (C := RX12) (T := TX12) (N := 114) hx hb hts wi_X12 hown X.1 X.2.1 0 rfl rfl 83 (by decide) (hts _ q7_37) (fun _ h9 => h9) (fl_get (by decide)) dX12_goes_209 ?_
      refine lv_iload_n hx hb dX12_goes_212 rfl (lv_at hl 4 rfl) ?_
      refine lv_aload_n hx hb dX12_goes_213 rfl (lv_at hl 1 rfl) ?_
      refine va_get (D := D.1) (ci := 12) (v := .ref (aT 107)) (C := RX12) (T := TX12) (N := 114) hx hb hts wi_X12 hown X.1 X.2.1 0 rfl rfl 107 (by decide) (hts _ q7_61) (fun _ h9 => h9) (fl_get (by decide)) dX12_goes_214 ?_
      refine lv_iload hx hb dX12_goes_217 (lv_at hl 0 rfl) ?_
      obtain ⟨h_13, hF⟩ := grd_some hF
      refine va_iald (D := D.1) (f := gIA gT 107) hx hb X.1 X.2.1 71 70 rfl rfl (inB_ok h_13) dX12_goes_219 ?_
      obtain ⟨h_14, hF⟩ := grd_some hF
      refine va_iast (D := D.1) (f := gIA gT 83) hx hb X.1 X.2.1 X.2.2.1 X.2.2.2.1 57 56 rfl rfl (inB_ok h_14) dX12_goes_220 (fun H locs hP hD hS => ?_)
      have X : Hx D (tX12 yT) A s H locs (wX12 hT aT yT (sIA gT 83 (upd (gIA gT 83) v3.toNatClampNeg (gIA gT 107 (((156 : Int32) * v1) + ((3 : Int32) * v3)).toNatClampNeg)))) := Hx_set X (wG_sIA (i := 56) (k := 83) ndX12 rfl rfl) hP hD hS
      refine lv_aload_n hx hb dX12_goes_221 rfl (lv_at hl 1 rfl) ?_
      refine va_get (D := D.1) (ci := 12) (v := .ref (aT 84)) (C := RX12) (T := TX12) (N := 114) hx hb hts wi_X12 hown X.1 X.2.1 0 rfl rfl 84 (by decide) (hts _ q7_38) (fun _ h9 => h9) (fl_get (by decide)) dX12_goes_222 ?_
      refine lv_iload_n hx hb dX12_goes_225 rfl (lv_at hl 4 rfl) ?_
      refine lv_aload_n hx hb dX12_goes_226 rfl (lv_at hl 1 rfl) ?_
      refine va_get (D := D.1) (ci := 12) (v := .ref (aT 107)) (C := RX12) (T := TX12) (N := 114) hx hb hts wi_X12 hown X.1 X.2.1 0 rfl rfl 107 (by decide) (hts _ q7_61) (fun _ h9 => h9) (fl_get (by decide)) dX12_goes_227 ?_
      refine lv_iload hx hb dX12_goes_230 (lv_at hl 0 rfl) ?_
      refine lv_iconst (v := (1 : Int32)) hx hb dX12_goes_232 (by decide) ?_
      refine lv_iadd hx hb dX12_goes_233 ?_
      obtain ⟨h_15, hF⟩ := grd_some hF
      refine va_iald (D := D.1) (f := gIA gT 107) hx hb X.1 X.2.1 71 70 rfl rfl (inB_ok h_15) dX12_goes_234 ?_
      obtain ⟨h_16, hF⟩ := grd_some hF
      refine va_iast (D := D.1) (f := gIA gT 84) hx hb X.1 X.2.1 X.2.2.1 X.2.2.2.1 58 57 rfl rfl (inB_ok h_16) dX12_goes_235 (fun H locs hP hD hS => ?_)
      have X : Hx D (tX12 yT) A s H locs (wX12 hT aT yT (sIA (sIA gT 83 (upd (gIA gT 83) v3.toNatClampNeg (gIA gT 107 (((156 : Int32) * v1) + ((3 : Int32) * v3)).toNatClampNeg))) 84 (upd (gIA gT 84) v3.toNatClampNeg (gIA gT 107 ((((156 : Int32) * v1) + ((3 : Int32) * v3)) + (1 : Int32)).toNatClampNeg)))) := Hx_set X (wG_sIA (i := 57) (k := 84) ndX12 rfl rfl) hP hD hS
      refine lv_aload_n hx hb dX12_goes_236 rfl (lv_at hl 1 rfl) ?_
      refine va_get (D := D.1) (ci := 12) (v := .ref (aT 85)) (C := RX12) (T := TX12) (N := 114) hx hb hts wi_X12 hown X.1 X.2.1 0 rfl rfl 85 (by decide) (hts _ q7_39) (fun _ h9 => h9) (fl_get (by decide)) dX12_goes_237 ?_
      refine lv_iload_n hx hb dX12_goes_240 rfl (lv_at hl 4 rfl) ?_
      refine lv_aload_n hx hb dX12_goes_241 rfl (lv_at hl 1 rfl) ?_
      refine va_get (D := D.1) (ci := 12) (v := .ref (aT 107)) (C := RX12) (T := TX12) (N := 114) hx hb hts wi_X12 hown X.1 X.2.1 0 rfl rfl 107 (by decide) (hts _ q7_61) (fun _ h9 => h9) (fl_get (by decide)) dX12_goes_242 ?_
      refine lv_iload hx hb dX12_goes_245 (lv_at hl 0 rfl) ?_
      refine lv_iconst (v := (2 : Int32)) hx hb dX12_goes_247 (by decide) ?_
      refine lv_iadd hx hb dX12_goes_248 ?_
      obtain ⟨h_17, hF⟩ := grd_some hF
      refine va_iald (D := D.1) (f := gIA gT 107) hx hb X.1 X.2.1 71 70 rfl rfl (inB_ok h_17) dX12_goes_249 ?_
      obtain ⟨h_18, hF⟩ := grd_some hF
      refine va_iast (D := D.1) (f := gIA gT 85) hx hb X.1 X.2.1 X.2.2.1 X.2.2.2.1 59 58 rfl rfl (inB_ok h_18) dX12_goes_250 (fun H locs hP hD hS => ?_)
      have X : Hx D (tX12 yT) A s H locs (wX12 hT aT yT (sIA (sIA (sIA gT 83 (upd (gIA gT 83) v3.toNatClampNeg (gIA gT 107 (((156 : Int32) * v1) + ((3 : Int32) * v3)).toNatClampNeg))) 84 (upd (gIA gT 84) v3.toNatClampNeg (gIA gT 107 ((((156 : Int32) * v1) + ((3 : Int32) * v3)) + (1 : Int32)).toNatClampNeg))) 85 (upd (gIA gT 85) v3.toNatClampNeg (gIA gT 107 ((((156 : Int32) * v1) + ((3 : Int32) * v3)) + (2 : Int32)).toNatClampNeg)))) := Hx_set X (wG_sIA (i := 58) (k := 85) ndX12 rfl rfl) hP hD hS
      exact (k_X12_goes_251 l D hT aT yT n rec IH) C X (lv_sub hl [1, 2, 3, 4] rfl) hF
    · replace hF := iF c hF
      refine lv_aload_n hx hb dX12_goes_162 rfl (lv_at hl 1 rfl) ?_
      refine va_get (D := D.1) (ci := 12) (v := .ref (aT 107)) (C := RX12) (T := TX12) (N := 114) hx hb hts wi_X12 hown X.1 X.2.1 0 rfl rfl 107 (by decide) (hts _ q7_61) (fun _ h9 => h9) (fl_get (by decide)) dX12_goes_163 ?_
      refine lv_iload hx hb dX12_goes_166 (lv_at hl 0 rfl) ?_
      refine lv_aload_n hx hb dX12_goes_168 rfl (lv_at hl 1 rfl) ?_
      refine va_get (D := D.1) (ci := 12) (v := .ref (aT 83)) (C := RX12) (T := TX12) (N := 114) hx hb hts wi_X12 hown X.1 X.2.1 0 rfl rfl 83 (by decide) (hts _ q7_37) (fun _ h9 => h9) (fl_get (by decide)) dX12_goes_169 ?_
      refine lv_iload_n hx hb dX12_goes_172 rfl (lv_at hl 4 rfl) ?_
      obtain ⟨h_19, hF⟩ := grd_some hF
      refine va_iald (D := D.1) (f := gIA gT 83) hx hb X.1 X.2.1 57 56 rfl rfl (inB_ok h_19) dX12_goes_173 ?_
      obtain ⟨h_20, hF⟩ := grd_some hF
      refine va_iast (D := D.1) (f := gIA gT 107) hx hb X.1 X.2.1 X.2.2.1 X.2.2.2.1 71 70 rfl rfl (inB_ok h_20) dX12_goes_174 (fun H locs hP hD hS => ?_)
      have X : Hx D (tX12 yT) A s H locs (wX12 hT aT yT (sIA gT 107 (upd (gIA gT 107) (((156 : Int32) * v1) + ((3 : Int32) * v3)).toNatClampNeg (gIA gT 83 v3.toNatClampNeg)))) := Hx_set X (wG_sIA (i := 70) (k := 107) ndX12 rfl rfl) hP hD hS
      refine lv_aload_n hx hb dX12_goes_175 rfl (lv_at hl 1 rfl) ?_
      refine va_get (D := D.1) (ci := 12) (v := .ref (aT 107)) (C := RX12) (T := TX12) (N := 114) hx hb hts wi_X12 hown X.1 X.2.1 0 rfl rfl 107 (by decide) (hts _ q7_61) (fun _ h9 => h9) (fl_get (by decide)) dX12_goes_176 ?_
      refine lv_iload hx hb dX12_goes_179 (lv_at hl 0 rfl) ?_
      refine lv_iconst (v := (1 : Int32)) hx hb dX12_goes_181 (by decide) ?_
      refine lv_iadd hx hb dX12_goes_182 ?_
      refine lv_aload_n hx hb dX12_goes_183 rfl (lv_at hl 1 rfl) ?_
      refine va_get (D := D.1) (ci := 12) (v := .ref (aT 84)) (C := RX12) (T := TX12) (N := 114) hx hb hts wi_X12 hown X.1 X.2.1 0 rfl rfl 84 (by decide) (hts _ q7_38) (fun _ h9 => h9) (fl_get (by decide)) dX12_goes_184 ?_
      refine lv_iload_n hx hb dX12_goes_187 rfl (lv_at hl 4 rfl) ?_
      obtain ⟨h_21, hF⟩ := grd_some hF
      refine va_iald (D := D.1) (f := gIA gT 84) hx hb X.1 X.2.1 58 57 rfl rfl (inB_ok h_21) dX12_goes_188 ?_
      obtain ⟨h_22, hF⟩ := grd_some hF
      refine va_iast (D := D.1) (f := upd (gIA gT 107) (((156 : Int32) * v1) + ((3 : Int32) * v3)).toNatClampNeg (gIA gT 83 v3.toNatClampNeg)) hx hb X.1 X.2.1 X.2.2.1 X.2.2.2.1 71 70 rfl rfl (inB_ok h_22) dX12_goes_189 (fun H locs hP hD hS => ?_)
      have X : Hx D (tX12 yT) A s H locs (wX12 hT aT yT (sIA (sIA gT 107 (upd (gIA gT 107) (((156 : Int32) * v1) + ((3 : Int32) * v3)).toNatClampNeg (gIA gT 83 v3.toNatClampNeg))) 107 (upd (upd (gIA gT 107) (((156 : Int32) * v1) + ((3 : Int32) * v3)).toNatClampNeg (gIA gT 83 v3.toNatClampNeg)) ((((156 : Int32) * v1) + ((3 : Int32) * v3)) + (1 : Int32)).toNatClampNeg (gIA gT 84 v3.toNatClampNeg)))) := Hx_set X (wG_sIA (i := 70) (k := 107) ndX12 rfl rfl) hP hD hS
      refine lv_aload_n hx hb dX12_goes_190 rfl (lv_at hl 1 rfl) ?_
      refine va_get (D := D.1) (ci := 12) (v := .ref (aT 107)) (C := RX12) (T := TX12) (N := 114) hx hb hts wi_X12 hown X.1 X.2.1 0 rfl rfl 107 (by decide) (hts _ q7_61) (fun _ h9 => h9) (fl_get (by decide)) dX12_goes_191 ?_
      refine lv_iload hx hb dX12_goes_194 (lv_at hl 0 rfl) ?_
      refine lv_iconst (v := (2 : Int32)) hx hb dX12_goes_196 (by decide) ?_
      refine lv_iadd hx hb dX12_goes_197 ?_
      refine lv_aload_n hx hb dX12_goes_198 rfl (lv_at hl 1 rfl) ?_
      refine va_get (D := D.1) (ci := 12) (v := .ref (aT 85)) (C := RX12) (T := TX12) (N := 114) hx hb hts wi_X12 hown X.1 X.2.1 0 rfl rfl 85 (by decide) (hts _ q7_39) (fun _ h9 => h9) (fl_get (by decide)) dX12_goes_199 ?_
      refine lv_iload_n hx hb dX12_goes_202 rfl (lv_at hl 4 rfl) ?_
      obtain ⟨h_23, hF⟩ := grd_some hF
      refine va_iald (D := D.1) (f := gIA gT 85) hx hb X.1 X.2.1 59 58 rfl rfl (inB_ok h_23) dX12_goes_203 ?_
      obtain ⟨h_24, hF⟩ := grd_some hF
      refine va_iast (D := D.1) (f := upd (upd (gIA gT 107) (((156 : Int32) * v1) + ((3 : Int32) * v3)).toNatClampNeg (gIA gT 83 v3.toNatClampNeg)) ((((156 : Int32) * v1) + ((3 : Int32) * v3)) + (1 : Int32)).toNatClampNeg (gIA gT 84 v3.toNatClampNeg)) hx hb X.1 X.2.1 X.2.2.1 X.2.2.2.1 71 70 rfl rfl (inB_ok h_24) dX12_goes_204 (fun H locs hP hD hS => ?_)
      have X : Hx D (tX12 yT) A s H locs (wX12 hT aT yT (sIA (sIA (sIA gT 107 (upd (gIA gT 107) (((156 : Int32) * v1) + ((3 : Int32) * v3)).toNatClampNeg (gIA gT 83 v3.toNatClampNeg))) 107 (upd (upd (gIA gT 107) (((156 : Int32) * v1) + ((3 : Int32) * v3)).toNatClampNeg (gIA gT 83 v3.toNatClampNeg)) ((((156 : Int32) * v1) + ((3 : Int32) * v3)) + (1 : Int32)).toNatClampNeg (gIA gT 84 v3.toNatClampNeg))) 107 (upd (upd (upd (gIA gT 107) (((156 : Int32) * v1) + ((3 : Int32) * v3)).toNatClampNeg (gIA gT 83 v3.toNatClampNeg)) ((((156 : Int32) * v1) + ((3 : Int32) * v3)) + (1 : Int32)).toNatClampNeg (gIA gT 84 v3.toNatClampNeg)) ((((156 : Int32) * v1) + ((3 : Int32) * v3)) + (2 : Int32)).toNatClampNeg (gIA gT 85 v3.toNatClampNeg)))) := Hx_set X (wG_sIA (i := 70) (k := 107) ndX12 rfl rfl) hP hD hS
      refine lv_goto (tgt := 251) hx hb dX12_goes_205 (by decide) ?_
      exact (k_X12_goes_251 l D hT aT yT n rec IH) C X (lv_sub hl [1, 2, 3, 4] rfl) hF
set_option maxHeartbeats 4000000 in
set_option maxRecDepth 100000 in
theorem k_X12_goes_133 (l : Launch) (D : Dx) (hT : Nat) (aT : Nat → Nat) (yT : Nat → ClassId) (n : Nat) (rec : (Gs → Int32 → Int32 → Int32 → Option (Int32 × Gs)) × (Gs → Int32 → Int32 → Int32 → Option (Int32 × Gs)) × (Gs → Int32 → Int32 → Int32 → Option (Int32 × Gs)) × (Gs → Int32 → Int32 → Int32 → Option (Int32 × Gs)) × (Gs → Int32 → Int32 → Int32 → Option (Int32 × Gs))) (IH : SH_X12_goes l D hT aT yT rec) : S_X12_goes_133 l D hT aT yT (b_X12_goes_133 n rec) := by
  intro p e s m args below meth c H locs A ls gT v1 v2 v3 q C X hl hF
  obtain ⟨hx, hb, hr, hml, hown, hts, hlk⟩ := id C
  unfold b_X12_goes_133 at hF
  refine lv_iinc (v := v3 + (1 : Int32)) (lv' := [(3, .int (v3 + (1 : Int32))), (0, .ref hT), (1, .int v1), (2, .int v2)]) hx hb dX12_goes_133 hl (k := 3) rfl rfl (by decide) rfl (fun ls hl => ?_)
  refine lv_goto (tgt := 83) hx hb dX12_goes_136 (by decide) ?_
  exact IH.2.1 C X (lv_sub hl [1, 2, 3, 0] rfl) hF
set_option maxHeartbeats 4000000 in
set_option maxRecDepth 100000 in
theorem k_X12_goes_83 (l : Launch) (D : Dx) (hT : Nat) (aT : Nat → Nat) (yT : Nat → ClassId) (n : Nat) (rec : (Gs → Int32 → Int32 → Int32 → Option (Int32 × Gs)) × (Gs → Int32 → Int32 → Int32 → Option (Int32 × Gs)) × (Gs → Int32 → Int32 → Int32 → Option (Int32 × Gs)) × (Gs → Int32 → Int32 → Int32 → Option (Int32 × Gs)) × (Gs → Int32 → Int32 → Int32 → Option (Int32 × Gs))) (IH : SH_X12_goes l D hT aT yT rec) : S_X12_goes_83 l D hT aT yT (h_X12_goes_83 n rec) := by
  intro p e s m args below meth c H locs A ls gT v1 v2 v3 q C X hl hF
  obtain ⟨hx, hb, hr, hml, hown, hts, hlk⟩ := id C
  unfold h_X12_goes_83 at hF
  refine lv_iload_n hx hb dX12_goes_83 rfl (lv_at hl 3 rfl) ?_
  refine lv_sipush (v := (1280 : Int32)) hx hb dX12_goes_84 (by decide) ?_
  refine lv_icmp_ge (tgt := 139) hx hb dX12_goes_87 (by decide) (fun c => ?_) (fun c => ?_)
  · replace hF := iT c hF
    refine lv_iconst (v := (0 : Int32)) hx hb dX12_goes_139 (by decide) ?_
    refine lv_istore_n (lv' := [(3, .int (0 : Int32)), (0, .ref hT), (1, .int v1), (2, .int v2)]) hx hb dX12_goes_140 rfl hl (by decide) rfl (fun ls hl => ?_)
    exact IH.2.2.1 C X (lv_sub hl [1, 2, 3, 0] rfl) hF
  · replace hF := iF c hF
    refine lv_iload_n hx hb dX12_goes_90 rfl (lv_at hl 2 rfl) ?_
    refine lv_if_eq (tgt := 115) hx hb dX12_goes_91 (by decide) (fun c => ?_) (fun c => ?_)
    · replace hF := iT c hF
      refine lv_aload_n hx hb dX12_goes_115 rfl (lv_at hl 0 rfl) ?_
      refine va_get (D := D.1) (ci := 12) (v := .ref (aT 82)) (C := RX12) (T := TX12) (N := 114) hx hb hts wi_X12 hown X.1 X.2.1 0 rfl rfl 82 (by decide) (hts _ q7_36) (fun _ h9 => h9) (fl_get (by decide)) dX12_goes_116 ?_
      refine lv_iload_n hx hb dX12_goes_119 rfl (lv_at hl 3 rfl) ?_
      refine lv_aload_n hx hb dX12_goes_120 rfl (lv_at hl 0 rfl) ?_
      refine va_get (D := D.1) (ci := 12) (v := .ref (aT 106)) (C := RX12) (T := TX12) (N := 114) hx hb hts wi_X12 hown X.1 X.2.1 0 rfl rfl 106 (by decide) (hts _ q7_60) (fun _ h9 => h9) (fl_get (by decide)) dX12_goes_121 ?_
      refine lv_sipush (v := (1280 : Int32)) hx hb dX12_goes_124 (by decide) ?_
      refine lv_iload_n hx hb dX12_goes_127 rfl (lv_at hl 1 rfl) ?_
      refine lv_imul hx hb dX12_goes_128 ?_
      refine lv_iload_n hx hb dX12_goes_129 rfl (lv_at hl 3 rfl) ?_
      refine lv_iadd hx hb dX12_goes_130 ?_
      obtain ⟨h_25, hF⟩ := grd_some hF
      refine va_lald (D := D.1) (f := gLA gT 106) hx hb X.1 X.2.1 70 69 rfl rfl (inB_ok h_25) dX12_goes_131 ?_
      obtain ⟨h_26, hF⟩ := grd_some hF
      refine va_last (D := D.1) (f := gLA gT 82) hx hb X.1 X.2.1 X.2.2.1 X.2.2.2.1 56 55 rfl rfl (inB_ok h_26) dX12_goes_132 (fun H locs hP hD hS => ?_)
      have X : Hx D (tX12 yT) A s H locs (wX12 hT aT yT (sLA gT 82 (vp_updL (gLA gT 82) v3.toNatClampNeg (gLA gT 106 (((1280 : Int32) * v1) + v3).toNatClampNeg)))) := Hx_set X (wG_sLA (i := 55) (k := 82) ndX12 rfl rfl) hP hD hS
      exact (k_X12_goes_133 l D hT aT yT n rec IH) C X (lv_sub hl [0, 1, 2, 3] rfl) hF
    · replace hF := iF c hF
      refine lv_aload_n hx hb dX12_goes_94 rfl (lv_at hl 0 rfl) ?_
      refine va_get (D := D.1) (ci := 12) (v := .ref (aT 106)) (C := RX12) (T := TX12) (N := 114) hx hb hts wi_X12 hown X.1 X.2.1 0 rfl rfl 106 (by decide) (hts _ q7_60) (fun _ h9 => h9) (fl_get (by decide)) dX12_goes_95 ?_
      refine lv_sipush (v := (1280 : Int32)) hx hb dX12_goes_98 (by decide) ?_
      refine lv_iload_n hx hb dX12_goes_101 rfl (lv_at hl 1 rfl) ?_
      refine lv_imul hx hb dX12_goes_102 ?_
      refine lv_iload_n hx hb dX12_goes_103 rfl (lv_at hl 3 rfl) ?_
      refine lv_iadd hx hb dX12_goes_104 ?_
      refine lv_aload_n hx hb dX12_goes_105 rfl (lv_at hl 0 rfl) ?_
      refine va_get (D := D.1) (ci := 12) (v := .ref (aT 82)) (C := RX12) (T := TX12) (N := 114) hx hb hts wi_X12 hown X.1 X.2.1 0 rfl rfl 82 (by decide) (hts _ q7_36) (fun _ h9 => h9) (fl_get (by decide)) dX12_goes_106 ?_
      refine lv_iload_n hx hb dX12_goes_109 rfl (lv_at hl 3 rfl) ?_
      obtain ⟨h_27, hF⟩ := grd_some hF
      refine va_lald (D := D.1) (f := gLA gT 82) hx hb X.1 X.2.1 56 55 rfl rfl (inB_ok h_27) dX12_goes_110 ?_
      obtain ⟨h_28, hF⟩ := grd_some hF
      refine va_last (D := D.1) (f := gLA gT 106) hx hb X.1 X.2.1 X.2.2.1 X.2.2.2.1 70 69 rfl rfl (inB_ok h_28) dX12_goes_111 (fun H locs hP hD hS => ?_)
      have X : Hx D (tX12 yT) A s H locs (wX12 hT aT yT (sLA gT 106 (vp_updL (gLA gT 106) (((1280 : Int32) * v1) + v3).toNatClampNeg (gLA gT 82 v3.toNatClampNeg)))) := Hx_set X (wG_sLA (i := 69) (k := 106) ndX12 rfl rfl) hP hD hS
      refine lv_goto (tgt := 133) hx hb dX12_goes_112 (by decide) ?_
      exact (k_X12_goes_133 l D hT aT yT n rec IH) C X (lv_sub hl [0, 1, 2, 3] rfl) hF
set_option maxHeartbeats 4000000 in
set_option maxRecDepth 100000 in
theorem k_X12_goes_75 (l : Launch) (D : Dx) (hT : Nat) (aT : Nat → Nat) (yT : Nat → ClassId) (n : Nat) (rec : (Gs → Int32 → Int32 → Int32 → Option (Int32 × Gs)) × (Gs → Int32 → Int32 → Int32 → Option (Int32 × Gs)) × (Gs → Int32 → Int32 → Int32 → Option (Int32 × Gs)) × (Gs → Int32 → Int32 → Int32 → Option (Int32 × Gs)) × (Gs → Int32 → Int32 → Int32 → Option (Int32 × Gs))) (IH : SH_X12_goes l D hT aT yT rec) : S_X12_goes_75 l D hT aT yT (b_X12_goes_75 n rec) := by
  intro p e s m args below meth c H locs A ls gT v1 v2 v3 q C X hl hF
  obtain ⟨hx, hb, hr, hml, hown, hts, hlk⟩ := id C
  unfold b_X12_goes_75 at hF
  refine lv_iinc (v := v3 + (1 : Int32)) (lv' := [(3, .int (v3 + (1 : Int32))), (0, .ref hT), (1, .int v1), (2, .int v2)]) hx hb dX12_goes_75 hl (k := 3) rfl rfl (by decide) rfl (fun ls hl => ?_)
  refine lv_goto (tgt := 2) hx hb dX12_goes_78 (by decide) ?_
  exact IH.1 C X (lv_sub hl [1, 2, 3, 0] rfl) hF
set_option maxHeartbeats 4000000 in
set_option maxRecDepth 100000 in
theorem k_X12_goes_2 (l : Launch) (D : Dx) (hT : Nat) (aT : Nat → Nat) (yT : Nat → ClassId) (n : Nat) (rec : (Gs → Int32 → Int32 → Int32 → Option (Int32 × Gs)) × (Gs → Int32 → Int32 → Int32 → Option (Int32 × Gs)) × (Gs → Int32 → Int32 → Int32 → Option (Int32 × Gs)) × (Gs → Int32 → Int32 → Int32 → Option (Int32 × Gs)) × (Gs → Int32 → Int32 → Int32 → Option (Int32 × Gs))) (IH : SH_X12_goes l D hT aT yT rec) : S_X12_goes_2 l D hT aT yT (h_X12_goes_2 n rec) := by
  intro p e s m args below meth c H locs A ls gT v1 v2 v3 q C X hl hF
  obtain ⟨hx, hb, hr, hml, hown, hts, hlk⟩ := id C
  unfold h_X12_goes_2 at hF
  refine lv_iload_n hx hb dX12_goes_2 rfl (lv_at hl 3 rfl) ?_
  refine lv_bipush (v := (40 : Int32)) hx hb dX12_goes_3 (by decide) ?_
  refine lv_icmp_ge (tgt := 81) hx hb dX12_goes_5 (by decide) (fun c => ?_) (fun c => ?_)
  · replace hF := iT c hF
    refine lv_iconst (v := (0 : Int32)) hx hb dX12_goes_81 (by decide) ?_
    refine lv_istore_n (lv' := [(3, .int (0 : Int32)), (0, .ref hT), (1, .int v1), (2, .int v2)]) hx hb dX12_goes_82 rfl hl (by decide) rfl (fun ls hl => ?_)
    exact IH.2.1 C X (lv_sub hl [1, 2, 3, 0] rfl) hF
  · replace hF := iF c hF
    refine lv_bipush (v := (40 : Int32)) hx hb dX12_goes_8 (by decide) ?_
    refine lv_iload_n hx hb dX12_goes_10 rfl (lv_at hl 1 rfl) ?_
    refine lv_imul hx hb dX12_goes_11 ?_
    refine lv_iload_n hx hb dX12_goes_12 rfl (lv_at hl 3 rfl) ?_
    refine lv_iadd hx hb dX12_goes_13 ?_
    refine lv_istore (lv' := [(4, .int (((40 : Int32) * v1) + v3)), (0, .ref hT), (1, .int v1), (2, .int v2), (3, .int v3)]) hx hb dX12_goes_14 hl (by decide) rfl (fun ls hl => ?_)
    refine lv_iload_n hx hb dX12_goes_16 rfl (lv_at hl 3 rfl) ?_
    refine lv_if_eq (tgt := 49) hx hb dX12_goes_17 (by decide) (fun c => ?_) (fun c => ?_)
    · replace hF := iT c hF
      refine lv_aload_n hx hb dX12_goes_49 rfl (lv_at hl 1 rfl) ?_
      refine va_get (D := D.1) (ci := 12) (v := .ref (aT 80)) (C := RX12) (T := TX12) (N := 114) hx hb hts wi_X12 hown X.1 X.2.1 0 rfl rfl 80 (by decide) (hts _ q7_34) (fun _ h9 => h9) (fl_get (by decide)) dX12_goes_50 ?_
      refine lv_iload_n hx hb dX12_goes_53 rfl (lv_at hl 4 rfl) ?_
      refine lv_aload_n hx hb dX12_goes_54 rfl (lv_at hl 1 rfl) ?_
      refine va_get (D := D.1) (ci := 12) (v := .ref (aT 104)) (C := RX12) (T := TX12) (N := 114) hx hb hts wi_X12 hown X.1 X.2.1 0 rfl rfl 104 (by decide) (hts _ q7_58) (fun _ h9 => h9) (fl_get (by decide)) dX12_goes_55 ?_
      refine lv_iload hx hb dX12_goes_58 (lv_at hl 0 rfl) ?_
      obtain ⟨h_29, hF⟩ := grd_some hF
      refine va_lald (D := D.1) (f := gLA gT 104) hx hb X.1 X.2.1 68 67 rfl rfl (inB_ok h_29) dX12_goes_60 ?_
      obtain ⟨h_30, hF⟩ := grd_some hF
      refine va_last (D := D.1) (f := gLA gT 80) hx hb X.1 X.2.1 X.2.2.1 X.2.2.2.1 54 53 rfl rfl (inB_ok h_30) dX12_goes_61 (fun H locs hP hD hS => ?_)
      have X : Hx D (tX12 yT) A s H locs (wX12 hT aT yT (sLA gT 80 (vp_updL (gLA gT 80) v3.toNatClampNeg (gLA gT 104 (((40 : Int32) * v1) + v3).toNatClampNeg)))) := Hx_set X (wG_sLA (i := 53) (k := 80) ndX12 rfl rfl) hP hD hS
      refine lv_aload_n hx hb dX12_goes_62 rfl (lv_at hl 1 rfl) ?_
      refine va_get (D := D.1) (ci := 12) (v := .ref (aT 81)) (C := RX12) (T := TX12) (N := 114) hx hb hts wi_X12 hown X.1 X.2.1 0 rfl rfl 81 (by decide) (hts _ q7_35) (fun _ h9 => h9) (fl_get (by decide)) dX12_goes_63 ?_
      refine lv_iload_n hx hb dX12_goes_66 rfl (lv_at hl 4 rfl) ?_
      refine lv_aload_n hx hb dX12_goes_67 rfl (lv_at hl 1 rfl) ?_
      refine va_get (D := D.1) (ci := 12) (v := .ref (aT 105)) (C := RX12) (T := TX12) (N := 114) hx hb hts wi_X12 hown X.1 X.2.1 0 rfl rfl 105 (by decide) (hts _ q7_59) (fun _ h9 => h9) (fl_get (by decide)) dX12_goes_68 ?_
      refine lv_iload hx hb dX12_goes_71 (lv_at hl 0 rfl) ?_
      obtain ⟨h_31, hF⟩ := grd_some hF
      refine va_lald (D := D.1) (f := gLA gT 105) hx hb X.1 X.2.1 69 68 rfl rfl (inB_ok h_31) dX12_goes_73 ?_
      obtain ⟨h_32, hF⟩ := grd_some hF
      refine va_last (D := D.1) (f := gLA gT 81) hx hb X.1 X.2.1 X.2.2.1 X.2.2.2.1 55 54 rfl rfl (inB_ok h_32) dX12_goes_74 (fun H locs hP hD hS => ?_)
      have X : Hx D (tX12 yT) A s H locs (wX12 hT aT yT (sLA (sLA gT 80 (vp_updL (gLA gT 80) v3.toNatClampNeg (gLA gT 104 (((40 : Int32) * v1) + v3).toNatClampNeg))) 81 (vp_updL (gLA gT 81) v3.toNatClampNeg (gLA gT 105 (((40 : Int32) * v1) + v3).toNatClampNeg)))) := Hx_set X (wG_sLA (i := 54) (k := 81) ndX12 rfl rfl) hP hD hS
      exact (k_X12_goes_75 l D hT aT yT n rec IH) C X (lv_sub hl [1, 2, 3, 4] rfl) hF
    · replace hF := iF c hF
      refine lv_aload_n hx hb dX12_goes_20 rfl (lv_at hl 1 rfl) ?_
      refine va_get (D := D.1) (ci := 12) (v := .ref (aT 104)) (C := RX12) (T := TX12) (N := 114) hx hb hts wi_X12 hown X.1 X.2.1 0 rfl rfl 104 (by decide) (hts _ q7_58) (fun _ h9 => h9) (fl_get (by decide)) dX12_goes_21 ?_
      refine lv_iload hx hb dX12_goes_24 (lv_at hl 0 rfl) ?_
      refine lv_aload_n hx hb dX12_goes_26 rfl (lv_at hl 1 rfl) ?_
      refine va_get (D := D.1) (ci := 12) (v := .ref (aT 80)) (C := RX12) (T := TX12) (N := 114) hx hb hts wi_X12 hown X.1 X.2.1 0 rfl rfl 80 (by decide) (hts _ q7_34) (fun _ h9 => h9) (fl_get (by decide)) dX12_goes_27 ?_
      refine lv_iload_n hx hb dX12_goes_30 rfl (lv_at hl 4 rfl) ?_
      obtain ⟨h_33, hF⟩ := grd_some hF
      refine va_lald (D := D.1) (f := gLA gT 80) hx hb X.1 X.2.1 54 53 rfl rfl (inB_ok h_33) dX12_goes_31 ?_
      obtain ⟨h_34, hF⟩ := grd_some hF
      refine va_last (D := D.1) (f := gLA gT 104) hx hb X.1 X.2.1 X.2.2.1 X.2.2.2.1 68 67 rfl rfl (inB_ok h_34) dX12_goes_32 (fun H locs hP hD hS => ?_)
      have X : Hx D (tX12 yT) A s H locs (wX12 hT aT yT (sLA gT 104 (vp_updL (gLA gT 104) (((40 : Int32) * v1) + v3).toNatClampNeg (gLA gT 80 v3.toNatClampNeg)))) := Hx_set X (wG_sLA (i := 67) (k := 104) ndX12 rfl rfl) hP hD hS
      refine lv_aload_n hx hb dX12_goes_33 rfl (lv_at hl 1 rfl) ?_
      refine va_get (D := D.1) (ci := 12) (v := .ref (aT 105)) (C := RX12) (T := TX12) (N := 114) hx hb hts wi_X12 hown X.1 X.2.1 0 rfl rfl 105 (by decide) (hts _ q7_59) (fun _ h9 => h9) (fl_get (by decide)) dX12_goes_34 ?_
      refine lv_iload hx hb dX12_goes_37 (lv_at hl 0 rfl) ?_
      refine lv_aload_n hx hb dX12_goes_39 rfl (lv_at hl 1 rfl) ?_
      refine va_get (D := D.1) (ci := 12) (v := .ref (aT 81)) (C := RX12) (T := TX12) (N := 114) hx hb hts wi_X12 hown X.1 X.2.1 0 rfl rfl 81 (by decide) (hts _ q7_35) (fun _ h9 => h9) (fl_get (by decide)) dX12_goes_40 ?_
      refine lv_iload_n hx hb dX12_goes_43 rfl (lv_at hl 4 rfl) ?_
      obtain ⟨h_35, hF⟩ := grd_some hF
      refine va_lald (D := D.1) (f := gLA gT 81) hx hb X.1 X.2.1 55 54 rfl rfl (inB_ok h_35) dX12_goes_44 ?_
      obtain ⟨h_36, hF⟩ := grd_some hF
      refine va_last (D := D.1) (f := gLA gT 105) hx hb X.1 X.2.1 X.2.2.1 X.2.2.2.1 69 68 rfl rfl (inB_ok h_36) dX12_goes_45 (fun H locs hP hD hS => ?_)
      have X : Hx D (tX12 yT) A s H locs (wX12 hT aT yT (sLA (sLA gT 104 (vp_updL (gLA gT 104) (((40 : Int32) * v1) + v3).toNatClampNeg (gLA gT 80 v3.toNatClampNeg))) 105 (vp_updL (gLA gT 105) (((40 : Int32) * v1) + v3).toNatClampNeg (gLA gT 81 v3.toNatClampNeg)))) := Hx_set X (wG_sLA (i := 68) (k := 105) ndX12 rfl rfl) hP hD hS
      refine lv_goto (tgt := 75) hx hb dX12_goes_46 (by decide) ?_
      exact (k_X12_goes_75 l D hT aT yT n rec IH) C X (lv_sub hl [1, 2, 3, 4] rfl) hF
theorem kL_X12_goes (l : Launch) (D : Dx) (hT : Nat) (aT : Nat → Nat) (yT : Nat → ClassId) (n : Nat) : ∀ k, SH_X12_goes l D hT aT yT (L_X12_goes n k)
  | 0 => ⟨(fun _ _ _ h => by cases h), (fun _ _ _ h => by cases h), (fun _ _ _ h => by cases h), (fun _ _ _ h => by cases h), (fun _ _ _ h => by cases h)⟩
  | k + 1 => ⟨k_X12_goes_2 l D hT aT yT n _ (kL_X12_goes l D hT aT yT n k), k_X12_goes_83 l D hT aT yT n _ (kL_X12_goes l D hT aT yT n k), k_X12_goes_141 l D hT aT yT n _ (kL_X12_goes l D hT aT yT n k), k_X12_goes_259 l D hT aT yT n _ (kL_X12_goes l D hT aT yT n k), k_X12_goes_314 l D hT aT yT n _ (kL_X12_goes l D hT aT yT n k)⟩
set_option maxHeartbeats 4000000 in
set_option maxRecDepth 100000 in
theorem c_X12_goes (l : Launch) (D : Dx) (hT : Nat) (aT : Nat → Nat) (yT : Nat → ClassId) (n : Nat) (gT : Gs) (x0 : Int32) (x1 : Int32) (q : Int32 × Gs) (hF : f_X12_goes n gT x0 x1 = some q) (sz : Nat) : Met l yX12_goes (ws_ yX12_goes cX12_goes 5 (some .boolean)) R_X12_goes (PC D (tX12 yT) [.ref hT, .int x0, .int x1] (wX12 hT aT yT gT) sz) (QI D (va_A (wX12 hT aT yT gT) sz) (wX12 hT aT yT q.2) q.1) 0 0 (va_A (wX12 hT aT yT gT) sz) := by
  refine Met.ofW (cc := cX12_goes) (maxL := 5) (ret := (some .boolean)) (by decide) rfl ?_
  intro p e s m args below meth c s₁ B hml hv
  obtain ⟨rfl, hsz, hP, hK, hD, hN⟩ := hv
  subst hsz
  have C : Cx p s m _ meth c cX12_goes (some .boolean) 5 RX12 lw_all := Cx_of B hml
  have X := Hx_start hP hK hD hN
  obtain ⟨hx, hb, hr, -, hown, hts, hlk⟩ := id C
  generalize va_A (wX12 hT aT yT gT) s.heap.size = A at X ⊢
  have hl := lv_entry ([.ref hT, .int x0, .int x1]) (n := 5) (Nat.le_of_ble_eq_true rfl)
  rw [lg_entry_eq]
  generalize (lg_sl ([.ref hT, .int x0, .int x1]) ++ List.replicate (5 - (lg_sl ([.ref hT, .int x0, .int x1])).length) Slot.unset).toArray = ls at hl ⊢
  have hl : lv_has ls 5 [(0, .ref hT), (1, .int x0), (2, .int x1)] := hl
  unfold f_X12_goes at hF
  refine lv_iconst (v := (0 : Int32)) hx hb dX12_goes_0 (by decide) ?_
  refine lv_istore_n (lv' := [(3, .int (0 : Int32)), (0, .ref hT), (1, .int x0), (2, .int x1)]) hx hb dX12_goes_1 rfl hl (by decide) rfl (fun ls hl => ?_)
  exact (kL_X12_goes l D hT aT yT n n).1 C X (lv_sub hl [1, 2, 3, 0] rfl) hF

/-! ### X12_keep -/
theorem dX12_keep_0 : decode cX12_keep 0 = .ok (.iload_n 1, 1) := by decide +kernel
theorem dX12_keep_1 : decode cX12_keep 1 = .ok (.ifCond .lt 8, 3) := by decide +kernel
theorem dX12_keep_4 : decode cX12_keep 4 = .ok (.iload_n 1, 1) := by decide +kernel
theorem dX12_keep_5 : decode cX12_keep 5 = .ok (.iconst 3, 1) := by decide +kernel
theorem dX12_keep_6 : decode cX12_keep 6 = .ok (.if_icmp .le 5, 3) := by decide +kernel
theorem dX12_keep_9 : decode cX12_keep 9 = .ok (.iconst 0, 1) := by decide +kernel
theorem dX12_keep_10 : decode cX12_keep 10 = .ok (.ireturn, 1) := by decide +kernel
theorem dX12_keep_11 : decode cX12_keep 11 = .ok (.aload_n 0, 1) := by decide +kernel
theorem dX12_keep_12 : decode cX12_keep 12 = .ok (.getfield 370, 3) := by decide +kernel
theorem dX12_keep_15 : decode cX12_keep 15 = .ok (.iload_n 1, 1) := by decide +kernel
theorem dX12_keep_16 : decode cX12_keep 16 = .ok (.aload_n 0, 1) := by decide +kernel
theorem dX12_keep_17 : decode cX12_keep 17 = .ok (.getfield 250, 3) := by decide +kernel
theorem dX12_keep_20 : decode cX12_keep 20 = .ok (.iconst 1, 1) := by decide +kernel
theorem dX12_keep_21 : decode cX12_keep 21 = .ok (.iadd, 1) := by decide +kernel
theorem dX12_keep_22 : decode cX12_keep 22 = .ok (.iastore, 1) := by decide +kernel
theorem dX12_keep_23 : decode cX12_keep 23 = .ok (.aload_n 0, 1) := by decide +kernel
theorem dX12_keep_24 : decode cX12_keep 24 = .ok (.getfield 388, 3) := by decide +kernel
theorem dX12_keep_27 : decode cX12_keep 27 = .ok (.iload_n 1, 1) := by decide +kernel
theorem dX12_keep_28 : decode cX12_keep 28 = .ok (.aload_n 0, 1) := by decide +kernel
theorem dX12_keep_29 : decode cX12_keep 29 = .ok (.getfield 319, 3) := by decide +kernel
theorem dX12_keep_32 : decode cX12_keep 32 = .ok (.lastore, 1) := by decide +kernel
theorem dX12_keep_33 : decode cX12_keep 33 = .ok (.aload_n 0, 1) := by decide +kernel
theorem dX12_keep_34 : decode cX12_keep 34 = .ok (.getfield 391, 3) := by decide +kernel
theorem dX12_keep_37 : decode cX12_keep 37 = .ok (.iload_n 1, 1) := by decide +kernel
theorem dX12_keep_38 : decode cX12_keep 38 = .ok (.aload_n 0, 1) := by decide +kernel
theorem dX12_keep_39 : decode cX12_keep 39 = .ok (.getfield 323, 3) := by decide +kernel
theorem dX12_keep_42 : decode cX12_keep 42 = .ok (.iastore, 1) := by decide +kernel
theorem dX12_keep_43 : decode cX12_keep 43 = .ok (.aload_n 0, 1) := by decide +kernel
theorem dX12_keep_44 : decode cX12_keep 44 = .ok (.getfield 400, 3) := by decide +kernel
theorem dX12_keep_47 : decode cX12_keep 47 = .ok (.iload_n 1, 1) := by decide +kernel
theorem dX12_keep_48 : decode cX12_keep 48 = .ok (.aload_n 0, 1) := by decide +kernel
theorem dX12_keep_49 : decode cX12_keep 49 = .ok (.getfield 334, 3) := by decide +kernel
theorem dX12_keep_52 : decode cX12_keep 52 = .ok (.lastore, 1) := by decide +kernel
theorem dX12_keep_53 : decode cX12_keep 53 = .ok (.aload_n 0, 1) := by decide +kernel
theorem dX12_keep_54 : decode cX12_keep 54 = .ok (.iload_n 1, 1) := by decide +kernel
theorem dX12_keep_55 : decode cX12_keep 55 = .ok (.iconst 1, 1) := by decide +kernel
theorem dX12_keep_56 : decode cX12_keep 56 = .ok (.invokevirtual 762, 3) := by decide +kernel
theorem dX12_keep_59 : decode cX12_keep 59 = .ok (.ireturn, 1) := by decide +kernel
abbrev R_X12_keep : Room := ({ frames := 1, cells := 0, slots := 0, locals := 24 } : Room)
def f_X12_keep (n : Nat) (gT : Gs) (x0 : Int32) : Option (Int32 × Gs) :=
  if x0 < 0 then (some ((0 : Int32), gT)) else (if x0 ≤ (3 : Int32) then (grd (inB x0 4) (grd (inB x0 4) (grd (inB x0 4) (grd (inB x0 4) (bnd (f_X12_goes n (sLA (sIA (sLA (sIA gT 103 (upd (gIA gT 103) x0.toNatClampNeg ((gI gT 64) + (1 : Int32)))) 109 (vp_updL (gLA gT 109) x0.toNatClampNeg (gL gT 87))) 110 (upd (gIA gT 110) x0.toNatClampNeg (gI gT 88))) 113 (vp_updL (gLA gT 113) x0.toNatClampNeg (gL gT 91))) x0 (1 : Int32)) (fun q_5 => grd (zB q_5.1) (some (q_5.1, q_5.2)))))))) else (some ((0 : Int32), gT)))
set_option maxHeartbeats 4000000 in
set_option maxRecDepth 100000 in
theorem c_X12_keep (l : Launch) (D : Dx) (hT : Nat) (aT : Nat → Nat) (yT : Nat → ClassId) (n : Nat) (gT : Gs) (x0 : Int32) (q : Int32 × Gs) (hF : f_X12_keep n gT x0 = some q) (sz : Nat) : Met l yX12_keep (ws_ yX12_keep cX12_keep 2 (some .boolean)) R_X12_keep (PC D (tX12 yT) [.ref hT, .int x0] (wX12 hT aT yT gT) sz) (QI D (va_A (wX12 hT aT yT gT) sz) (wX12 hT aT yT q.2) q.1) 0 0 (va_A (wX12 hT aT yT gT) sz) := by
  refine Met.ofW (cc := cX12_keep) (maxL := 2) (ret := (some .boolean)) (by decide) rfl ?_
  intro p e s m args below meth c s₁ B hml hv
  obtain ⟨rfl, hsz, hP, hK, hD, hN⟩ := hv
  subst hsz
  have C : Cx p s m _ meth c cX12_keep (some .boolean) 2 RX12 lw_all := Cx_of B hml
  have X := Hx_start hP hK hD hN
  obtain ⟨hx, hb, hr, -, hown, hts, hlk⟩ := id C
  generalize va_A (wX12 hT aT yT gT) s.heap.size = A at X ⊢
  have hl := lv_entry ([.ref hT, .int x0]) (n := 2) (Nat.le_of_ble_eq_true rfl)
  rw [lg_entry_eq]
  generalize (lg_sl ([.ref hT, .int x0]) ++ List.replicate (2 - (lg_sl ([.ref hT, .int x0])).length) Slot.unset).toArray = ls at hl ⊢
  have hl : lv_has ls 2 [(0, .ref hT), (1, .int x0)] := hl
  unfold f_X12_keep at hF
  refine lv_iload_n hx hb dX12_keep_0 rfl (lv_at hl 1 rfl) ?_
  refine lv_if_lt (tgt := 9) hx hb dX12_keep_1 (by decide) (fun c => ?_) (fun c => ?_)
  · replace hF := iT c hF
    refine lv_iconst (v := (0 : Int32)) hx hb dX12_keep_9 (by decide) ?_
    have hq := Option.some.inj hF
    subst hq
    exact rt_z (v := (0 : Int32)) C X (by decide) dX12_keep_10
  · replace hF := iF c hF
    refine lv_iload_n hx hb dX12_keep_4 rfl (lv_at hl 1 rfl) ?_
    refine lv_iconst (v := (3 : Int32)) hx hb dX12_keep_5 (by decide) ?_
    refine lv_icmp_le (tgt := 11) hx hb dX12_keep_6 (by decide) (fun c => ?_) (fun c => ?_)
    · replace hF := iT c hF
      refine lv_aload_n hx hb dX12_keep_11 rfl (lv_at hl 0 rfl) ?_
      refine va_get (D := D.1) (ci := 12) (v := .ref (aT 103)) (C := RX12) (T := TX12) (N := 114) hx hb hts wi_X12 hown X.1 X.2.1 0 rfl rfl 103 (by decide) (hts _ q7_57) (fun _ h9 => h9) (fl_get (by decide)) dX12_keep_12 ?_
      refine lv_iload_n hx hb dX12_keep_15 rfl (lv_at hl 1 rfl) ?_
      refine lv_aload_n hx hb dX12_keep_16 rfl (lv_at hl 0 rfl) ?_
      refine va_get (D := D.1) (ci := 12) (v := .int (gI gT 64)) (C := RX12) (T := TX12) (N := 114) hx hb hts wi_X12 hown X.1 X.2.1 0 rfl rfl 64 (by decide) (hts _ q7_18) (fun _ h9 => h9) (fl_get (by decide)) dX12_keep_17 ?_
      refine lv_iconst (v := (1 : Int32)) hx hb dX12_keep_20 (by decide) ?_
      refine lv_iadd hx hb dX12_keep_21 ?_
      obtain ⟨h_1, hF⟩ := grd_some hF
      refine va_iast (D := D.1) (f := gIA gT 103) hx hb X.1 X.2.1 X.2.2.1 X.2.2.2.1 67 66 rfl rfl (inB_ok h_1) dX12_keep_22 (fun H locs hP hD hS => ?_)
      have X : Hx D (tX12 yT) A s H locs (wX12 hT aT yT (sIA gT 103 (upd (gIA gT 103) x0.toNatClampNeg ((gI gT 64) + (1 : Int32))))) := Hx_set X (wG_sIA (i := 66) (k := 103) ndX12 rfl rfl) hP hD hS
      refine lv_aload_n hx hb dX12_keep_23 rfl (lv_at hl 0 rfl) ?_
      refine va_get (D := D.1) (ci := 12) (v := .ref (aT 109)) (C := RX12) (T := TX12) (N := 114) hx hb hts wi_X12 hown X.1 X.2.1 0 rfl rfl 109 (by decide) (hts _ q7_63) (fun _ h9 => h9) (fl_get (by decide)) dX12_keep_24 ?_
      refine lv_iload_n hx hb dX12_keep_27 rfl (lv_at hl 1 rfl) ?_
      refine lv_aload_n hx hb dX12_keep_28 rfl (lv_at hl 0 rfl) ?_
      refine va_get (D := D.1) (ci := 12) (v := .long (gL gT 87)) (C := RX12) (T := TX12) (N := 114) hx hb hts wi_X12 hown X.1 X.2.1 0 rfl rfl 87 (by decide) (hts _ q7_41) (fun _ h9 => h9) (fl_get (by decide)) dX12_keep_29 ?_
      obtain ⟨h_2, hF⟩ := grd_some hF
      refine va_last (D := D.1) (f := gLA gT 109) hx hb X.1 X.2.1 X.2.2.1 X.2.2.2.1 73 72 rfl rfl (inB_ok h_2) dX12_keep_32 (fun H locs hP hD hS => ?_)
      have X : Hx D (tX12 yT) A s H locs (wX12 hT aT yT (sLA (sIA gT 103 (upd (gIA gT 103) x0.toNatClampNeg ((gI gT 64) + (1 : Int32)))) 109 (vp_updL (gLA gT 109) x0.toNatClampNeg (gL gT 87)))) := Hx_set X (wG_sLA (i := 72) (k := 109) ndX12 rfl rfl) hP hD hS
      refine lv_aload_n hx hb dX12_keep_33 rfl (lv_at hl 0 rfl) ?_
      refine va_get (D := D.1) (ci := 12) (v := .ref (aT 110)) (C := RX12) (T := TX12) (N := 114) hx hb hts wi_X12 hown X.1 X.2.1 0 rfl rfl 110 (by decide) (hts _ q7_64) (fun _ h9 => h9) (fl_get (by decide)) dX12_keep_34 ?_
      refine lv_iload_n hx hb dX12_keep_37 rfl (lv_at hl 1 rfl) ?_
      refine lv_aload_n hx hb dX12_keep_38 rfl (lv_at hl 0 rfl) ?_
      refine va_get (D := D.1) (ci := 12) (v := .int (gI gT 88)) (C := RX12) (T := TX12) (N := 114) hx hb hts wi_X12 hown X.1 X.2.1 0 rfl rfl 88 (by decide) (hts _ q7_42) (fun _ h9 => h9) (fl_get (by decide)) dX12_keep_39 ?_
      obtain ⟨h_3, hF⟩ := grd_some hF
      refine va_iast (D := D.1) (f := gIA gT 110) hx hb X.1 X.2.1 X.2.2.1 X.2.2.2.1 74 73 rfl rfl (inB_ok h_3) dX12_keep_42 (fun H locs hP hD hS => ?_)
      have X : Hx D (tX12 yT) A s H locs (wX12 hT aT yT (sIA (sLA (sIA gT 103 (upd (gIA gT 103) x0.toNatClampNeg ((gI gT 64) + (1 : Int32)))) 109 (vp_updL (gLA gT 109) x0.toNatClampNeg (gL gT 87))) 110 (upd (gIA gT 110) x0.toNatClampNeg (gI gT 88)))) := Hx_set X (wG_sIA (i := 73) (k := 110) ndX12 rfl rfl) hP hD hS
      refine lv_aload_n hx hb dX12_keep_43 rfl (lv_at hl 0 rfl) ?_
      refine va_get (D := D.1) (ci := 12) (v := .ref (aT 113)) (C := RX12) (T := TX12) (N := 114) hx hb hts wi_X12 hown X.1 X.2.1 0 rfl rfl 113 (by decide) (hts _ q7_67) (fun _ h9 => h9) (fl_get (by decide)) dX12_keep_44 ?_
      refine lv_iload_n hx hb dX12_keep_47 rfl (lv_at hl 1 rfl) ?_
      refine lv_aload_n hx hb dX12_keep_48 rfl (lv_at hl 0 rfl) ?_
      refine va_get (D := D.1) (ci := 12) (v := .long (gL gT 91)) (C := RX12) (T := TX12) (N := 114) hx hb hts wi_X12 hown X.1 X.2.1 0 rfl rfl 91 (by decide) (hts _ q7_45) (fun _ h9 => h9) (fl_get (by decide)) dX12_keep_49 ?_
      obtain ⟨h_4, hF⟩ := grd_some hF
      refine va_last (D := D.1) (f := gLA gT 113) hx hb X.1 X.2.1 X.2.2.1 X.2.2.2.1 77 76 rfl rfl (inB_ok h_4) dX12_keep_52 (fun H locs hP hD hS => ?_)
      have X : Hx D (tX12 yT) A s H locs (wX12 hT aT yT (sLA (sIA (sLA (sIA gT 103 (upd (gIA gT 103) x0.toNatClampNeg ((gI gT 64) + (1 : Int32)))) 109 (vp_updL (gLA gT 109) x0.toNatClampNeg (gL gT 87))) 110 (upd (gIA gT 110) x0.toNatClampNeg (gI gT 88))) 113 (vp_updL (gLA gT 113) x0.toNatClampNeg (gL gT 91)))) := Hx_set X (wG_sLA (i := 76) (k := 113) ndX12 rfl rfl) hP hD hS
      refine lv_aload_n hx hb dX12_keep_53 rfl (lv_at hl 0 rfl) ?_
      refine lv_iload_n hx hb dX12_keep_54 rfl (lv_at hl 1 rfl) ?_
      refine lv_iconst (v := (1 : Int32)) hx hb dX12_keep_55 (by decide) ?_
      obtain ⟨q_5, hc_6, hF⟩ := bnd_some hF
      refine cV_i (As := [.int x0, .int (1 : Int32)]) (rest := []) C X (c_X12_goes l D hT aT yT n (sLA (sIA (sLA (sIA gT 103 (upd (gIA gT 103) x0.toNatClampNeg ((gI gT 64) + (1 : Int32)))) 109 (vp_updL (gLA gT 109) x0.toNatClampNeg (gL gT 87))) 110 (upd (gIA gT 110) x0.toNatClampNeg (gI gT 88))) 113 (vp_updL (gLA gT 113) x0.toNatClampNeg (gL gT 91))) x0 (1 : Int32) q_5 hc_6 _) (cwV 2 hts (good_V q10_43 q10_45 q0_132 q1_9 q10_46) rfl rfl rfl (by decide +kernel) ⟨Nat.le_of_ble_eq_true rfl, Nat.le_of_ble_eq_true rfl⟩) (va_recv X.1 X.2.1 (ci := 12) (q0 := 0) rfl rfl) X.1 X.2.1 X.2.2.1 (free_all X) hl.1 rfl rfl (Nat.le_of_ble_eq_true rfl) dX12_keep_56 ⟨Nat.le_of_ble_eq_true rfl, Nat.le_of_ble_eq_true rfl⟩ (fun t H1 locs1 ht hB hk hS => ?_)
      have X : Hx D (tX12 yT) A s H1 locs1 (wX12 hT aT yT q_5.2) := Hx_after_all X ht hB hS
      clear hk hS ht hB
      generalize H1 = H at X ⊢
      generalize locs1 = locs at X ⊢
      obtain ⟨h_7, hF⟩ := grd_some hF
      have hq := Option.some.inj hF
      subst hq
      exact rt_z (v := q_5.1) C X (zB_n h_7) dX12_keep_59
    · replace hF := iF c hF
      refine lv_iconst (v := (0 : Int32)) hx hb dX12_keep_9 (by decide) ?_
      have hq := Option.some.inj hF
      subst hq
      exact rt_z (v := (0 : Int32)) C X (by decide) dX12_keep_10

/-! ### X12_back -/
theorem dX12_back_0 : decode cX12_back 0 = .ok (.iload_n 1, 1) := by decide +kernel
theorem dX12_back_1 : decode cX12_back 1 = .ok (.ifCond .lt 23, 3) := by decide +kernel
theorem dX12_back_4 : decode cX12_back 4 = .ok (.iload_n 1, 1) := by decide +kernel
theorem dX12_back_5 : decode cX12_back 5 = .ok (.iconst 3, 1) := by decide +kernel
theorem dX12_back_6 : decode cX12_back 6 = .ok (.if_icmp .gt 18, 3) := by decide +kernel
theorem dX12_back_9 : decode cX12_back 9 = .ok (.aload_n 0, 1) := by decide +kernel
theorem dX12_back_10 : decode cX12_back 10 = .ok (.getfield 370, 3) := by decide +kernel
theorem dX12_back_13 : decode cX12_back 13 = .ok (.iload_n 1, 1) := by decide +kernel
theorem dX12_back_14 : decode cX12_back 14 = .ok (.iaload, 1) := by decide +kernel
theorem dX12_back_15 : decode cX12_back 15 = .ok (.aload_n 0, 1) := by decide +kernel
theorem dX12_back_16 : decode cX12_back 16 = .ok (.getfield 250, 3) := by decide +kernel
theorem dX12_back_19 : decode cX12_back 19 = .ok (.iconst 1, 1) := by decide +kernel
theorem dX12_back_20 : decode cX12_back 20 = .ok (.iadd, 1) := by decide +kernel
theorem dX12_back_21 : decode cX12_back 21 = .ok (.if_icmp .eq 5, 3) := by decide +kernel
theorem dX12_back_24 : decode cX12_back 24 = .ok (.iconst 0, 1) := by decide +kernel
theorem dX12_back_25 : decode cX12_back 25 = .ok (.ireturn, 1) := by decide +kernel
theorem dX12_back_26 : decode cX12_back 26 = .ok (.aload_n 0, 1) := by decide +kernel
theorem dX12_back_27 : decode cX12_back 27 = .ok (.aload_n 0, 1) := by decide +kernel
theorem dX12_back_28 : decode cX12_back 28 = .ok (.getfield 388, 3) := by decide +kernel
theorem dX12_back_31 : decode cX12_back 31 = .ok (.iload_n 1, 1) := by decide +kernel
theorem dX12_back_32 : decode cX12_back 32 = .ok (.laload, 1) := by decide +kernel
theorem dX12_back_33 : decode cX12_back 33 = .ok (.putfield 319, 3) := by decide +kernel
theorem dX12_back_36 : decode cX12_back 36 = .ok (.aload_n 0, 1) := by decide +kernel
theorem dX12_back_37 : decode cX12_back 37 = .ok (.aload_n 0, 1) := by decide +kernel
theorem dX12_back_38 : decode cX12_back 38 = .ok (.getfield 391, 3) := by decide +kernel
theorem dX12_back_41 : decode cX12_back 41 = .ok (.iload_n 1, 1) := by decide +kernel
theorem dX12_back_42 : decode cX12_back 42 = .ok (.iaload, 1) := by decide +kernel
theorem dX12_back_43 : decode cX12_back 43 = .ok (.putfield 323, 3) := by decide +kernel
theorem dX12_back_46 : decode cX12_back 46 = .ok (.aload_n 0, 1) := by decide +kernel
theorem dX12_back_47 : decode cX12_back 47 = .ok (.aload_n 0, 1) := by decide +kernel
theorem dX12_back_48 : decode cX12_back 48 = .ok (.getfield 400, 3) := by decide +kernel
theorem dX12_back_51 : decode cX12_back 51 = .ok (.iload_n 1, 1) := by decide +kernel
theorem dX12_back_52 : decode cX12_back 52 = .ok (.laload, 1) := by decide +kernel
theorem dX12_back_53 : decode cX12_back 53 = .ok (.putfield 334, 3) := by decide +kernel
theorem dX12_back_56 : decode cX12_back 56 = .ok (.aload_n 0, 1) := by decide +kernel
theorem dX12_back_57 : decode cX12_back 57 = .ok (.iload_n 1, 1) := by decide +kernel
theorem dX12_back_58 : decode cX12_back 58 = .ok (.iconst 0, 1) := by decide +kernel
theorem dX12_back_59 : decode cX12_back 59 = .ok (.invokevirtual 762, 3) := by decide +kernel
theorem dX12_back_62 : decode cX12_back 62 = .ok (.ireturn, 1) := by decide +kernel
abbrev R_X12_back : Room := ({ frames := 1, cells := 0, slots := 0, locals := 24 } : Room)
def f_X12_back (n : Nat) (gT : Gs) (x0 : Int32) : Option (Int32 × Gs) :=
  if x0 < 0 then (some ((0 : Int32), gT)) else (if (3 : Int32) < x0 then (some ((0 : Int32), gT)) else (grd (inB x0 4) (if (gIA gT 103 x0.toNatClampNeg) = ((gI gT 64) + (1 : Int32)) then (grd (inB x0 4) (grd (inB x0 4) (grd (inB x0 4) (bnd (f_X12_goes n (sL (sI (sL gT 87 (gLA gT 109 x0.toNatClampNeg)) 88 (gIA gT 110 x0.toNatClampNeg)) 91 (gLA gT 113 x0.toNatClampNeg)) x0 (0 : Int32)) (fun q_5 => grd (zB q_5.1) (some (q_5.1, q_5.2))))))) else (some ((0 : Int32), gT)))))
set_option maxHeartbeats 4000000 in
set_option maxRecDepth 100000 in
theorem c_X12_back (l : Launch) (D : Dx) (hT : Nat) (aT : Nat → Nat) (yT : Nat → ClassId) (n : Nat) (gT : Gs) (x0 : Int32) (q : Int32 × Gs) (hF : f_X12_back n gT x0 = some q) (sz : Nat) : Met l yX12_back (ws_ yX12_back cX12_back 2 (some .boolean)) R_X12_back (PC D (tX12 yT) [.ref hT, .int x0] (wX12 hT aT yT gT) sz) (QI D (va_A (wX12 hT aT yT gT) sz) (wX12 hT aT yT q.2) q.1) 0 0 (va_A (wX12 hT aT yT gT) sz) := by
  refine Met.ofW (cc := cX12_back) (maxL := 2) (ret := (some .boolean)) (by decide) rfl ?_
  intro p e s m args below meth c s₁ B hml hv
  obtain ⟨rfl, hsz, hP, hK, hD, hN⟩ := hv
  subst hsz
  have C : Cx p s m _ meth c cX12_back (some .boolean) 2 RX12 lw_all := Cx_of B hml
  have X := Hx_start hP hK hD hN
  obtain ⟨hx, hb, hr, -, hown, hts, hlk⟩ := id C
  generalize va_A (wX12 hT aT yT gT) s.heap.size = A at X ⊢
  have hl := lv_entry ([.ref hT, .int x0]) (n := 2) (Nat.le_of_ble_eq_true rfl)
  rw [lg_entry_eq]
  generalize (lg_sl ([.ref hT, .int x0]) ++ List.replicate (2 - (lg_sl ([.ref hT, .int x0])).length) Slot.unset).toArray = ls at hl ⊢
  have hl : lv_has ls 2 [(0, .ref hT), (1, .int x0)] := hl
  unfold f_X12_back at hF
  refine lv_iload_n hx hb dX12_back_0 rfl (lv_at hl 1 rfl) ?_
  refine lv_if_lt (tgt := 24) hx hb dX12_back_1 (by decide) (fun c => ?_) (fun c => ?_)
  · replace hF := iT c hF
    refine lv_iconst (v := (0 : Int32)) hx hb dX12_back_24 (by decide) ?_
    have hq := Option.some.inj hF
    subst hq
    exact rt_z (v := (0 : Int32)) C X (by decide) dX12_back_25
  · replace hF := iF c hF
    refine lv_iload_n hx hb dX12_back_4 rfl (lv_at hl 1 rfl) ?_
    refine lv_iconst (v := (3 : Int32)) hx hb dX12_back_5 (by decide) ?_
    refine lv_icmp_gt (tgt := 24) hx hb dX12_back_6 (by decide) (fun c => ?_) (fun c => ?_)
    · replace hF := iT c hF
      refine lv_iconst (v := (0 : Int32)) hx hb dX12_back_24 (by decide) ?_
      have hq := Option.some.inj hF
      subst hq
      exact rt_z (v := (0 : Int32)) C X (by decide) dX12_back_25
    · replace hF := iF c hF
      refine lv_aload_n hx hb dX12_back_9 rfl (lv_at hl 0 rfl) ?_
      refine va_get (D := D.1) (ci := 12) (v := .ref (aT 103)) (C := RX12) (T := TX12) (N := 114) hx hb hts wi_X12 hown X.1 X.2.1 0 rfl rfl 103 (by decide) (hts _ q7_57) (fun _ h9 => h9) (fl_get (by decide)) dX12_back_10 ?_
      refine lv_iload_n hx hb dX12_back_13 rfl (lv_at hl 1 rfl) ?_
      obtain ⟨h_1, hF⟩ := grd_some hF
      refine va_iald (D := D.1) (f := gIA gT 103) hx hb X.1 X.2.1 67 66 rfl rfl (inB_ok h_1) dX12_back_14 ?_
      refine lv_aload_n hx hb dX12_back_15 rfl (lv_at hl 0 rfl) ?_
      refine va_get (D := D.1) (ci := 12) (v := .int (gI gT 64)) (C := RX12) (T := TX12) (N := 114) hx hb hts wi_X12 hown X.1 X.2.1 0 rfl rfl 64 (by decide) (hts _ q7_18) (fun _ h9 => h9) (fl_get (by decide)) dX12_back_16 ?_
      refine lv_iconst (v := (1 : Int32)) hx hb dX12_back_19 (by decide) ?_
      refine lv_iadd hx hb dX12_back_20 ?_
      refine lv_icmp_eq (tgt := 26) hx hb dX12_back_21 (by decide) (fun c => ?_) (fun c => ?_)
      · replace hF := iT c hF
        refine lv_aload_n hx hb dX12_back_26 rfl (lv_at hl 0 rfl) ?_
        refine lv_aload_n hx hb dX12_back_27 rfl (lv_at hl 0 rfl) ?_
        refine va_get (D := D.1) (ci := 12) (v := .ref (aT 109)) (C := RX12) (T := TX12) (N := 114) hx hb hts wi_X12 hown X.1 X.2.1 0 rfl rfl 109 (by decide) (hts _ q7_63) (fun _ h9 => h9) (fl_get (by decide)) dX12_back_28 ?_
        refine lv_iload_n hx hb dX12_back_31 rfl (lv_at hl 1 rfl) ?_
        obtain ⟨h_2, hF⟩ := grd_some hF
        refine va_lald (D := D.1) (f := gLA gT 109) hx hb X.1 X.2.1 73 72 rfl rfl (inB_ok h_2) dX12_back_32 ?_
        refine va_put (D := D.1) (ci := 12) (v := .long (gLA gT 109 x0.toNatClampNeg)) (ty := .long) (C := RX12) (T := TX12) (N := 114) hx hb hts wi_X12 tyX12 tyX12_ok nmX12 hown X.1 X.2.1 X.2.2.1 X.2.2.2.1 0 rfl rfl 87 (by decide) (hts _ q7_41) (fun _ h9 => h9) rfl (by decide +kernel) rfl rfl (by rw [List.length_map, List.length_range]; decide) dX12_back_33 (fun H locs hP hD hS => ?_)
        have X : Hx D (tX12 yT) A s H locs (wX12 hT aT yT (sL gT 87 (gLA gT 109 x0.toNatClampNeg))) := Hx_set X (wG_sL (k := 87) rfl) hP hD hS
        refine lv_aload_n hx hb dX12_back_36 rfl (lv_at hl 0 rfl) ?_
        refine lv_aload_n hx hb dX12_back_37 rfl (lv_at hl 0 rfl) ?_
        refine va_get (D := D.1) (ci := 12) (v := .ref (aT 110)) (C := RX12) (T := TX12) (N := 114) hx hb hts wi_X12 hown X.1 X.2.1 0 rfl rfl 110 (by decide) (hts _ q7_64) (fun _ h9 => h9) (fl_get (by decide)) dX12_back_38 ?_
        refine lv_iload_n hx hb dX12_back_41 rfl (lv_at hl 1 rfl) ?_
        obtain ⟨h_3, hF⟩ := grd_some hF
        refine va_iald (D := D.1) (f := gIA gT 110) hx hb X.1 X.2.1 74 73 rfl rfl (inB_ok h_3) dX12_back_42 ?_
        refine va_put (D := D.1) (ci := 12) (v := .int (gIA gT 110 x0.toNatClampNeg)) (ty := .int) (C := RX12) (T := TX12) (N := 114) hx hb hts wi_X12 tyX12 tyX12_ok nmX12 hown X.1 X.2.1 X.2.2.1 X.2.2.2.1 0 rfl rfl 88 (by decide) (hts _ q7_42) (fun _ h9 => h9) rfl (by decide +kernel) rfl rfl (by rw [List.length_map, List.length_range]; decide) dX12_back_43 (fun H locs hP hD hS => ?_)
        have X : Hx D (tX12 yT) A s H locs (wX12 hT aT yT (sI (sL gT 87 (gLA gT 109 x0.toNatClampNeg)) 88 (gIA gT 110 x0.toNatClampNeg))) := Hx_set X (wG_sI (k := 88) rfl) hP hD hS
        refine lv_aload_n hx hb dX12_back_46 rfl (lv_at hl 0 rfl) ?_
        refine lv_aload_n hx hb dX12_back_47 rfl (lv_at hl 0 rfl) ?_
        refine va_get (D := D.1) (ci := 12) (v := .ref (aT 113)) (C := RX12) (T := TX12) (N := 114) hx hb hts wi_X12 hown X.1 X.2.1 0 rfl rfl 113 (by decide) (hts _ q7_67) (fun _ h9 => h9) (fl_get (by decide)) dX12_back_48 ?_
        refine lv_iload_n hx hb dX12_back_51 rfl (lv_at hl 1 rfl) ?_
        obtain ⟨h_4, hF⟩ := grd_some hF
        refine va_lald (D := D.1) (f := gLA gT 113) hx hb X.1 X.2.1 77 76 rfl rfl (inB_ok h_4) dX12_back_52 ?_
        refine va_put (D := D.1) (ci := 12) (v := .long (gLA gT 113 x0.toNatClampNeg)) (ty := .long) (C := RX12) (T := TX12) (N := 114) hx hb hts wi_X12 tyX12 tyX12_ok nmX12 hown X.1 X.2.1 X.2.2.1 X.2.2.2.1 0 rfl rfl 91 (by decide) (hts _ q7_45) (fun _ h9 => h9) rfl (by decide +kernel) rfl rfl (by rw [List.length_map, List.length_range]; decide) dX12_back_53 (fun H locs hP hD hS => ?_)
        have X : Hx D (tX12 yT) A s H locs (wX12 hT aT yT (sL (sI (sL gT 87 (gLA gT 109 x0.toNatClampNeg)) 88 (gIA gT 110 x0.toNatClampNeg)) 91 (gLA gT 113 x0.toNatClampNeg))) := Hx_set X (wG_sL (k := 91) rfl) hP hD hS
        refine lv_aload_n hx hb dX12_back_56 rfl (lv_at hl 0 rfl) ?_
        refine lv_iload_n hx hb dX12_back_57 rfl (lv_at hl 1 rfl) ?_
        refine lv_iconst (v := (0 : Int32)) hx hb dX12_back_58 (by decide) ?_
        obtain ⟨q_5, hc_6, hF⟩ := bnd_some hF
        refine cV_i (As := [.int x0, .int (0 : Int32)]) (rest := []) C X (c_X12_goes l D hT aT yT n (sL (sI (sL gT 87 (gLA gT 109 x0.toNatClampNeg)) 88 (gIA gT 110 x0.toNatClampNeg)) 91 (gLA gT 113 x0.toNatClampNeg)) x0 (0 : Int32) q_5 hc_6 _) (cwV 2 hts (good_V q10_43 q10_45 q0_132 q1_9 q10_46) rfl rfl rfl (by decide +kernel) ⟨Nat.le_of_ble_eq_true rfl, Nat.le_of_ble_eq_true rfl⟩) (va_recv X.1 X.2.1 (ci := 12) (q0 := 0) rfl rfl) X.1 X.2.1 X.2.2.1 (free_all X) hl.1 rfl rfl (Nat.le_of_ble_eq_true rfl) dX12_back_59 ⟨Nat.le_of_ble_eq_true rfl, Nat.le_of_ble_eq_true rfl⟩ (fun t H1 locs1 ht hB hk hS => ?_)
        have X : Hx D (tX12 yT) A s H1 locs1 (wX12 hT aT yT q_5.2) := Hx_after_all X ht hB hS
        clear hk hS ht hB
        generalize H1 = H at X ⊢
        generalize locs1 = locs at X ⊢
        obtain ⟨h_7, hF⟩ := grd_some hF
        have hq := Option.some.inj hF
        subst hq
        exact rt_z (v := q_5.1) C X (zB_n h_7) dX12_back_62
      · replace hF := iF c hF
        refine lv_iconst (v := (0 : Int32)) hx hb dX12_back_24 (by decide) ?_
        have hq := Option.some.inj hF
        subst hq
        exact rt_z (v := (0 : Int32)) C X (by decide) dX12_back_25
