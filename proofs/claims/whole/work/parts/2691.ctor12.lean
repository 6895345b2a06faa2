theorem q6_167 : Cond.constantLong RX12 23 (1885434484) ∈ lw_all := lw_in (tc_6 (List.mem_of_getElem? (i := 167) rfl)) rfl
theorem q6_168 : Cond.constantLong RX12 25 (1936224119) ∈ lw_all := lw_in (tc_6 (List.mem_of_getElem? (i := 168) rfl)) rfl
theorem q6_169 : Cond.constantLong RX12 27 (6513005) ∈ lw_all := lw_in (tc_6 (List.mem_of_getElem? (i := 169) rfl)) rfl
theorem q6_170 : Cond.constantLong RX12 29 (1650814060) ∈ lw_all := lw_in (tc_6 (List.mem_of_getElem? (i := 170) rfl)) rfl
theorem q6_171 : Cond.constantLong RX12 31 (1952998766) ∈ lw_all := lw_in (tc_6 (List.mem_of_getElem? (i := 171) rfl)) rfl
theorem q6_172 : Cond.constantLong RX12 33 (2003330414) ∈ lw_all := lw_in (tc_6 (List.mem_of_getElem? (i := 172) rfl)) rfl
theorem q6_173 : Cond.constantLong RX12 35 (7302244) ∈ lw_all := lw_in (tc_6 (List.mem_of_getElem? (i := 173) rfl)) rfl
theorem q6_174 : Cond.constantLong RX12 37 (1937007984) ∈ lw_all := lw_in (tc_6 (List.mem_of_getElem? (i := 174) rfl)) rfl
theorem q6_175 : Cond.constantLong RX12 39 (499984329587) ∈ lw_all := lw_in (tc_6 (List.mem_of_getElem? (i := 175) rfl)) rfl
theorem q6_176 : Cond.constantLong RX12 41 (439905906546) ∈ lw_all := lw_in (tc_6 (List.mem_of_getElem? (i := 176) rfl)) rfl
theorem q6_177 : Cond.constantLong RX12 43 (1667590508) ∈ lw_all := lw_in (tc_6 (List.mem_of_getElem? (i := 177) rfl)) rfl
theorem q6_178 : Cond.constantLong RX12 45 (1919512180) ∈ lw_all := lw_in (tc_6 (List.mem_of_getElem? (i := 178) rfl)) rfl
theorem q6_179 : Cond.constantLong RX12 47 (6382195) ∈ lw_all := lw_in (tc_6 (List.mem_of_getElem? (i := 179) rfl)) rfl
theorem q6_180 : Cond.constantLong RX12 49 (465557353332) ∈ lw_all := lw_in (tc_6 (List.mem_of_getElem? (i := 180) rfl)) rfl
theorem q6_181 : Cond.constantLong RX12 51 (1836020596) ∈ lw_all := lw_in (tc_6 (List.mem_of_getElem? (i := 181) rfl)) rfl
theorem q6_182 : Cond.constantLong RX12 53 (6775652) ∈ lw_all := lw_in (tc_6 (List.mem_of_getElem? (i := 182) rfl)) rfl
theorem q6_183 : Cond.constantLong RX12 55 (1953658213) ∈ lw_all := lw_in (tc_6 (List.mem_of_getElem? (i := 183) rfl)) rfl
theorem q6_184 : Cond.constantLong RX12 57 (439721161573) ∈ lw_all := lw_in (tc_6 (List.mem_of_getElem? (i := 184) rfl)) rfl
theorem q6_185 : Cond.constantLong RX12 59 (500136506472) ∈ lw_all := lw_in (tc_6 (List.mem_of_getElem? (i := 185) rfl)) rfl
theorem q6_186 : Cond.constantLong RX12 61 (1652126821) ∈ lw_all := lw_in (tc_6 (List.mem_of_getElem? (i := 186) rfl)) rfl
theorem q6_187 : Cond.constantLong RX12 63 (495673373300) ∈ lw_all := lw_in (tc_6 (List.mem_of_getElem? (i := 187) rfl)) rfl
theorem q6_188 : Cond.constantLong RX12 65 (1667785074) ∈ lw_all := lw_in (tc_6 (List.mem_of_getElem? (i := 188) rfl)) rfl
theorem q6_189 : Cond.constantLong RX12 67 (6909556) ∈ lw_all := lw_in (tc_6 (List.mem_of_getElem? (i := 189) rfl)) rfl
theorem q6_190 : Cond.constantLong RX12 69 (1819242087) ∈ lw_all := lw_in (tc_6 (List.mem_of_getElem? (i := 190) rfl)) rfl
theorem q6_191 : Cond.constantLong RX12 71 (439905902964) ∈ lw_all := lw_in (tc_6 (List.mem_of_getElem? (i := 191) rfl)) rfl
theorem q6_192 : Cond.constantLong RX12 73 (110429873532005) ∈ lw_all := lw_in (tc_6 (List.mem_of_getElem? (i := 192) rfl)) rfl
theorem q6_166 : Cond.methodLink RX12 3 objectInit ∈ lw_all := lw_in (tc_6 (List.mem_of_getElem? (i := 166) rfl)) rfl
theorem dX12_init_0 : decode cX12_init 0 = .ok (.aload_n 0, 1) := by decide +kernel
theorem dX12_init_1 : decode cX12_init 1 = .ok (.invokespecial 3, 3) := by decide +kernel
theorem dX12_init_4 : decode cX12_init 4 = .ok (.aload_n 0, 1) := by decide +kernel
theorem dX12_init_5 : decode cX12_init 5 = .ok (.sipush 3000, 3) := by decide +kernel
theorem dX12_init_8 : decode cX12_init 8 = .ok (.newarray .byte, 2) := by decide +kernel
theorem dX12_init_10 : decode cX12_init 10 = .ok (.putfield 9, 3) := by decide +kernel
theorem dX12_init_13 : decode cX12_init 13 = .ok (.aload_n 0, 1) := by decide +kernel
theorem dX12_init_14 : decode cX12_init 14 = .ok (.iconst 0, 1) := by decide +kernel
theorem dX12_init_15 : decode cX12_init 15 = .ok (.putfield 13, 3) := by decide +kernel
theorem dX12_init_18 : decode cX12_init 18 = .ok (.aload_n 0, 1) := by decide +kernel
theorem dX12_init_19 : decode cX12_init 19 = .ok (.sipush 3001, 3) := by decide +kernel
theorem dX12_init_22 : decode cX12_init 22 = .ok (.newarray .byte, 2) := by decide +kernel
theorem dX12_init_24 : decode cX12_init 24 = .ok (.putfield 17, 3) := by decide +kernel
theorem dX12_init_27 : decode cX12_init 27 = .ok (.aload_n 0, 1) := by decide +kernel
theorem dX12_init_28 : decode cX12_init 28 = .ok (.iconst 0, 1) := by decide +kernel
theorem dX12_init_29 : decode cX12_init 29 = .ok (.putfield 20, 3) := by decide +kernel
theorem dX12_init_32 : decode cX12_init 32 = .ok (.aload_n 0, 1) := by decide +kernel
theorem dX12_init_33 : decode cX12_init 33 = .ok (.bipush 26, 2) := by decide +kernel
theorem dX12_init_35 : decode cX12_init 35 = .ok (.newarray .long, 2) := by decide +kernel
theorem dX12_init_37 : decode cX12_init 37 = .ok (.dup, 1) := by decide +kernel
theorem dX12_init_38 : decode cX12_init 38 = .ok (.iconst 0, 1) := by decide +kernel
theorem dX12_init_39 : decode cX12_init 39 = .ok (.ldc2_w 23, 3) := by decide +kernel
theorem dX12_init_42 : decode cX12_init 42 = .ok (.lastore, 1) := by decide +kernel
theorem dX12_init_43 : decode cX12_init 43 = .ok (.dup, 1) := by decide +kernel
theorem dX12_init_44 : decode cX12_init 44 = .ok (.iconst 1, 1) := by decide +kernel
theorem dX12_init_45 : decode cX12_init 45 = .ok (.ldc2_w 25, 3) := by decide +kernel
theorem dX12_init_48 : decode cX12_init 48 = .ok (.lastore, 1) := by decide +kernel
theorem dX12_init_49 : decode cX12_init 49 = .ok (.dup, 1) := by decide +kernel
theorem dX12_init_50 : decode cX12_init 50 = .ok (.iconst 2, 1) := by decide +kernel
theorem dX12_init_51 : decode cX12_init 51 = .ok (.ldc2_w 27, 3) := by decide +kernel
theorem dX12_init_54 : decode cX12_init 54 = .ok (.lastore, 1) := by decide +kernel
theorem dX12_init_55 : decode cX12_init 55 = .ok (.dup, 1) := by decide +kernel
theorem dX12_init_56 : decode cX12_init 56 = .ok (.iconst 3, 1) := by decide +kernel
theorem dX12_init_57 : decode cX12_init 57 = .ok (.ldc2_w 29, 3) := by decide +kernel
theorem dX12_init_60 : decode cX12_init 60 = .ok (.lastore, 1) := by decide +kernel
theorem dX12_init_61 : decode cX12_init 61 = .ok (.dup, 1) := by decide +kernel
theorem dX12_init_62 : decode cX12_init 62 = .ok (.iconst 4, 1) := by decide +kernel
theorem dX12_init_63 : decode cX12_init 63 = .ok (.ldc2_w 31, 3) := by decide +kernel
theorem dX12_init_66 : decode cX12_init 66 = .ok (.lastore, 1) := by decide +kernel
theorem dX12_init_67 : decode cX12_init 67 = .ok (.dup, 1) := by decide +kernel
theorem dX12_init_68 : decode cX12_init 68 = .ok (.iconst 5, 1) := by decide +kernel
theorem dX12_init_69 : decode cX12_init 69 = .ok (.ldc2_w 33, 3) := by decide +kernel
theorem dX12_init_72 : decode cX12_init 72 = .ok (.lastore, 1) := by decide +kernel
theorem dX12_init_73 : decode cX12_init 73 = .ok (.dup, 1) := by decide +kernel
theorem dX12_init_74 : decode cX12_init 74 = .ok (.bipush 6, 2) := by decide +kernel
theorem dX12_init_76 : decode cX12_init 76 = .ok (.ldc2_w 35, 3) := by decide +kernel
theorem dX12_init_79 : decode cX12_init 79 = .ok (.lastore, 1) := by decide +kernel
theorem dX12_init_80 : decode cX12_init 80 = .ok (.dup, 1) := by decide +kernel
theorem dX12_init_81 : decode cX12_init 81 = .ok (.bipush 7, 2) := by decide +kernel
theorem dX12_init_83 : decode cX12_init 83 = .ok (.ldc2_w 37, 3) := by decide +kernel
theorem dX12_init_86 : decode cX12_init 86 = .ok (.lastore, 1) := by decide +kernel
theorem dX12_init_87 : decode cX12_init 87 = .ok (.dup, 1) := by decide +kernel
theorem dX12_init_88 : decode cX12_init 88 = .ok (.bipush 8, 2) := by decide +kernel
theorem dX12_init_90 : decode cX12_init 90 = .ok (.ldc2_w 39, 3) := by decide +kernel
theorem dX12_init_93 : decode cX12_init 93 = .ok (.lastore, 1) := by decide +kernel
theorem dX12_init_94 : decode cX12_init 94 = .ok (.dup, 1) := by decide +kernel
theorem dX12_init_95 : decode cX12_init 95 = .ok (.bipush 9, 2) := by decide +kernel
theorem dX12_init_97 : decode cX12_init 97 = .ok (.ldc2_w 41, 3) := by decide +kernel
theorem dX12_init_100 : decode cX12_init 100 = .ok (.lastore, 1) := by decide +kernel
theorem dX12_init_101 : decode cX12_init 101 = .ok (.dup, 1) := by decide +kernel
theorem dX12_init_102 : decode cX12_init 102 = .ok (.bipush 10, 2) := by decide +kernel
theorem dX12_init_104 : decode cX12_init 104 = .ok (.ldc2_w 43, 3) := by decide +kernel
theorem dX12_init_107 : decode cX12_init 107 = .ok (.lastore, 1) := by decide +kernel
theorem dX12_init_108 : decode cX12_init 108 = .ok (.dup, 1) := by decide +kernel
theorem dX12_init_109 : decode cX12_init 109 = .ok (.bipush 11, 2) := by decide +kernel
theorem dX12_init_111 : decode cX12_init 111 = .ok (.ldc2_w 45, 3) := by decide +kernel
theorem dX12_init_114 : decode cX12_init 114 = .ok (.lastore, 1) := by decide +kernel
theorem dX12_init_115 : decode cX12_init 115 = .ok (.dup, 1) := by decide +kernel
theorem dX12_init_116 : decode cX12_init 116 = .ok (.bipush 12, 2) := by decide +kernel
theorem dX12_init_118 : decode cX12_init 118 = .ok (.ldc2_w 47, 3) := by decide +kernel
theorem dX12_init_121 : decode cX12_init 121 = .ok (.lastore, 1) := by decide +kernel
theorem dX12_init_122 : decode cX12_init 122 = .ok (.dup, 1) := by decide +kernel
theorem dX12_init_123 : decode cX12_init 123 = .ok (.bipush 13, 2) := by decide +kernel
theorem dX12_init_125 : decode cX12_init 125 = .ok (.ldc2_w 49, 3) := by decide +kernel
theorem dX12_init_128 : decode cX12_init 128 = .ok (.lastore, 1) := by decide +kernel
theorem dX12_init_129 : decode cX12_init 129 = .ok (.dup, 1) := by decide +kernel
theorem dX12_init_130 : decode cX12_init 130 = .ok (.bipush 14, 2) := by decide +kernel
theorem dX12_init_132 : decode cX12_init 132 = .ok (.ldc2_w 51, 3) := by decide +kernel
theorem dX12_init_135 : decode cX12_init 135 = .ok (.lastore, 1) := by decide +kernel
theorem dX12_init_136 : decode cX12_init 136 = .ok (.dup, 1) := by decide +kernel
theorem dX12_init_137 : decode cX12_init 137 = .ok (.bipush 15, 2) := by decide +kernel
theorem dX12_init_139 : decode cX12_init 139 = .ok (.ldc2_w 53, 3) := by decide +kernel
theorem dX12_init_142 : decode cX12_init 142 = .ok (.lastore, 1) := by decide +kernel
theorem dX12_init_143 : decode cX12_init 143 = .ok (.dup, 1) := by decide +kernel
theorem dX12_init_144 : decode cX12_init 144 = .ok (.bipush 16, 2) := by decide +kernel
theorem dX12_init_146 : decode cX12_init 146 = .ok (.ldc2_w 55, 3) := by decide +kernel
theorem dX12_init_149 : decode cX12_init 149 = .ok (.lastore, 1) := by decide +kernel
theorem dX12_init_150 : decode cX12_init 150 = .ok (.dup, 1) := by decide +kernel
theorem dX12_init_151 : decode cX12_init 151 = .ok (.bipush 17, 2) := by decide +kernel
theorem dX12_init_153 : decode cX12_init 153 = .ok (.ldc2_w 57, 3) := by decide +kernel
theorem dX12_init_156 : decode cX12_init 156 = .ok (.lastore, 1) := by decide +kernel
theorem dX12_init_157 : decode cX12_init 157 = .ok (.dup, 1) := by decide +kernel
theorem dX12_init_158 : decode cX12_init 158 = .ok (.bipush 18, 2) := by decide +kernel
theorem dX12_init_160 : decode cX12_init 160 = .ok (.ldc2_w 59, 3) := by decide +kernel
theorem dX12_init_163 : decode cX12_init 163 = .ok (.lastore, 1) := by decide +kernel
theorem dX12_init_164 : decode cX12_init 164 = .ok (.dup, 1) := by decide +kernel
theorem dX12_init_165 : decode cX12_init 165 = .ok (.bipush 19, 2) := by decide +kernel
theorem dX12_init_167 : decode cX12_init 167 = .ok (.ldc2_w 61, 3) := by decide +kernel
theorem dX12_init_170 : decode cX12_init 170 = .ok (.lastore, 1) := by decide +kernel
theorem dX12_init_171 : decode cX12_init 171 = .ok (.dup, 1) := by decide +kernel
theorem dX12_init_172 : decode cX12_init 172 = .ok (.bipush 20, 2) := by decide +kernel
theorem dX12_init_174 : decode cX12_init 174 = .ok (.ldc2_w 63, 3) := by decide +kernel
theorem dX12_init_177 : decode cX12_init 177 = .ok (.lastore, 1) := by decide +kernel
theorem dX12_init_178 : decode cX12_init 178 = .ok (.dup, 1) := by decide +kernel
theorem dX12_init_179 : decode cX12_init 179 = .ok (.bipush 21, 2) := by decide +kernel
theorem dX12_init_181 : decode cX12_init 181 = .ok (.ldc2_w 65, 3) := by decide +kernel
theorem dX12_init_184 : decode cX12_init 184 = .ok (.lastore, 1) := by decide +kernel
theorem dX12_init_185 : decode cX12_init 185 = .ok (.dup, 1) := by decide +kernel
theorem dX12_init_186 : decode cX12_init 186 = .ok (.bipush 22, 2) := by decide +kernel
theorem dX12_init_188 : decode cX12_init 188 = .ok (.ldc2_w 67, 3) := by decide +kernel
theorem dX12_init_191 : decode cX12_init 191 = .ok (.lastore, 1) := by decide +kernel
theorem dX12_init_192 : decode cX12_init 192 = .ok (.dup, 1) := by decide +kernel
theorem dX12_init_193 : decode cX12_init 193 = .ok (.bipush 23, 2) := by decide +kernel
theorem dX12_init_195 : decode cX12_init 195 = .ok (.ldc2_w 69, 3) := by decide +kernel
theorem dX12_init_198 : decode cX12_init 198 = .ok (.lastore, 1) := by decide +kernel
theorem dX12_init_199 : decode cX12_init 199 = .ok (.dup, 1) := by decide +kernel
theorem dX12_init_200 : decode cX12_init 200 = .ok (.bipush 24, 2) := by decide +kernel
theorem dX12_init_202 : decode cX12_init 202 = .ok (.ldc2_w 71, 3) := by decide +kernel
theorem dX12_init_205 : decode cX12_init 205 = .ok (.lastore, 1) := by decide +kernel
theorem dX12_init_206 : decode cX12_init 206 = .ok (.dup, 1) := by decide +kernel
theorem dX12_init_207 : decode cX12_init 207 = .ok (.bipush 25, 2) := by decide +kernel
theorem dX12_init_209 : decode cX12_init 209 = .ok (.ldc2_w 73, 3) := by decide +kernel
theorem dX12_init_212 : decode cX12_init 212 = .ok (.lastore, 1) := by decide +kernel
theorem dX12_init_213 : decode cX12_init 213 = .ok (.putfield 75, 3) := by decide +kernel
theorem dX12_init_216 : decode cX12_init 216 = .ok (.aload_n 0, 1) := by decide +kernel
theorem dX12_init_217 : decode cX12_init 217 = .ok (.iconst 0, 1) := by decide +kernel
theorem dX12_init_218 : decode cX12_init 218 = .ok (.putfield 79, 3) := by decide +kernel
theorem dX12_init_221 : decode cX12_init 221 = .ok (.aload_n 0, 1) := by decide +kernel
theorem dX12_init_222 : decode cX12_init 222 = .ok (.sipush 3001, 3) := by decide +kernel
theorem dX12_init_225 : decode cX12_init 225 = .ok (.newarray .int, 2) := by decide +kernel
theorem dX12_init_227 : decode cX12_init 227 = .ok (.putfield 82, 3) := by decide +kernel
theorem dX12_init_230 : decode cX12_init 230 = .ok (.aload_n 0, 1) := by decide +kernel
theorem dX12_init_231 : decode cX12_init 231 = .ok (.sipush 3001, 3) := by decide +kernel
theorem dX12_init_234 : decode cX12_init 234 = .ok (.newarray .int, 2) := by decide +kernel
theorem dX12_init_236 : decode cX12_init 236 = .ok (.putfield 86, 3) := by decide +kernel
theorem dX12_init_239 : decode cX12_init 239 = .ok (.aload_n 0, 1) := by decide +kernel
theorem dX12_init_240 : decode cX12_init 240 = .ok (.sipush 3001, 3) := by decide +kernel
theorem dX12_init_243 : decode cX12_init 243 = .ok (.newarray .int, 2) := by decide +kernel
theorem dX12_init_245 : decode cX12_init 245 = .ok (.putfield 89, 3) := by decide +kernel
theorem dX12_init_248 : decode cX12_init 248 = .ok (.aload_n 0, 1) := by decide +kernel
theorem dX12_init_249 : decode cX12_init 249 = .ok (.sipush 3001, 3) := by decide +kernel
theorem dX12_init_252 : decode cX12_init 252 = .ok (.newarray .long, 2) := by decide +kernel
theorem dX12_init_254 : decode cX12_init 254 = .ok (.putfield 92, 3) := by decide +kernel
theorem dX12_init_257 : decode cX12_init 257 = .ok (.aload_n 0, 1) := by decide +kernel
theorem dX12_init_258 : decode cX12_init 258 = .ok (.sipush 3001, 3) := by decide +kernel
theorem dX12_init_261 : decode cX12_init 261 = .ok (.newarray .int, 2) := by decide +kernel
theorem dX12_init_263 : decode cX12_init 263 = .ok (.putfield 95, 3) := by decide +kernel
theorem dX12_init_266 : decode cX12_init 266 = .ok (.aload_n 0, 1) := by decide +kernel
theorem dX12_init_267 : decode cX12_init 267 = .ok (.sipush 8000, 3) := by decide +kernel
theorem dX12_init_270 : decode cX12_init 270 = .ok (.newarray .int, 2) := by decide +kernel
theorem dX12_init_272 : decode cX12_init 272 = .ok (.putfield 98, 3) := by decide +kernel
theorem dX12_init_275 : decode cX12_init 275 = .ok (.aload_n 0, 1) := by decide +kernel
theorem dX12_init_276 : decode cX12_init 276 = .ok (.sipush 8000, 3) := by decide +kernel
theorem dX12_init_279 : decode cX12_init 279 = .ok (.newarray .int, 2) := by decide +kernel
theorem dX12_init_281 : decode cX12_init 281 = .ok (.putfield 101, 3) := by decide +kernel
theorem dX12_init_284 : decode cX12_init 284 = .ok (.aload_n 0, 1) := by decide +kernel
theorem dX12_init_285 : decode cX12_init 285 = .ok (.sipush 8000, 3) := by decide +kernel
theorem dX12_init_288 : decode cX12_init 288 = .ok (.newarray .int, 2) := by decide +kernel
theorem dX12_init_290 : decode cX12_init 290 = .ok (.putfield 104, 3) := by decide +kernel
theorem dX12_init_293 : decode cX12_init 293 = .ok (.aload_n 0, 1) := by decide +kernel
theorem dX12_init_294 : decode cX12_init 294 = .ok (.sipush 8000, 3) := by decide +kernel
theorem dX12_init_297 : decode cX12_init 297 = .ok (.newarray .int, 2) := by decide +kernel
theorem dX12_init_299 : decode cX12_init 299 = .ok (.putfield 107, 3) := by decide +kernel
theorem dX12_init_302 : decode cX12_init 302 = .ok (.aload_n 0, 1) := by decide +kernel
theorem dX12_init_303 : decode cX12_init 303 = .ok (.sipush 8000, 3) := by decide +kernel
theorem dX12_init_306 : decode cX12_init 306 = .ok (.newarray .long, 2) := by decide +kernel
theorem dX12_init_308 : decode cX12_init 308 = .ok (.putfield 110, 3) := by decide +kernel
theorem dX12_init_311 : decode cX12_init 311 = .ok (.aload_n 0, 1) := by decide +kernel
theorem dX12_init_312 : decode cX12_init 312 = .ok (.iconst 0, 1) := by decide +kernel
theorem dX12_init_313 : decode cX12_init 313 = .ok (.putfield 113, 3) := by decide +kernel
theorem dX12_init_316 : decode cX12_init 316 = .ok (.aload_n 0, 1) := by decide +kernel
theorem dX12_init_317 : decode cX12_init 317 = .ok (.iconst 0, 1) := by decide +kernel
theorem dX12_init_318 : decode cX12_init 318 = .ok (.putfield 116, 3) := by decide +kernel
theorem dX12_init_321 : decode cX12_init 321 = .ok (.aload_n 0, 1) := by decide +kernel
theorem dX12_init_322 : decode cX12_init 322 = .ok (.iconst 0, 1) := by decide +kernel
theorem dX12_init_323 : decode cX12_init 323 = .ok (.putfield 119, 3) := by decide +kernel
theorem dX12_init_326 : decode cX12_init 326 = .ok (.aload_n 0, 1) := by decide +kernel
theorem dX12_init_327 : decode cX12_init 327 = .ok (.iconst 0, 1) := by decide +kernel
theorem dX12_init_328 : decode cX12_init 328 = .ok (.putfield 122, 3) := by decide +kernel
theorem dX12_init_331 : decode cX12_init 331 = .ok (.aload_n 0, 1) := by decide +kernel
theorem dX12_init_332 : decode cX12_init 332 = .ok (.iconst (-1), 1) := by decide +kernel
theorem dX12_init_333 : decode cX12_init 333 = .ok (.putfield 125, 3) := by decide +kernel
theorem dX12_init_336 : decode cX12_init 336 = .ok (.aload_n 0, 1) := by decide +kernel
theorem dX12_init_337 : decode cX12_init 337 = .ok (.iconst 0, 1) := by decide +kernel
theorem dX12_init_338 : decode cX12_init 338 = .ok (.putfield 128, 3) := by decide +kernel
theorem dX12_init_341 : decode cX12_init 341 = .ok (.aload_n 0, 1) := by decide +kernel
theorem dX12_init_342 : decode cX12_init 342 = .ok (.iconst 0, 1) := by decide +kernel
theorem dX12_init_343 : decode cX12_init 343 = .ok (.putfield 131, 3) := by decide +kernel
theorem dX12_init_346 : decode cX12_init 346 = .ok (.aload_n 0, 1) := by decide +kernel
theorem dX12_init_347 : decode cX12_init 347 = .ok (.iconst 0, 1) := by decide +kernel
theorem dX12_init_348 : decode cX12_init 348 = .ok (.putfield 134, 3) := by decide +kernel
theorem dX12_init_351 : decode cX12_init 351 = .ok (.aload_n 0, 1) := by decide +kernel
theorem dX12_init_352 : decode cX12_init 352 = .ok (.iconst 0, 1) := by decide +kernel
theorem dX12_init_353 : decode cX12_init 353 = .ok (.putfield 138, 3) := by decide +kernel
theorem dX12_init_356 : decode cX12_init 356 = .ok (.aload_n 0, 1) := by decide +kernel
theorem dX12_init_357 : decode cX12_init 357 = .ok (.sipush 3001, 3) := by decide +kernel
theorem dX12_init_360 : decode cX12_init 360 = .ok (.newarray .int, 2) := by decide +kernel
theorem dX12_init_362 : decode cX12_init 362 = .ok (.putfield 141, 3) := by decide +kernel
theorem dX12_init_365 : decode cX12_init 365 = .ok (.aload_n 0, 1) := by decide +kernel
theorem dX12_init_366 : decode cX12_init 366 = .ok (.sipush 3001, 3) := by decide +kernel
theorem dX12_init_369 : decode cX12_init 369 = .ok (.newarray .int, 2) := by decide +kernel
theorem dX12_init_371 : decode cX12_init 371 = .ok (.putfield 144, 3) := by decide +kernel
theorem dX12_init_374 : decode cX12_init 374 = .ok (.aload_n 0, 1) := by decide +kernel
theorem dX12_init_375 : decode cX12_init 375 = .ok (.sipush 3001, 3) := by decide +kernel
theorem dX12_init_378 : decode cX12_init 378 = .ok (.newarray .int, 2) := by decide +kernel
theorem dX12_init_380 : decode cX12_init 380 = .ok (.putfield 147, 3) := by decide +kernel
theorem dX12_init_383 : decode cX12_init 383 = .ok (.aload_n 0, 1) := by decide +kernel
theorem dX12_init_384 : decode cX12_init 384 = .ok (.sipush 3001, 3) := by decide +kernel
theorem dX12_init_387 : decode cX12_init 387 = .ok (.newarray .int, 2) := by decide +kernel
theorem dX12_init_389 : decode cX12_init 389 = .ok (.putfield 150, 3) := by decide +kernel
theorem dX12_init_392 : decode cX12_init 392 = .ok (.aload_n 0, 1) := by decide +kernel
theorem dX12_init_393 : decode cX12_init 393 = .ok (.sipush 3001, 3) := by decide +kernel
theorem dX12_init_396 : decode cX12_init 396 = .ok (.newarray .int, 2) := by decide +kernel
theorem dX12_init_398 : decode cX12_init 398 = .ok (.putfield 153, 3) := by decide +kernel
theorem dX12_init_401 : decode cX12_init 401 = .ok (.aload_n 0, 1) := by decide +kernel
theorem dX12_init_402 : decode cX12_init 402 = .ok (.iconst 0, 1) := by decide +kernel
theorem dX12_init_403 : decode cX12_init 403 = .ok (.putfield 156, 3) := by decide +kernel
theorem dX12_init_406 : decode cX12_init 406 = .ok (.aload_n 0, 1) := by decide +kernel
theorem dX12_init_407 : decode cX12_init 407 = .ok (.iconst 0, 1) := by decide +kernel
theorem dX12_init_408 : decode cX12_init 408 = .ok (.putfield 159, 3) := by decide +kernel
theorem dX12_init_411 : decode cX12_init 411 = .ok (.aload_n 0, 1) := by decide +kernel
theorem dX12_init_412 : decode cX12_init 412 = .ok (.iconst 0, 1) := by decide +kernel
theorem dX12_init_413 : decode cX12_init 413 = .ok (.putfield 162, 3) := by decide +kernel
theorem dX12_init_416 : decode cX12_init 416 = .ok (.aload_n 0, 1) := by decide +kernel
theorem dX12_init_417 : decode cX12_init 417 = .ok (.iconst 0, 1) := by decide +kernel
theorem dX12_init_418 : decode cX12_init 418 = .ok (.putfield 165, 3) := by decide +kernel
theorem dX12_init_421 : decode cX12_init 421 = .ok (.aload_n 0, 1) := by decide +kernel
theorem dX12_init_422 : decode cX12_init 422 = .ok (.sipush 400, 3) := by decide +kernel
theorem dX12_init_425 : decode cX12_init 425 = .ok (.newarray .int, 2) := by decide +kernel
theorem dX12_init_427 : decode cX12_init 427 = .ok (.putfield 168, 3) := by decide +kernel
theorem dX12_init_430 : decode cX12_init 430 = .ok (.aload_n 0, 1) := by decide +kernel
theorem dX12_init_431 : decode cX12_init 431 = .ok (.sipush 400, 3) := by decide +kernel
theorem dX12_init_434 : decode cX12_init 434 = .ok (.newarray .int, 2) := by decide +kernel
theorem dX12_init_436 : decode cX12_init 436 = .ok (.putfield 171, 3) := by decide +kernel
theorem dX12_init_439 : decode cX12_init 439 = .ok (.aload_n 0, 1) := by decide +kernel
theorem dX12_init_440 : decode cX12_init 440 = .ok (.sipush 400, 3) := by decide +kernel
theorem dX12_init_443 : decode cX12_init 443 = .ok (.newarray .boolean, 2) := by decide +kernel
theorem dX12_init_445 : decode cX12_init 445 = .ok (.putfield 174, 3) := by decide +kernel
theorem dX12_init_448 : decode cX12_init 448 = .ok (.aload_n 0, 1) := by decide +kernel
theorem dX12_init_449 : decode cX12_init 449 = .ok (.sipush 400, 3) := by decide +kernel
theorem dX12_init_452 : decode cX12_init 452 = .ok (.newarray .int, 2) := by decide +kernel
theorem dX12_init_454 : decode cX12_init 454 = .ok (.putfield 178, 3) := by decide +kernel
theorem dX12_init_457 : decode cX12_init 457 = .ok (.aload_n 0, 1) := by decide +kernel
theorem dX12_init_458 : decode cX12_init 458 = .ok (.sipush 400, 3) := by decide +kernel
theorem dX12_init_461 : decode cX12_init 461 = .ok (.newarray .int, 2) := by decide +kernel
theorem dX12_init_463 : decode cX12_init 463 = .ok (.putfield 181, 3) := by decide +kernel
theorem dX12_init_466 : decode cX12_init 466 = .ok (.aload_n 0, 1) := by decide +kernel
theorem dX12_init_467 : decode cX12_init 467 = .ok (.sipush 400, 3) := by decide +kernel
theorem dX12_init_470 : decode cX12_init 470 = .ok (.newarray .int, 2) := by decide +kernel
theorem dX12_init_472 : decode cX12_init 472 = .ok (.putfield 184, 3) := by decide +kernel
theorem dX12_init_475 : decode cX12_init 475 = .ok (.aload_n 0, 1) := by decide +kernel
theorem dX12_init_476 : decode cX12_init 476 = .ok (.sipush 400, 3) := by decide +kernel
theorem dX12_init_479 : decode cX12_init 479 = .ok (.newarray .int, 2) := by decide +kernel
theorem dX12_init_481 : decode cX12_init 481 = .ok (.putfield 187, 3) := by decide +kernel
theorem dX12_init_484 : decode cX12_init 484 = .ok (.aload_n 0, 1) := by decide +kernel
theorem dX12_init_485 : decode cX12_init 485 = .ok (.sipush 400, 3) := by decide +kernel
theorem dX12_init_488 : decode cX12_init 488 = .ok (.newarray .int, 2) := by decide +kernel
theorem dX12_init_490 : decode cX12_init 490 = .ok (.putfield 190, 3) := by decide +kernel
theorem dX12_init_493 : decode cX12_init 493 = .ok (.aload_n 0, 1) := by decide +kernel
theorem dX12_init_494 : decode cX12_init 494 = .ok (.sipush 400, 3) := by decide +kernel
theorem dX12_init_497 : decode cX12_init 497 = .ok (.newarray .int, 2) := by decide +kernel
theorem dX12_init_499 : decode cX12_init 499 = .ok (.putfield 193, 3) := by decide +kernel
theorem dX12_init_502 : decode cX12_init 502 = .ok (.aload_n 0, 1) := by decide +kernel
theorem dX12_init_503 : decode cX12_init 503 = .ok (.sipush 400, 3) := by decide +kernel
theorem dX12_init_506 : decode cX12_init 506 = .ok (.newarray .int, 2) := by decide +kernel
theorem dX12_init_508 : decode cX12_init 508 = .ok (.putfield 196, 3) := by decide +kernel
theorem dX12_init_511 : decode cX12_init 511 = .ok (.aload_n 0, 1) := by decide +kernel
theorem dX12_init_512 : decode cX12_init 512 = .ok (.sipush 400, 3) := by decide +kernel
theorem dX12_init_515 : decode cX12_init 515 = .ok (.newarray .int, 2) := by decide +kernel
theorem dX12_init_517 : decode cX12_init 517 = .ok (.putfield 199, 3) := by decide +kernel
theorem dX12_init_520 : decode cX12_init 520 = .ok (.aload_n 0, 1) := by decide +kernel
theorem dX12_init_521 : decode cX12_init 521 = .ok (.sipush 400, 3) := by decide +kernel
theorem dX12_init_524 : decode cX12_init 524 = .ok (.newarray .int, 2) := by decide +kernel
theorem dX12_init_526 : decode cX12_init 526 = .ok (.putfield 202, 3) := by decide +kernel
theorem dX12_init_529 : decode cX12_init 529 = .ok (.aload_n 0, 1) := by decide +kernel
theorem dX12_init_530 : decode cX12_init 530 = .ok (.sipush 400, 3) := by decide +kernel
theorem dX12_init_533 : decode cX12_init 533 = .ok (.newarray .int, 2) := by decide +kernel
theorem dX12_init_535 : decode cX12_init 535 = .ok (.putfield 205, 3) := by decide +kernel
theorem dX12_init_538 : decode cX12_init 538 = .ok (.aload_n 0, 1) := by decide +kernel
theorem dX12_init_539 : decode cX12_init 539 = .ok (.sipush 400, 3) := by decide +kernel
theorem dX12_init_542 : decode cX12_init 542 = .ok (.newarray .int, 2) := by decide +kernel
theorem dX12_init_544 : decode cX12_init 544 = .ok (.putfield 208, 3) := by decide +kernel
theorem dX12_init_547 : decode cX12_init 547 = .ok (.aload_n 0, 1) := by decide +kernel
theorem dX12_init_548 : decode cX12_init 548 = .ok (.sipush 400, 3) := by decide +kernel
theorem dX12_init_551 : decode cX12_init 551 = .ok (.newarray .int, 2) := by decide +kernel
theorem dX12_init_553 : decode cX12_init 553 = .ok (.putfield 211, 3) := by decide +kernel
theorem dX12_init_556 : decode cX12_init 556 = .ok (.aload_n 0, 1) := by decide +kernel
theorem dX12_init_557 : decode cX12_init 557 = .ok (.sipush 400, 3) := by decide +kernel
theorem dX12_init_560 : decode cX12_init 560 = .ok (.newarray .int, 2) := by decide +kernel
theorem dX12_init_562 : decode cX12_init 562 = .ok (.putfield 214, 3) := by decide +kernel
theorem dX12_init_565 : decode cX12_init 565 = .ok (.aload_n 0, 1) := by decide +kernel
theorem dX12_init_566 : decode cX12_init 566 = .ok (.sipush 400, 3) := by decide +kernel
theorem dX12_init_569 : decode cX12_init 569 = .ok (.newarray .int, 2) := by decide +kernel
theorem dX12_init_571 : decode cX12_init 571 = .ok (.putfield 217, 3) := by decide +kernel
theorem dX12_init_574 : decode cX12_init 574 = .ok (.aload_n 0, 1) := by decide +kernel
theorem dX12_init_575 : decode cX12_init 575 = .ok (.sipush 400, 3) := by decide +kernel
theorem dX12_init_578 : decode cX12_init 578 = .ok (.newarray .int, 2) := by decide +kernel
theorem dX12_init_580 : decode cX12_init 580 = .ok (.putfield 220, 3) := by decide +kernel
theorem dX12_init_583 : decode cX12_init 583 = .ok (.aload_n 0, 1) := by decide +kernel
theorem dX12_init_584 : decode cX12_init 584 = .ok (.sipush 400, 3) := by decide +kernel
theorem dX12_init_587 : decode cX12_init 587 = .ok (.newarray .int, 2) := by decide +kernel
theorem dX12_init_589 : decode cX12_init 589 = .ok (.putfield 223, 3) := by decide +kernel
theorem dX12_init_592 : decode cX12_init 592 = .ok (.aload_n 0, 1) := by decide +kernel
theorem dX12_init_593 : decode cX12_init 593 = .ok (.sipush 1600, 3) := by decide +kernel
theorem dX12_init_596 : decode cX12_init 596 = .ok (.newarray .long, 2) := by decide +kernel
theorem dX12_init_598 : decode cX12_init 598 = .ok (.putfield 226, 3) := by decide +kernel
theorem dX12_init_601 : decode cX12_init 601 = .ok (.aload_n 0, 1) := by decide +kernel
theorem dX12_init_602 : decode cX12_init 602 = .ok (.sipush 400, 3) := by decide +kernel
theorem dX12_init_605 : decode cX12_init 605 = .ok (.newarray .int, 2) := by decide +kernel
theorem dX12_init_607 : decode cX12_init 607 = .ok (.putfield 229, 3) := by decide +kernel
theorem dX12_init_610 : decode cX12_init 610 = .ok (.aload_n 0, 1) := by decide +kernel
theorem dX12_init_611 : decode cX12_init 611 = .ok (.iconst 0, 1) := by decide +kernel
theorem dX12_init_612 : decode cX12_init 612 = .ok (.putfield 232, 3) := by decide +kernel
theorem dX12_init_615 : decode cX12_init 615 = .ok (.aload_n 0, 1) := by decide +kernel
theorem dX12_init_616 : decode cX12_init 616 = .ok (.iconst 0, 1) := by decide +kernel
theorem dX12_init_617 : decode cX12_init 617 = .ok (.putfield 235, 3) := by decide +kernel
theorem dX12_init_620 : decode cX12_init 620 = .ok (.aload_n 0, 1) := by decide +kernel
theorem dX12_init_621 : decode cX12_init 621 = .ok (.iconst 0, 1) := by decide +kernel
theorem dX12_init_622 : decode cX12_init 622 = .ok (.putfield 238, 3) := by decide +kernel
theorem dX12_init_625 : decode cX12_init 625 = .ok (.aload_n 0, 1) := by decide +kernel
theorem dX12_init_626 : decode cX12_init 626 = .ok (.iconst 0, 1) := by decide +kernel
theorem dX12_init_627 : decode cX12_init 627 = .ok (.putfield 241, 3) := by decide +kernel
theorem dX12_init_630 : decode cX12_init 630 = .ok (.aload_n 0, 1) := by decide +kernel
theorem dX12_init_631 : decode cX12_init 631 = .ok (.iconst 0, 1) := by decide +kernel
theorem dX12_init_632 : decode cX12_init 632 = .ok (.putfield 244, 3) := by decide +kernel
theorem dX12_init_635 : decode cX12_init 635 = .ok (.aload_n 0, 1) := by decide +kernel
theorem dX12_init_636 : decode cX12_init 636 = .ok (.iconst 0, 1) := by decide +kernel
theorem dX12_init_637 : decode cX12_init 637 = .ok (.putfield 247, 3) := by decide +kernel
theorem dX12_init_640 : decode cX12_init 640 = .ok (.aload_n 0, 1) := by decide +kernel
theorem dX12_init_641 : decode cX12_init 641 = .ok (.iconst 0, 1) := by decide +kernel
theorem dX12_init_642 : decode cX12_init 642 = .ok (.putfield 250, 3) := by decide +kernel
theorem dX12_init_645 : decode cX12_init 645 = .ok (.aload_n 0, 1) := by decide +kernel
theorem dX12_init_646 : decode cX12_init 646 = .ok (.sipush 600, 3) := by decide +kernel
theorem dX12_init_649 : decode cX12_init 649 = .ok (.newarray .byte, 2) := by decide +kernel
theorem dX12_init_651 : decode cX12_init 651 = .ok (.putfield 253, 3) := by decide +kernel
theorem dX12_init_654 : decode cX12_init 654 = .ok (.aload_n 0, 1) := by decide +kernel
theorem dX12_init_655 : decode cX12_init 655 = .ok (.bipush 60, 2) := by decide +kernel
theorem dX12_init_657 : decode cX12_init 657 = .ok (.newarray .int, 2) := by decide +kernel
theorem dX12_init_659 : decode cX12_init 659 = .ok (.putfield 256, 3) := by decide +kernel
theorem dX12_init_662 : decode cX12_init 662 = .ok (.aload_n 0, 1) := by decide +kernel
theorem dX12_init_663 : decode cX12_init 663 = .ok (.bipush 40, 2) := by decide +kernel
theorem dX12_init_665 : decode cX12_init 665 = .ok (.newarray .int, 2) := by decide +kernel
theorem dX12_init_667 : decode cX12_init 667 = .ok (.putfield 259, 3) := by decide +kernel
theorem dX12_init_670 : decode cX12_init 670 = .ok (.aload_n 0, 1) := by decide +kernel
theorem dX12_init_671 : decode cX12_init 671 = .ok (.bipush 40, 2) := by decide +kernel
theorem dX12_init_673 : decode cX12_init 673 = .ok (.newarray .boolean, 2) := by decide +kernel
theorem dX12_init_675 : decode cX12_init 675 = .ok (.putfield 262, 3) := by decide +kernel
theorem dX12_init_678 : decode cX12_init 678 = .ok (.aload_n 0, 1) := by decide +kernel
theorem dX12_init_679 : decode cX12_init 679 = .ok (.bipush 40, 2) := by decide +kernel
theorem dX12_init_681 : decode cX12_init 681 = .ok (.newarray .int, 2) := by decide +kernel
theorem dX12_init_683 : decode cX12_init 683 = .ok (.putfield 265, 3) := by decide +kernel
theorem dX12_init_686 : decode cX12_init 686 = .ok (.aload_n 0, 1) := by decide +kernel
theorem dX12_init_687 : decode cX12_init 687 = .ok (.bipush 40, 2) := by decide +kernel
theorem dX12_init_689 : decode cX12_init 689 = .ok (.newarray .int, 2) := by decide +kernel
theorem dX12_init_691 : decode cX12_init 691 = .ok (.putfield 268, 3) := by decide +kernel
theorem dX12_init_694 : decode cX12_init 694 = .ok (.aload_n 0, 1) := by decide +kernel
theorem dX12_init_695 : decode cX12_init 695 = .ok (.bipush 40, 2) := by decide +kernel
theorem dX12_init_697 : decode cX12_init 697 = .ok (.newarray .int, 2) := by decide +kernel
theorem dX12_init_699 : decode cX12_init 699 = .ok (.putfield 271, 3) := by decide +kernel
theorem dX12_init_702 : decode cX12_init 702 = .ok (.aload_n 0, 1) := by decide +kernel
theorem dX12_init_703 : decode cX12_init 703 = .ok (.bipush 40, 2) := by decide +kernel
theorem dX12_init_705 : decode cX12_init 705 = .ok (.newarray .int, 2) := by decide +kernel
theorem dX12_init_707 : decode cX12_init 707 = .ok (.putfield 274, 3) := by decide +kernel
theorem dX12_init_710 : decode cX12_init 710 = .ok (.aload_n 0, 1) := by decide +kernel
theorem dX12_init_711 : decode cX12_init 711 = .ok (.bipush 40, 2) := by decide +kernel
theorem dX12_init_713 : decode cX12_init 713 = .ok (.newarray .int, 2) := by decide +kernel
theorem dX12_init_715 : decode cX12_init 715 = .ok (.putfield 277, 3) := by decide +kernel
theorem dX12_init_718 : decode cX12_init 718 = .ok (.aload_n 0, 1) := by decide +kernel
theorem dX12_init_719 : decode cX12_init 719 = .ok (.bipush 12, 2) := by decide +kernel
theorem dX12_init_721 : decode cX12_init 721 = .ok (.newarray .int, 2) := by decide +kernel
theorem dX12_init_723 : decode cX12_init 723 = .ok (.putfield 280, 3) := by decide +kernel
theorem dX12_init_726 : decode cX12_init 726 = .ok (.aload_n 0, 1) := by decide +kernel
theorem dX12_init_727 : decode cX12_init 727 = .ok (.bipush 12, 2) := by decide +kernel
theorem dX12_init_729 : decode cX12_init 729 = .ok (.newarray .int, 2) := by decide +kernel
theorem dX12_init_731 : decode cX12_init 731 = .ok (.putfield 283, 3) := by decide +kernel
theorem dX12_init_734 : decode cX12_init 734 = .ok (.aload_n 0, 1) := by decide +kernel
theorem dX12_init_735 : decode cX12_init 735 = .ok (.bipush 52, 2) := by decide +kernel
theorem dX12_init_737 : decode cX12_init 737 = .ok (.newarray .int, 2) := by decide +kernel
theorem dX12_init_739 : decode cX12_init 739 = .ok (.putfield 286, 3) := by decide +kernel
theorem dX12_init_742 : decode cX12_init 742 = .ok (.aload_n 0, 1) := by decide +kernel
theorem dX12_init_743 : decode cX12_init 743 = .ok (.iconst 0, 1) := by decide +kernel
theorem dX12_init_744 : decode cX12_init 744 = .ok (.putfield 289, 3) := by decide +kernel
theorem dX12_init_747 : decode cX12_init 747 = .ok (.aload_n 0, 1) := by decide +kernel
theorem dX12_init_748 : decode cX12_init 748 = .ok (.bipush 8, 2) := by decide +kernel
theorem dX12_init_750 : decode cX12_init 750 = .ok (.newarray .int, 2) := by decide +kernel
theorem dX12_init_752 : decode cX12_init 752 = .ok (.putfield 292, 3) := by decide +kernel
theorem dX12_init_755 : decode cX12_init 755 = .ok (.aload_n 0, 1) := by decide +kernel
theorem dX12_init_756 : decode cX12_init 756 = .ok (.sipush 192, 3) := by decide +kernel
theorem dX12_init_759 : decode cX12_init 759 = .ok (.newarray .long, 2) := by decide +kernel
theorem dX12_init_761 : decode cX12_init 761 = .ok (.putfield 295, 3) := by decide +kernel
theorem dX12_init_764 : decode cX12_init 764 = .ok (.aload_n 0, 1) := by decide +kernel
theorem dX12_init_765 : decode cX12_init 765 = .ok (.bipush 40, 2) := by decide +kernel
theorem dX12_init_767 : decode cX12_init 767 = .ok (.newarray .long, 2) := by decide +kernel
theorem dX12_init_769 : decode cX12_init 769 = .ok (.putfield 298, 3) := by decide +kernel
theorem dX12_init_772 : decode cX12_init 772 = .ok (.aload_n 0, 1) := by decide +kernel
theorem dX12_init_773 : decode cX12_init 773 = .ok (.bipush 40, 2) := by decide +kernel
theorem dX12_init_775 : decode cX12_init 775 = .ok (.newarray .long, 2) := by decide +kernel
theorem dX12_init_777 : decode cX12_init 777 = .ok (.putfield 301, 3) := by decide +kernel
theorem dX12_init_780 : decode cX12_init 780 = .ok (.aload_n 0, 1) := by decide +kernel
theorem dX12_init_781 : decode cX12_init 781 = .ok (.sipush 1280, 3) := by decide +kernel
theorem dX12_init_784 : decode cX12_init 784 = .ok (.newarray .long, 2) := by decide +kernel
theorem dX12_init_786 : decode cX12_init 786 = .ok (.putfield 304, 3) := by decide +kernel
theorem dX12_init_789 : decode cX12_init 789 = .ok (.aload_n 0, 1) := by decide +kernel
theorem dX12_init_790 : decode cX12_init 790 = .ok (.bipush 52, 2) := by decide +kernel
theorem dX12_init_792 : decode cX12_init 792 = .ok (.newarray .int, 2) := by decide +kernel
theorem dX12_init_794 : decode cX12_init 794 = .ok (.putfield 307, 3) := by decide +kernel
theorem dX12_init_797 : decode cX12_init 797 = .ok (.aload_n 0, 1) := by decide +kernel
theorem dX12_init_798 : decode cX12_init 798 = .ok (.bipush 52, 2) := by decide +kernel
theorem dX12_init_800 : decode cX12_init 800 = .ok (.newarray .int, 2) := by decide +kernel
theorem dX12_init_802 : decode cX12_init 802 = .ok (.putfield 310, 3) := by decide +kernel
theorem dX12_init_805 : decode cX12_init 805 = .ok (.aload_n 0, 1) := by decide +kernel
theorem dX12_init_806 : decode cX12_init 806 = .ok (.bipush 52, 2) := by decide +kernel
theorem dX12_init_808 : decode cX12_init 808 = .ok (.newarray .int, 2) := by decide +kernel
theorem dX12_init_810 : decode cX12_init 810 = .ok (.putfield 313, 3) := by decide +kernel
theorem dX12_init_813 : decode cX12_init 813 = .ok (.aload_n 0, 1) := by decide +kernel
theorem dX12_init_814 : decode cX12_init 814 = .ok (.bipush 12, 2) := by decide +kernel
theorem dX12_init_816 : decode cX12_init 816 = .ok (.newarray .int, 2) := by decide +kernel
theorem dX12_init_818 : decode cX12_init 818 = .ok (.putfield 316, 3) := by decide +kernel
theorem dX12_init_821 : decode cX12_init 821 = .ok (.aload_n 0, 1) := by decide +kernel
theorem dX12_init_822 : decode cX12_init 822 = .ok (.lconst 0, 1) := by decide +kernel
theorem dX12_init_823 : decode cX12_init 823 = .ok (.putfield 319, 3) := by decide +kernel
theorem dX12_init_826 : decode cX12_init 826 = .ok (.aload_n 0, 1) := by decide +kernel
theorem dX12_init_827 : decode cX12_init 827 = .ok (.iconst 0, 1) := by decide +kernel
theorem dX12_init_828 : decode cX12_init 828 = .ok (.putfield 323, 3) := by decide +kernel
theorem dX12_init_831 : decode cX12_init 831 = .ok (.aload_n 0, 1) := by decide +kernel
theorem dX12_init_832 : decode cX12_init 832 = .ok (.bipush 64, 2) := by decide +kernel
theorem dX12_init_834 : decode cX12_init 834 = .ok (.newarray .long, 2) := by decide +kernel
theorem dX12_init_836 : decode cX12_init 836 = .ok (.putfield 326, 3) := by decide +kernel
theorem dX12_init_839 : decode cX12_init 839 = .ok (.aload_n 0, 1) := by decide +kernel
theorem dX12_init_840 : decode cX12_init 840 = .ok (.bipush 64, 2) := by decide +kernel
theorem dX12_init_842 : decode cX12_init 842 = .ok (.newarray .int, 2) := by decide +kernel
theorem dX12_init_844 : decode cX12_init 844 = .ok (.putfield 329, 3) := by decide +kernel
theorem dX12_init_847 : decode cX12_init 847 = .ok (.aload_n 0, 1) := by decide +kernel
theorem dX12_init_848 : decode cX12_init 848 = .ok (.ldc2_w 332, 3) := by decide +kernel
theorem dX12_init_851 : decode cX12_init 851 = .ok (.putfield 334, 3) := by decide +kernel
theorem dX12_init_854 : decode cX12_init 854 = .ok (.aload_n 0, 1) := by decide +kernel
theorem dX12_init_855 : decode cX12_init 855 = .ok (.sipush 400, 3) := by decide +kernel
theorem dX12_init_858 : decode cX12_init 858 = .ok (.newarray .long, 2) := by decide +kernel
theorem dX12_init_860 : decode cX12_init 860 = .ok (.putfield 337, 3) := by decide +kernel
theorem dX12_init_863 : decode cX12_init 863 = .ok (.aload_n 0, 1) := by decide +kernel
theorem dX12_init_864 : decode cX12_init 864 = .ok (.iconst 0, 1) := by decide +kernel
theorem dX12_init_865 : decode cX12_init 865 = .ok (.putfield 340, 3) := by decide +kernel
theorem dX12_init_868 : decode cX12_init 868 = .ok (.aload_n 0, 1) := by decide +kernel
theorem dX12_init_869 : decode cX12_init 869 = .ok (.lconst 0, 1) := by decide +kernel
theorem dX12_init_870 : decode cX12_init 870 = .ok (.putfield 343, 3) := by decide +kernel
theorem dX12_init_873 : decode cX12_init 873 = .ok (.aload_n 0, 1) := by decide +kernel
theorem dX12_init_874 : decode cX12_init 874 = .ok (.iconst 0, 1) := by decide +kernel
theorem dX12_init_875 : decode cX12_init 875 = .ok (.putfield 346, 3) := by decide +kernel
theorem dX12_init_878 : decode cX12_init 878 = .ok (.aload_n 0, 1) := by decide +kernel
theorem dX12_init_879 : decode cX12_init 879 = .ok (.iconst 0, 1) := by decide +kernel
theorem dX12_init_880 : decode cX12_init 880 = .ok (.putfield 349, 3) := by decide +kernel
theorem dX12_init_883 : decode cX12_init 883 = .ok (.aload_n 0, 1) := by decide +kernel
theorem dX12_init_884 : decode cX12_init 884 = .ok (.lconst 0, 1) := by decide +kernel
theorem dX12_init_885 : decode cX12_init 885 = .ok (.putfield 352, 3) := by decide +kernel
theorem dX12_init_888 : decode cX12_init 888 = .ok (.aload_n 0, 1) := by decide +kernel
theorem dX12_init_889 : decode cX12_init 889 = .ok (.bipush 100, 2) := by decide +kernel
theorem dX12_init_891 : decode cX12_init 891 = .ok (.newarray .byte, 2) := by decide +kernel
theorem dX12_init_893 : decode cX12_init 893 = .ok (.putfield 355, 3) := by decide +kernel
theorem dX12_init_896 : decode cX12_init 896 = .ok (.aload_n 0, 1) := by decide +kernel
theorem dX12_init_897 : decode cX12_init 897 = .ok (.iconst 0, 1) := by decide +kernel
theorem dX12_init_898 : decode cX12_init 898 = .ok (.putfield 358, 3) := by decide +kernel
theorem dX12_init_901 : decode cX12_init 901 = .ok (.aload_n 0, 1) := by decide +kernel
theorem dX12_init_902 : decode cX12_init 902 = .ok (.bipush 30, 2) := by decide +kernel
theorem dX12_init_904 : decode cX12_init 904 = .ok (.newarray .byte, 2) := by decide +kernel
theorem dX12_init_906 : decode cX12_init 906 = .ok (.putfield 361, 3) := by decide +kernel
theorem dX12_init_909 : decode cX12_init 909 = .ok (.aload_n 0, 1) := by decide +kernel
theorem dX12_init_910 : decode cX12_init 910 = .ok (.iconst 0, 1) := by decide +kernel
theorem dX12_init_911 : decode cX12_init 911 = .ok (.putfield 364, 3) := by decide +kernel
theorem dX12_init_914 : decode cX12_init 914 = .ok (.aload_n 0, 1) := by decide +kernel
theorem dX12_init_915 : decode cX12_init 915 = .ok (.iconst 4, 1) := by decide +kernel
theorem dX12_init_916 : decode cX12_init 916 = .ok (.newarray .int, 2) := by decide +kernel
theorem dX12_init_918 : decode cX12_init 918 = .ok (.putfield 367, 3) := by decide +kernel
theorem dX12_init_921 : decode cX12_init 921 = .ok (.aload_n 0, 1) := by decide +kernel
theorem dX12_init_922 : decode cX12_init 922 = .ok (.iconst 4, 1) := by decide +kernel
theorem dX12_init_923 : decode cX12_init 923 = .ok (.newarray .int, 2) := by decide +kernel
theorem dX12_init_925 : decode cX12_init 925 = .ok (.putfield 370, 3) := by decide +kernel
theorem dX12_init_928 : decode cX12_init 928 = .ok (.aload_n 0, 1) := by decide +kernel
theorem dX12_init_929 : decode cX12_init 929 = .ok (.sipush 160, 3) := by decide +kernel
theorem dX12_init_932 : decode cX12_init 932 = .ok (.newarray .long, 2) := by decide +kernel
theorem dX12_init_934 : decode cX12_init 934 = .ok (.putfield 373, 3) := by decide +kernel
theorem dX12_init_937 : decode cX12_init 937 = .ok (.aload_n 0, 1) := by decide +kernel
theorem dX12_init_938 : decode cX12_init 938 = .ok (.sipush 160, 3) := by decide +kernel
theorem dX12_init_941 : decode cX12_init 941 = .ok (.newarray .long, 2) := by decide +kernel
theorem dX12_init_943 : decode cX12_init 943 = .ok (.putfield 376, 3) := by decide +kernel
theorem dX12_init_946 : decode cX12_init 946 = .ok (.aload_n 0, 1) := by decide +kernel
theorem dX12_init_947 : decode cX12_init 947 = .ok (.sipush 5120, 3) := by decide +kernel
theorem dX12_init_950 : decode cX12_init 950 = .ok (.newarray .long, 2) := by decide +kernel
theorem dX12_init_952 : decode cX12_init 952 = .ok (.putfield 379, 3) := by decide +kernel
theorem dX12_init_955 : decode cX12_init 955 = .ok (.aload_n 0, 1) := by decide +kernel
theorem dX12_init_956 : decode cX12_init 956 = .ok (.sipush 624, 3) := by decide +kernel
theorem dX12_init_959 : decode cX12_init 959 = .ok (.newarray .int, 2) := by decide +kernel
theorem dX12_init_961 : decode cX12_init 961 = .ok (.putfield 382, 3) := by decide +kernel
theorem dX12_init_964 : decode cX12_init 964 = .ok (.aload_n 0, 1) := by decide +kernel
theorem dX12_init_965 : decode cX12_init 965 = .ok (.bipush 48, 2) := by decide +kernel
theorem dX12_init_967 : decode cX12_init 967 = .ok (.newarray .int, 2) := by decide +kernel
theorem dX12_init_969 : decode cX12_init 969 = .ok (.putfield 385, 3) := by decide +kernel
theorem dX12_init_972 : decode cX12_init 972 = .ok (.aload_n 0, 1) := by decide +kernel
theorem dX12_init_973 : decode cX12_init 973 = .ok (.iconst 4, 1) := by decide +kernel
theorem dX12_init_974 : decode cX12_init 974 = .ok (.newarray .long, 2) := by decide +kernel
theorem dX12_init_976 : decode cX12_init 976 = .ok (.putfield 388, 3) := by decide +kernel
theorem dX12_init_979 : decode cX12_init 979 = .ok (.aload_n 0, 1) := by decide +kernel
theorem dX12_init_980 : decode cX12_init 980 = .ok (.iconst 4, 1) := by decide +kernel
theorem dX12_init_981 : decode cX12_init 981 = .ok (.newarray .int, 2) := by decide +kernel
theorem dX12_init_983 : decode cX12_init 983 = .ok (.putfield 391, 3) := by decide +kernel
theorem dX12_init_986 : decode cX12_init 986 = .ok (.aload_n 0, 1) := by decide +kernel
theorem dX12_init_987 : decode cX12_init 987 = .ok (.sipush 256, 3) := by decide +kernel
theorem dX12_init_990 : decode cX12_init 990 = .ok (.newarray .long, 2) := by decide +kernel
theorem dX12_init_992 : decode cX12_init 992 = .ok (.putfield 394, 3) := by decide +kernel
theorem dX12_init_995 : decode cX12_init 995 = .ok (.aload_n 0, 1) := by decide +kernel
theorem dX12_init_996 : decode cX12_init 996 = .ok (.sipush 256, 3) := by decide +kernel
theorem dX12_init_999 : decode cX12_init 999 = .ok (.newarray .int, 2) := by decide +kernel
theorem dX12_init_1001 : decode cX12_init 1001 = .ok (.putfield 397, 3) := by decide +kernel
theorem dX12_init_1004 : decode cX12_init 1004 = .ok (.aload_n 0, 1) := by decide +kernel
theorem dX12_init_1005 : decode cX12_init 1005 = .ok (.iconst 4, 1) := by decide +kernel
theorem dX12_init_1006 : decode cX12_init 1006 = .ok (.newarray .long, 2) := by decide +kernel
theorem dX12_init_1008 : decode cX12_init 1008 = .ok (.putfield 400, 3) := by decide +kernel
theorem dX12_init_1011 : decode cX12_init 1011 = .ok (.return_, 1) := by decide +kernel
def w26 (j : Nat) : Int64 := ([1885434484, 1936224119, 6513005, 1650814060, 1952998766, 2003330414, 7302244, 1937007984, 499984329587, 439905906546, 1667590508, 1919512180, 6382195, 465557353332, 1836020596, 6775652, 1953658213, 439721161573, 500136506472, 1652126821, 495673373300, 1667785074, 6909556, 1819242087, 439905902964, 110429873532005] : List Int64).getD j 0
def g0X12 : Gs := sLA (sL (sI g00 23 (-1 : Int32)) 91 (4607182418800017408 : Int64)) 7 w26
/-! the reference's constructor: the world while the fields below k are made -/
def cF (a : Nat → Nat) (k : Nat) : Nat → Value := fun j => if j < k then fld kdX12 a g0X12 j else dfl kdX12 j
def cR (a : Nat → Nat) (y : Nat → ClassId) (k : Nat) : va_W := (ksX12.filter (fun j => decide (j < k))).map (arF akX12 lnX12 a y g0X12)
def cT (y : Nat → ClassId) (k : Nat) : List (ClassId × FieldType) := (ksX12.filter (fun j => decide (j < k))).map (fun j => (y j, tkX12 j))
def Md (D : Dx) (A : Nat → Prop) (s : State) (H : Heap) (locs : List Loc) (h k : Nat) : Prop := ∃ (a : Nat → Nat) (y : Nat → ClassId), Hx D (cT y k) A s H locs ((h, .inr (12, (List.range 114).map (cF a k))) :: cR a y k)
theorem cF_same {a : Nat → Nat} {k : Nat} {v : Value} (hv : ∀ a, fld kdX12 a g0X12 k = v) : (List.range 114).map (va_up (cF a k) k v) = (List.range 114).map (cF a (k + 1)) := by
  refine List.map_congr_left (fun j _ => ?_)
  unfold va_up cF
  by_cases h1 : j = k
  · subst h1; rw [if_pos rfl, if_pos (Nat.lt_succ_self _), hv]
  · rw [if_neg h1]
    by_cases h2 : j < k
    · rw [if_pos h2, if_pos (by omega)]
    · rw [if_neg h2, if_neg (by omega)]
theorem fld_ne {kd : Nat → Nat} {a : Nat → Nat} {g : Gs} {j k q : Nat} (h : j ≠ k) : fld kd (va_up a k q) g j = fld kd a g j := by
  unfold fld; rw [va_up_ne _ _ h]
theorem fld_eq {kd : Nat → Nat} {a : Nat → Nat} {g : Gs} {k q : Nat} (h : kd k = 3) : fld kd (va_up a k q) g k = .ref q := by
  unfold fld; rw [h]; show Value.ref _ = _; rw [va_up_self]
theorem cF_arr {a : Nat → Nat} {k q : Nat} (hk : kdX12 k = 3) : (List.range 114).map (va_up (cF a k) k (.ref q)) = (List.range 114).map (cF (va_up a k q) (k + 1)) := by
  refine List.map_congr_left (fun j _ => ?_)
  unfold cF
  by_cases h1 : j = k
  · subst h1; rw [if_pos (Nat.lt_succ_self _), va_up_self, fld_eq hk]
  · rw [va_up_ne _ _ h1]
    by_cases h2 : j < k
    · rw [if_pos h2, if_pos (by omega), fld_ne h1]
    · rw [if_neg h2, if_neg (by omega)]
theorem cR_arr {a : Nat → Nat} {y : Nat → ClassId} {k q : Nat} {y1 : ClassId} (hf : ksX12.filter (fun j => decide (j < k + 1)) = ksX12.filter (fun j => decide (j < k)) ++ [k]) : cR a y k ++ [(q, .inl (y1, lnX12 k, arC akX12 g0X12 k))] = cR (va_up a k q) (va_up y k y1) (k + 1) := by
  unfold cR
  rw [hf, List.map_append]
  refine congr (congrArg _ (List.map_congr_left (fun j hj => ?_))) ?_
  · have h := (List.mem_filter.mp hj).2
    have h : j < k := of_decide_eq_true h
    unfold arF
    rw [va_up_ne _ _ (by omega), va_up_ne _ _ (by omega)]
  · show [_] = [arF akX12 lnX12 (va_up a k q) (va_up y k y1) g0X12 k]
    unfold arF
    rw [va_up_self, va_up_self]
theorem cT_arr {y : Nat → ClassId} {k : Nat} {y1 : ClassId} {ty : FieldType} (ht : tkX12 k = ty) (hf : ksX12.filter (fun j => decide (j < k + 1)) = ksX12.filter (fun j => decide (j < k)) ++ [k]) : cT y k ++ [(y1, ty)] = cT (va_up y k y1) (k + 1) := by
  unfold cT
  rw [hf, List.map_append]
  refine congr (congrArg _ (List.map_congr_left (fun j hj => ?_))) ?_
  · have h := (List.mem_filter.mp hj).2
    have h : j < k := of_decide_eq_true h
    rw [va_up_ne _ _ (by omega)]
  · show [_] = [(va_up y k y1 k, tkX12 k)]
    rw [va_up_self, ht]
theorem Md_arr {D : Dx} {A : Nat → Prop} {s : State} {H : Heap} {locs : List Loc} {h k q : Nat} {a : Nat → Nat} {y : Nat → ClassId} {y1 : ClassId} {ty : FieldType} (hkd : kdX12 k = 3) (htk : tkX12 k = ty) (hf : ksX12.filter (fun j => decide (j < k + 1)) = ksX12.filter (fun j => decide (j < k)) ++ [k]) (X : Hx D (cT y k ++ [(y1, ty)]) A s H locs ((h, .inr (12, (List.range 114).map (va_up (cF a k) k (.ref q)))) :: (cR a y k ++ [(q, .inl (y1, lnX12 k, arC akX12 g0X12 k))]))) : Md D A s H locs h (k + 1) := by
  rw [cF_arr hkd, cR_arr hf, cT_arr htk hf] at X
  exact ⟨_, _, X⟩
section C12
variable {p : Program} {l : Launch} {e : Env} {R : Room} {s : State} {m : MethodId} {args : Array Value} {below : List Frame} {meth : Method} {c : Code} {H : Heap} {locs : List Loc} {Q : State → Prop} {D : Dx} {A : Nat → Prop} {cells slots pc : Nat} {ls : Array Slot} {rest : List Value} {h : Nat}
theorem fB {k index : Nat} {v : Value} (hx : p.tables.exec = Jvm.exec) (hb : c.code = cX12_init) (hown : s.vm.findClass RX12 = some m.cls) (hts : ∀ w ∈ lw_all, w.before args s = true) (X : Md D A s H locs h k) (hk : k < 114) (hks : ksX12.filter (fun j => decide (j < k + 1)) = ksX12.filter (fun j => decide (j < k))) (hv : ∀ a, fld kdX12 a g0X12 k = v) (hq : Cond.fieldLink RX12 index (TX12 k).1 (TX12 k).2.1 (TX12 k).2.2.1 ∈ lw_all) (hfin : (TX12 k).2.2.2 = false) (hn : narrow (tyX12 k) v = v) (hfit : fits (tyX12 k) v = true) (hdg : decode cX12_init pc = .ok (.putfield index, 3)) (kk : ∀ (H1 : Heap) (locs1 : List Loc), Md D A s H1 locs1 h (k + 1) → W p l e R s m args below meth c H1 locs1 cells slots Q (F0 m (pc + 3) ls rest)) : W p l e R s m args below meth c H locs cells slots Q (F0 m pc ls (v :: .ref h :: rest)) := by
  obtain ⟨a, y, X⟩ := X
  refine va_put (D := D.1) (ci := 12) (v := v) (ty := tyX12 k) (C := RX12) (T := TX12) (N := 114) hx hb hts wi_X12 tyX12 tyX12_ok nmX12 hown X.1 X.2.1 X.2.2.1 X.2.2.2.1 0 rfl rfl k hk (hts _ hq) (fun _ h9 => h9) hfin (tyX12_ok k hk) hn hfit (by rw [List.length_map, List.length_range]; exact hk) hdg (fun H locs hP hD hS => kk H locs ⟨a, y, ?_⟩)
  have X := Hx_set X obj_set hP hD hS
  rw [cF_same hv] at X
  unfold cT cR at *
  rw [hks]
  exact X
theorem fA {k index N : Nat} {n : Int32} {atype : ArrayType} {ty : FieldType} {cells' slots' : Nat} (hx : p.tables.exec = Jvm.exec) (hb : c.code = cX12_init) (hown : s.vm.findClass RX12 = some m.cls) (hts : ∀ w ∈ lw_all, w.before args s = true) (hin : meth.name = "<init>") (X : Md D A s H locs h k) (hk : k < 114) (hkd : kdX12 k = 3) (htk : tkX12 k = ty) (hf : ksX12.filter (fun j => decide (j < k + 1)) = ksX12.filter (fun j => decide (j < k)) ++ [k]) (hty : newarray.typeOf atype = ty) (har : Cond.arrayClass (newarray.typeOf atype) ∈ lw_all) (ha : ∀ cA : ClassId, vp_cell cA (lnX12 k, arC akX12 g0X12 k) = arrV cA N (fun _ => defaultValue ty)) (hn : ¬ n < 0) (hN : n.toNatClampNeg = N) (hby : N * componentBytes ty ≤ 536870912) (hc : cells' = cells + 1) (hs : slots' = slots + N) (hcR : cells' ≤ R.cells) (hsR : slots' ≤ R.slots) (hq : Cond.fieldLink RX12 index (TX12 k).1 (TX12 k).2.1 (TX12 k).2.2.1 ∈ lw_all) (hfin : (TX12 k).2.2.2 = true) (hde : (TX12 k).1 = RX12) (hnr : ∀ q, narrow (tyX12 k) (.ref q) = .ref q) (hfit : ∀ q, fits (tyX12 k) (.ref q) = true) (hdn : decode cX12_init pc = .ok (.newarray atype, 2)) (hdg : decode cX12_init (pc + 2) = .ok (.putfield index, 3)) (kk : ∀ (H1 : Heap) (locs1 : List Loc), Md D A s H1 locs1 h (k + 1) → W p l e R s m args below meth c H1 locs1 cells' slots' Q (F0 m (pc + 5) ls rest)) : W p l e R s m args below meth c H locs cells slots Q (F0 m pc ls (.int n :: .ref h :: rest)) := by
  obtain ⟨a, y, X⟩ := X
  subst hc hs
  refine va_newa (atype := atype) (a0 := (lnX12 k, arC akX12 g0X12 k)) (N' := N) hx hb (hts _ har) hty X.1 X.2.1 X.2.2.1 X.2.2.2.1 X.2.2.2.2.1 ha hn hN hby hcR hsR hdn (fun q1 y1 H hK hP hD hS => ?_)
  have X : Hx D (cT y k ++ [(y1, ty)]) A s H locs ((h, .inr (12, (List.range 114).map (cF a k))) :: (cR a y k ++ [(q1, .inl (y1, lnX12 k, arC akX12 g0X12 k))])) := ⟨hK, hP, hD, hS, X.2.2.2.2⟩
  refine va_putF (D := D.1) (ci := 12) (v := .ref q1) (ty := tyX12 k) (C := RX12) (T := TX12) (N := 114) hx hb hts wi_X12 tyX12 tyX12_ok nmX12 hown X.1 X.2.1 X.2.2.1 X.2.2.2.1 0 rfl rfl k hk (hts _ hq) (fun _ h9 => h9) hfin hin hde (tyX12_ok k hk) (hnr q1) (hfit q1) (by rw [List.length_map, List.length_range]; exact hk) hdg (fun H locs hP hD hS => kk H locs (Md_arr hkd htk hf (Hx_set X obj_set hP hD hS)))
theorem w26_ok : ∀ j, j < 26 → (vp_updL (vp_updL (vp_updL (vp_updL (vp_updL (vp_updL (vp_updL (vp_updL (vp_updL (vp_updL (vp_updL (vp_updL (vp_updL (vp_updL (vp_updL (vp_updL (vp_updL (vp_updL (vp_updL (vp_updL (vp_updL (vp_updL (vp_updL (vp_updL (vp_updL (vp_updL (fun _ => (0 : Int64)) (0 : Int32).toNatClampNeg (1885434484 : Int64)) (1 : Int32).toNatClampNeg (1936224119 : Int64)) (2 : Int32).toNatClampNeg (6513005 : Int64)) (3 : Int32).toNatClampNeg (1650814060 : Int64)) (4 : Int32).toNatClampNeg (1952998766 : Int64)) (5 : Int32).toNatClampNeg (2003330414 : Int64)) (6 : Int32).toNatClampNeg (7302244 : Int64)) (7 : Int32).toNatClampNeg (1937007984 : Int64)) (8 : Int32).toNatClampNeg (499984329587 : Int64)) (9 : Int32).toNatClampNeg (439905906546 : Int64)) (10 : Int32).toNatClampNeg (1667590508 : Int64)) (11 : Int32).toNatClampNeg (1919512180 : Int64)) (12 : Int32).toNatClampNeg (6382195 : Int64)) (13 : Int32).toNatClampNeg (465557353332 : Int64)) (14 : Int32).toNatClampNeg (1836020596 : Int64)) (15 : Int32).toNatClampNeg (6775652 : Int64)) (16 : Int32).toNatClampNeg (1953658213 : Int64)) (17 : Int32).toNatClampNeg (439721161573 : Int64)) (18 : Int32).toNatClampNeg (500136506472 : Int64)) (19 : Int32).toNatClampNeg (1652126821 : Int64)) (20 : Int32).toNatClampNeg (495673373300 : Int64)) (21 : Int32).toNatClampNeg (1667785074 : Int64)) (22 : Int32).toNatClampNeg (6909556 : Int64)) (23 : Int32).toNatClampNeg (1819242087 : Int64)) (24 : Int32).toNatClampNeg (439905902964 : Int64)) (25 : Int32).toNatClampNeg (110429873532005 : Int64)) j = w26 j := by decide +kernel
theorem nc_ne {j : Nat} {x : Int32} (h : 26 ≤ j) (hx : x.toNatClampNeg < 26) : j ≠ x.toNatClampNeg := by omega
theorem w26_no (j : Nat) (h : 26 ≤ j) : (vp_updL (vp_updL (vp_updL (vp_updL (vp_updL (vp_updL (vp_updL (vp_updL (vp_updL (vp_updL (vp_updL (vp_updL (vp_updL (vp_updL (vp_updL (vp_updL (vp_updL (vp_updL (vp_updL (vp_updL (vp_updL (vp_updL (vp_updL (vp_updL (vp_updL (vp_updL (fun _ => (0 : Int64)) (0 : Int32).toNatClampNeg (1885434484 : Int64)) (1 : Int32).toNatClampNeg (1936224119 : Int64)) (2 : Int32).toNatClampNeg (6513005 : Int64)) (3 : Int32).toNatClampNeg (1650814060 : Int64)) (4 : Int32).toNatClampNeg (1952998766 : Int64)) (5 : Int32).toNatClampNeg (2003330414 : Int64)) (6 : Int32).toNatClampNeg (7302244 : Int64)) (7 : Int32).toNatClampNeg (1937007984 : Int64)) (8 : Int32).toNatClampNeg (499984329587 : Int64)) (9 : Int32).toNatClampNeg (439905906546 : Int64)) (10 : Int32).toNatClampNeg (1667590508 : Int64)) (11 : Int32).toNatClampNeg (1919512180 : Int64)) (12 : Int32).toNatClampNeg (6382195 : Int64)) (13 : Int32).toNatClampNeg (465557353332 : Int64)) (14 : Int32).toNatClampNeg (1836020596 : Int64)) (15 : Int32).toNatClampNeg (6775652 : Int64)) (16 : Int32).toNatClampNeg (1953658213 : Int64)) (17 : Int32).toNatClampNeg (439721161573 : Int64)) (18 : Int32).toNatClampNeg (500136506472 : Int64)) (19 : Int32).toNatClampNeg (1652126821 : Int64)) (20 : Int32).toNatClampNeg (495673373300 : Int64)) (21 : Int32).toNatClampNeg (1667785074 : Int64)) (22 : Int32).toNatClampNeg (6909556 : Int64)) (23 : Int32).toNatClampNeg (1819242087 : Int64)) (24 : Int32).toNatClampNeg (439905902964 : Int64)) (25 : Int32).toNatClampNeg (110429873532005 : Int64)) j = w26 j := by
  have e : w26 j = 0 := by unfold w26; rw [List.getD_eq_getElem?_getD, List.getElem?_eq_none (by exact h)]; rfl
  rw [e]
  unfold vp_updL
  rw [if_neg (nc_ne h (by decide))]
  rw [if_neg (nc_ne h (by decide))]
  rw [if_neg (nc_ne h (by decide))]
  rw [if_neg (nc_ne h (by decide))]
  rw [if_neg (nc_ne h (by decide))]
  rw [if_neg (nc_ne h (by decide))]
  rw [if_neg (nc_ne h (by decide))]
  rw [if_neg (nc_ne h (by decide))]
  rw [if_neg (nc_ne h (by decide))]
  rw [if_neg (nc_ne h (by decide))]
  rw [if_neg (nc_ne h (by decide))]
  rw [if_neg (nc_ne h (by decide))]
  rw [if_neg (nc_ne h (by decide))]
  rw [if_neg (nc_ne h (by decide))]
  rw [if_neg (nc_ne h (by decide))]
  rw [if_neg (nc_ne h (by decide))]
  rw [if_neg (nc_ne h (by decide))]
  rw [if_neg (nc_ne h (by decide))]
  rw [if_neg (nc_ne h (by decide))]
  rw [if_neg (nc_ne h (by decide))]
  rw [if_neg (nc_ne h (by decide))]
  rw [if_neg (nc_ne h (by decide))]
  rw [if_neg (nc_ne h (by decide))]
  rw [if_neg (nc_ne h (by decide))]
  rw [if_neg (nc_ne h (by decide))]
  rw [if_neg (nc_ne h (by decide))]
theorem ct12_3 (hx : p.tables.exec = Jvm.exec) (hb : c.code = cX12_init) (hown : s.vm.findClass RX12 = some m.cls) (hts : ∀ w ∈ lw_all, w.before args s = true) (hin : meth.name = "<init>") (hl : lv_has ls 1 [(0, .ref h)]) (X : Md D A s H locs h 3) (kk : ∀ (H1 : Heap) (locs1 : List Loc), Md D A s H1 locs1 h 7 → W p l e { frames := 1, cells := 77, slots := 95683, locals := 40 } s m args below meth c H1 locs1 2 6001 Q (F0 m 32 ls [])) : W p l e { frames := 1, cells := 77, slots := 95683, locals := 40 } s m args below meth c H locs 0 0 Q (F0 m 4 ls []) := by
  refine lv_aload_n hx hb dX12_init_4 rfl (lv_at hl 0 rfl) ?_
  refine lv_sipush (v := (3000 : Int32)) hx hb dX12_init_5 (by decide) ?_
  refine fA (k := 3) (N := 3000) (atype := .byte) (cells' := 1) (slots' := 3000) hx hb hown hts hin X (by decide) rfl rfl (by decide) rfl q1_45 (fun _ => rfl) (by decide) (by decide) (by decide) rfl rfl (by decide) (by decide) q6_197 rfl rfl (fun _ => rfl) (fun _ => rfl) dX12_init_8 dX12_init_10 (fun H locs X => ?_)
  refine lv_aload_n hx hb dX12_init_13 rfl (lv_at hl 0 rfl) ?_
  refine lv_iconst (v := (0 : Int32)) hx hb dX12_init_14 (by decide) ?_
  refine fB (k := 4) (v := .int (0 : Int32)) hx hb hown hts X (by decide) (by decide) (fun _ => rfl) q6_198 rfl rfl rfl dX12_init_15 (fun H locs X => ?_)
  refine lv_aload_n hx hb dX12_init_18 rfl (lv_at hl 0 rfl) ?_
  refine lv_sipush (v := (3001 : Int32)) hx hb dX12_init_19 (by decide) ?_
  refine fA (k := 5) (N := 3001) (atype := .byte) (cells' := 2) (slots' := 6001) hx hb hown hts hin X (by decide) rfl rfl (by decide) rfl q1_45 (fun _ => rfl) (by decide) (by decide) (by decide) rfl rfl (by decide) (by decide) q6_199 rfl rfl (fun _ => rfl) (fun _ => rfl) dX12_init_22 dX12_init_24 (fun H locs X => ?_)
  refine lv_aload_n hx hb dX12_init_27 rfl (lv_at hl 0 rfl) ?_
  refine lv_iconst (v := (0 : Int32)) hx hb dX12_init_28 (by decide) ?_
  refine fB (k := 6) (v := .int (0 : Int32)) hx hb hown hts X (by decide) (by decide) (fun _ => rfl) q6_200 rfl rfl rfl dX12_init_29 (fun H locs X => ?_)
  exact kk _ _ X
theorem ct12_7 (hx : p.tables.exec = Jvm.exec) (hb : c.code = cX12_init) (hown : s.vm.findClass RX12 = some m.cls) (hts : ∀ w ∈ lw_all, w.before args s = true) (hin : meth.name = "<init>") (hl : lv_has ls 1 [(0, .ref h)]) (X : Md D A s H locs h 7) (kk : ∀ (H1 : Heap) (locs1 : List Loc), Md D A s H1 locs1 h 8 → W p l e { frames := 1, cells := 77, slots := 95683, locals := 40 } s m args below meth c H1 locs1 3 6027 Q (F0 m 216 ls [])) : W p l e { frames := 1, cells := 77, slots := 95683, locals := 40 } s m args below meth c H locs 2 6001 Q (F0 m 32 ls []) := by
  refine lv_aload_n hx hb dX12_init_32 rfl (lv_at hl 0 rfl) ?_
  refine lv_bipush (v := (26 : Int32)) hx hb dX12_init_33 (by decide) ?_
  obtain ⟨a, y, X⟩ := X
  refine va_newa (atype := .long) (a0 := (26, .inr (.inl (fun _ => 0)))) (N' := 26) hx hb (hts (.arrayClass .long) q1_128) rfl X.1 X.2.1 X.2.2.1 X.2.2.2.1 X.2.2.2.2.1 (fun _ => rfl) (by decide) (by decide) (by decide) (by decide) (by decide) dX12_init_35 (fun q1 y1 H hK hP hD hS => ?_)
  have X : Hx D (cT y 7 ++ [(y1, .long)]) A s H locs ((h, .inr (12, (List.range 114).map (cF a 7))) :: (cR a y 7 ++ [(q1, .inl (y1, 26, .inr (.inl (fun _ => 0))))])) := ⟨hK, hP, hD, hS, X.2.2.2.2⟩
  refine lv_dup hx hb dX12_init_37 rfl ?_
  refine lv_iconst (v := (0 : Int32)) hx hb dX12_init_38 (by decide) ?_
  refine lv_ldc2 hx hb hown (hts _ q6_167) dX12_init_39 ?_
  refine va_last (D := D.1) (f := (fun _ => (0 : Int64))) hx hb X.1 X.2.1 X.2.2.1 X.2.2.2.1 3 2 rfl rfl (inB_ok (by decide)) dX12_init_42 (fun H locs hP hD hS => ?_)
  obtain ⟨f1, hf1⟩ : ∃ f : Nat → Int64, f = vp_updL (fun _ => (0 : Int64)) (0 : Int32).toNatClampNeg (1885434484 : Int64) := ⟨_, rfl⟩
  have X : Hx D (cT y 7 ++ [(y1, .long)]) A s H locs ((h, .inr (12, (List.range 114).map (cF a 7))) :: (cR a y 7 ++ [(q1, .inl (y1, 26, .inr (.inl f1)))])) := by subst hf1; exact ⟨X.1, hP, hD, hS, X.2.2.2.2⟩
  refine lv_dup hx hb dX12_init_43 rfl ?_
  refine lv_iconst (v := (1 : Int32)) hx hb dX12_init_44 (by decide) ?_
  refine lv_ldc2 hx hb hown (hts _ q6_168) dX12_init_45 ?_
  refine va_last (D := D.1) (f := f1) hx hb X.1 X.2.1 X.2.2.1 X.2.2.2.1 3 2 rfl rfl (inB_ok (by decide)) dX12_init_48 (fun H locs hP hD hS => ?_)
  obtain ⟨f2, hf2⟩ : ∃ f : Nat → Int64, f = vp_updL f1 (1 : Int32).toNatClampNeg (1936224119 : Int64) := ⟨_, rfl⟩
  have X : Hx D (cT y 7 ++ [(y1, .long)]) A s H locs ((h, .inr (12, (List.range 114).map (cF a 7))) :: (cR a y 7 ++ [(q1, .inl (y1, 26, .inr (.inl f2)))])) := by subst hf2; exact ⟨X.1, hP, hD, hS, X.2.2.2.2⟩
  refine lv_dup hx hb dX12_init_49 rfl ?_
  refine lv_iconst (v := (2 : Int32)) hx hb dX12_init_50 (by decide) ?_
  refine lv_ldc2 hx hb hown (hts _ q6_169) dX12_init_51 ?_
  refine va_last (D := D.1) (f := f2) hx hb X.1 X.2.1 X.2.2.1 X.2.2.2.1 3 2 rfl rfl (inB_ok (by decide)) dX12_init_54 (fun H locs hP hD hS => ?_)
  obtain ⟨f3, hf3⟩ : ∃ f : Nat → Int64, f = vp_updL f2 (2 : Int32).toNatClampNeg (6513005 : Int64) := ⟨_, rfl⟩
  have X : Hx D (cT y 7 ++ [(y1, .long)]) A s H locs ((h, .inr (12, (List.range 114).map (cF a 7))) :: (cR a y 7 ++ [(q1, .inl (y1, 26, .inr (.inl f3)))])) := by subst hf3; exact ⟨X.1, hP, hD, hS, X.2.2.2.2⟩
  refine lv_dup hx hb dX12_init_55 rfl ?_
  refine lv_iconst (v := (3 : Int32)) hx hb dX12_init_56 (by decide) ?_
  refine lv_ldc2 hx hb hown (hts _ q6_170) dX12_init_57 ?_
  refine va_last (D := D.1) (f := f3) hx hb X.1 X.2.1 X.2.2.1 X.2.2.2.1 3 2 rfl rfl (inB_ok (by decide)) dX12_init_60 (fun H locs hP hD hS => ?_)
  obtain ⟨f4, hf4⟩ : ∃ f : Nat → Int64, f = vp_updL f3 (3 : Int32).toNatClampNeg (1650814060 : Int64) := ⟨_, rfl⟩
  have X : Hx D (cT y 7 ++ [(y1, .long)]) A s H locs ((h, .inr (12, (List.range 114).map (cF a 7))) :: (cR a y 7 ++ [(q1, .inl (y1, 26, .inr (.inl f4)))])) := by subst hf4; exact ⟨X.1, hP, hD, hS, X.2.2.2.2⟩
  refine lv_dup hx hb dX12_init_61 rfl ?_
  refine lv_iconst (v := (4 : Int32)) hx hb dX12_init_62 (by decide) ?_
  refine lv_ldc2 hx hb hown (hts _ q6_171) dX12_init_63 ?_
  refine va_last (D := D.1) (f := f4) hx hb X.1 X.2.1 X.2.2.1 X.2.2.2.1 3 2 rfl rfl (inB_ok (by decide)) dX12_init_66 (fun H locs hP hD hS => ?_)
  obtain ⟨f5, hf5⟩ : ∃ f : Nat → Int64, f = vp_updL f4 (4 : Int32).toNatClampNeg (1952998766 : Int64) := ⟨_, rfl⟩
  have X : Hx D (cT y 7 ++ [(y1, .long)]) A s H locs ((h, .inr (12, (List.range 114).map (cF a 7))) :: (cR a y 7 ++ [(q1, .inl (y1, 26, .inr (.inl f5)))])) := by subst hf5; exact ⟨X.1, hP, hD, hS, X.2.2.2.2⟩
  refine lv_dup hx hb dX12_init_67 rfl ?_
  refine lv_iconst (v := (5 : Int32)) hx hb dX12_init_68 (by decide) ?_
  refine lv_ldc2 hx hb hown (hts _ q6_172) dX12_init_69 ?_
  refine va_last (D := D.1) (f := f5) hx hb X.1 X.2.1 X.2.2.1 X.2.2.2.1 3 2 rfl rfl (inB_ok (by decide)) dX12_init_72 (fun H locs hP hD hS => ?_)
  obtain ⟨f6, hf6⟩ : ∃ f : Nat → Int64, f = vp_updL f5 (5 : Int32).toNatClampNeg (2003330414 : Int64) := ⟨_, rfl⟩
  have X : Hx D (cT y 7 ++ [(y1, .long)]) A s H locs ((h, .inr (12, (List.range 114).map (cF a 7))) :: (cR a y 7 ++ [(q1, .inl (y1, 26, .inr (.inl f6)))])) := by subst hf6; exact ⟨X.1, hP, hD, hS, X.2.2.2.2⟩
  refine lv_dup hx hb dX12_init_73 rfl ?_
  refine lv_bipush (v := (6 : Int32)) hx hb dX12_init_74 (by decide) ?_
  refine lv_ldc2 hx hb hown (hts _ q6_173) dX12_init_76 ?_
  refine va_last (D := D.1) (f := f6) hx hb X.1 X.2.1 X.2.2.1 X.2.2.2.1 3 2 rfl rfl (inB_ok (by decide)) dX12_init_79 (fun H locs hP hD hS => ?_)
  obtain ⟨f7, hf7⟩ : ∃ f : Nat → Int64, f = vp_updL f6 (6 : Int32).toNatClampNeg (7302244 : Int64) := ⟨_, rfl⟩
  have X : Hx D (cT y 7 ++ [(y1, .long)]) A s H locs ((h, .inr (12, (List.range 114).map (cF a 7))) :: (cR a y 7 ++ [(q1, .inl (y1, 26, .inr (.inl f7)))])) := by subst hf7; exact ⟨X.1, hP, hD, hS, X.2.2.2.2⟩
  refine lv_dup hx hb dX12_init_80 rfl ?_
  refine lv_bipush (v := (7 : Int32)) hx hb dX12_init_81 (by decide) ?_
  refine lv_ldc2 hx hb hown (hts _ q6_174) dX12_init_83 ?_
  refine va_last (D := D.1) (f := f7) hx hb X.1 X.2.1 X.2.2.1 X.2.2.2.1 3 2 rfl rfl (inB_ok (by decide)) dX12_init_86 (fun H locs hP hD hS => ?_)
  obtain ⟨f8, hf8⟩ : ∃ f : Nat → Int64, f = vp_updL f7 (7 : Int32).toNatClampNeg (1937007984 : Int64) := ⟨_, rfl⟩
  have X : Hx D (cT y 7 ++ [(y1, .long)]) A s H locs ((h, .inr (12, (List.range 114).map (cF a 7))) :: (cR a y 7 ++ [(q1, .inl (y1, 26, .inr (.inl f8)))])) := by subst hf8; exact ⟨X.1, hP, hD, hS, X.2.2.2.2⟩
  refine lv_dup hx hb dX12_init_87 rfl ?_
  refine lv_bipush (v := (8 : Int32)) hx hb dX12_init_88 (by decide) ?_
  refine lv_ldc2 hx hb hown (hts _ q6_175) dX12_init_90 ?_
  refine va_last (D := D.1) (f := f8) hx hb X.1 X.2.1 X.2.2.1 X.2.2.2.1 3 2 rfl rfl (inB_ok (by decide)) dX12_init_93 (fun H locs hP hD hS => ?_)
  obtain ⟨f9, hf9⟩ : ∃ f : Nat → Int64, f = vp_updL f8 (8 : Int32).toNatClampNeg (499984329587 : Int64) := ⟨_, rfl⟩
  have X : Hx D (cT y 7 ++ [(y1, .long)]) A s H locs ((h, .inr (12, (List.range 114).map (cF a 7))) :: (cR a y 7 ++ [(q1, .inl (y1, 26, .inr (.inl f9)))])) := by subst hf9; exact ⟨X.1, hP, hD, hS, X.2.2.2.2⟩
  refine lv_dup hx hb dX12_init_94 rfl ?_
  refine lv_bipush (v := (9 : Int32)) hx hb dX12_init_95 (by decide) ?_
  refine lv_ldc2 hx hb hown (hts _ q6_176) dX12_init_97 ?_
  refine va_last (D := D.1) (f := f9) hx hb X.1 X.2.1 X.2.2.1 X.2.2.2.1 3 2 rfl rfl (inB_ok (by decide)) dX12_init_100 (fun H locs hP hD hS => ?_)
  obtain ⟨f10, hf10⟩ : ∃ f : Nat → Int64, f = vp_updL f9 (9 : Int32).toNatClampNeg (439905906546 : Int64) := ⟨_, rfl⟩
  have X : Hx D (cT y 7 ++ [(y1, .long)]) A s H locs ((h, .inr (12, (List.range 114).map (cF a 7))) :: (cR a y 7 ++ [(q1, .inl (y1, 26, .inr (.inl f10)))])) := by subst hf10; exact ⟨X.1, hP, hD, hS, X.2.2.2.2⟩
  refine lv_dup hx hb dX12_init_101 rfl ?_
  refine lv_bipush (v := (10 : Int32)) hx hb dX12_init_102 (by decide) ?_
  refine lv_ldc2 hx hb hown (hts _ q6_177) dX12_init_104 ?_
  refine va_last (D := D.1) (f := f10) hx hb X.1 X.2.1 X.2.2.1 X.2.2.2.1 3 2 rfl rfl (inB_ok (by decide)) dX12_init_107 (fun H locs hP hD hS => ?_)
  obtain ⟨f11, hf11⟩ : ∃ f : Nat → Int64, f = vp_updL f10 (10 : Int32).toNatClampNeg (1667590508 : Int64) := ⟨_, rfl⟩
  have X : Hx D (cT y 7 ++ [(y1, .long)]) A s H locs ((h, .inr (12, (List.range 114).map (cF a 7))) :: (cR a y 7 ++ [(q1, .inl (y1, 26, .inr (.inl f11)))])) := by subst hf11; exact ⟨X.1, hP, hD, hS, X.2.2.2.2⟩
  refine lv_dup hx hb dX12_init_108 rfl ?_
  refine lv_bipush (v := (11 : Int32)) hx hb dX12_init_109 (by decide) ?_
  refine lv_ldc2 hx hb hown (hts _ q6_178) dX12_init_111 ?_
  refine va_last (D := D.1) (f := f11) hx hb X.1 X.2.1 X.2.2.1 X.2.2.2.1 3 2 rfl rfl (inB_ok (by decide)) dX12_init_114 (fun H locs hP hD hS => ?_)
  obtain ⟨f12, hf12⟩ : ∃ f : Nat → Int64, f = vp_updL f11 (11 : Int32).toNatClampNeg (1919512180 : Int64) := ⟨_, rfl⟩
  have X : Hx D (cT y 7 ++ [(y1, .long)]) A s H locs ((h, .inr (12, (List.range 114).map (cF a 7))) :: (cR a y 7 ++ [(q1, .inl (y1, 26, .inr (.inl f12)))])) := by subst hf12; exact ⟨X.1, hP, hD, hS, X.2.2.2.2⟩
  refine lv_dup hx hb dX12_init_115 rfl ?_
  refine lv_bipush (v := (12 : Int32)) hx hb dX12_init_116 (by decide) ?_
  refine lv_ldc2 hx hb hown (hts _ q6_179) dX12_init_118 ?_
  refine va_last (D := D.1) (f := f12) hx hb X.1 X.2.1 X.2.2.1 X.2.2.2.1 3 2 rfl rfl (inB_ok (by decide)) dX12_init_121 (fun H locs hP hD hS => ?_)
  obtain ⟨f13, hf13⟩ : ∃ f : Nat → Int64, f = vp_updL f12 (12 : Int32).toNatClampNeg (6382195 : Int64) := ⟨_, rfl⟩
  have X : Hx D (cT y 7 ++ [(y1, .long)]) A s H locs ((h, .inr (12, (List.range 114).map (cF a 7))) :: (cR a y 7 ++ [(q1, .inl (y1, 26, .inr (.inl f13)))])) := by subst hf13; exact ⟨X.1, hP, hD, hS, X.2.2.2.2⟩
  refine lv_dup hx hb dX12_init_122 rfl ?_
  refine lv_bipush (v := (13 : Int32)) hx hb dX12_init_123 (by decide) ?_
  refine lv_ldc2 hx hb hown (hts _ q6_180) dX12_init_125 ?_
  refine va_last (D := D.1) (f := f13) hx hb X.1 X.2.1 X.2.2.1 X.2.2.2.1 3 2 rfl rfl (inB_ok (by decide)) dX12_init_128 (fun H locs hP hD hS => ?_)
  obtain ⟨f14, hf14⟩ : ∃ f : Nat → Int64, f = vp_updL f13 (13 : Int32).toNatClampNeg (465557353332 : Int64) := ⟨_, rfl⟩
  have X : Hx D (cT y 7 ++ [(y1, .long)]) A s H locs ((h, .inr (12, (List.range 114).map (cF a 7))) :: (cR a y 7 ++ [(q1, .inl (y1, 26, .inr (.inl f14)))])) := by subst hf14; exact ⟨X.1, hP, hD, hS, X.2.2.2.2⟩
  refine lv_dup hx hb dX12_init_129 rfl ?_
  refine lv_bipush (v := (14 : Int32)) hx hb dX12_init_130 (by decide) ?_
  refine lv_ldc2 hx hb hown (hts _ q6_181) dX12_init_132 ?_
  refine va_last (D := D.1) (f := f14) hx hb X.1 X.2.1 X.2.2.1 X.2.2.2.1 3 2 rfl rfl (inB_ok (by decide)) dX12_init_135 (fun H locs hP hD hS => ?_)
  obtain ⟨f15, hf15⟩ : ∃ f : Nat → Int64, f = vp_updL f14 (14 : Int32).toNatClampNeg (1836020596 : Int64) := ⟨_, rfl⟩
  have X : Hx D (cT y 7 ++ [(y1, .long)]) A s H locs ((h, .inr (12, (List.range 114).map (cF a 7))) :: (cR a y 7 ++ [(q1, .inl (y1, 26, .inr (.inl f15)))])) := by subst hf15; exact ⟨X.1, hP, hD, hS, X.2.2.2.2⟩
  refine lv_dup hx hb dX12_init_136 rfl ?_
  refine lv_bipush (v := (15 : Int32)) hx hb dX12_init_137 (by decide) ?_
  refine lv_ldc2 hx hb hown (hts _ q6_182) dX12_init_139 ?_
  refine va_last (D := D.1) (f := f15) hx hb X.1 X.2.1 X.2.2.1 X.2.2.2.1 3 2 rfl rfl (inB_ok (by decide)) dX12_init_142 (fun H locs hP hD hS => ?_)
  obtain ⟨f16, hf16⟩ : ∃ f : Nat → Int64, f = vp_updL f15 (15 : Int32).toNatClampNeg (6775652 : Int64) := ⟨_, rfl⟩
  have X : Hx D (cT y 7 ++ [(y1, .long)]) A s H locs ((h, .inr (12, (List.range 114).map (cF a 7))) :: (cR a y 7 ++ [(q1, .inl (y1, 26, .inr (.inl f16)))])) := by subst hf16; exact ⟨X.1, hP, hD, hS, X.2.2.2.2⟩
  refine lv_dup hx hb dX12_init_143 rfl ?_
  refine lv_bipush (v := (16 : Int32)) hx hb dX12_init_144 (by decide) ?_
  refine lv_ldc2 hx hb hown (hts _ q6_183) dX12_init_146 ?_
  refine va_last (D := D.1) (f := f16) hx hb X.1 X.2.1 X.2.2.1 X.2.2.2.1 3 2 rfl rfl (inB_ok (by decide)) dX12_init_149 (fun H locs hP hD hS => ?_)
  obtain ⟨f17, hf17⟩ : ∃ f : Nat → Int64, f = vp_updL f16 (16 : Int32).toNatClampNeg (1953658213 : Int64) := ⟨_, rfl⟩
  have X : Hx D (cT y 7 ++ [(y1, .long)]) A s H locs ((h, .inr (12, (List.range 114).map (cF a 7))) :: (cR a y 7 ++ [(q1, .inl (y1, 26, .inr (.inl f17)))])) := by subst hf17; exact ⟨X.1, hP, hD, hS, X.2.2.2.2⟩
  refine lv_dup hx hb dX12_init_150 rfl ?_
  refine lv_bipush (v := (17 : Int32)) hx hb dX12_init_151 (by decide) ?_
  refine lv_ldc2 hx hb hown (hts _ q6_184) dX12_init_153 ?_
  refine va_last (D := D.1) (f := f17) hx hb X.1 X.2.1 X.2.2.1 X.2.2.2.1 3 2 rfl rfl (inB_ok (by decide)) dX12_init_156 (fun H locs hP hD hS => ?_)
  obtain ⟨f18, hf18⟩ : ∃ f : Nat → Int64, f = vp_updL f17 (17 : Int32).toNatClampNeg (439721161573 : Int64) := ⟨_, rfl⟩
  have X : Hx D (cT y 7 ++ [(y1, .long)]) A s H locs ((h, .inr (12, (List.range 114).map (cF a 7))) :: (cR a y 7 ++ [(q1, .inl (y1, 26, .inr (.inl f18)))])) := by subst hf18; exact ⟨X.1, hP, hD, hS, X.2.2.2.2⟩
  refine lv_dup hx hb dX12_init_157 rfl ?_
  refine lv_bipush (v := (18 : Int32)) hx hb dX12_init_158 (by decide) ?_
  refine lv_ldc2 hx hb hown (hts _ q6_185) dX12_init_160 ?_
  refine va_last (D := D.1) (f := f18) hx hb X.1 X.2.1 X.2.2.1 X.2.2.2.1 3 2 rfl rfl (inB_ok (by decide)) dX12_init_163 (fun H locs hP hD hS => ?_)
  obtain ⟨f19, hf19⟩ : ∃ f : Nat → Int64, f = vp_updL f18 (18 : Int32).toNatClampNeg (500136506472 : Int64) := ⟨_, rfl⟩
  have X : Hx D (cT y 7 ++ [(y1, .long)]) A s H locs ((h, .inr (12, (List.range 114).map (cF a 7))) :: (cR a y 7 ++ [(q1, .inl (y1, 26, .inr (.inl f19)))])) := by subst hf19; exact ⟨X.1, hP, hD, hS, X.2.2.2.2⟩
  refine lv_dup hx hb dX12_init_164 rfl ?_
  refine lv_bipush (v := (19 : Int32)) hx hb dX12_init_165 (by decide) ?_
  refine lv_ldc2 hx hb hown (hts _ q6_186) dX12_init_167 ?_
  refine va_last (D := D.1) (f := f19) hx hb X.1 X.2.1 X.2.2.1 X.2.2.2.1 3 2 rfl rfl (inB_ok (by decide)) dX12_init_170 (fun H locs hP hD hS => ?_)
  obtain ⟨f20, hf20⟩ : ∃ f : Nat → Int64, f = vp_updL f19 (19 : Int32).toNatClampNeg (1652126821 : Int64) := ⟨_, rfl⟩
  have X : Hx D (cT y 7 ++ [(y1, .long)]) A s H locs ((h, .inr (12, (List.range 114).map (cF a 7))) :: (cR a y 7 ++ [(q1, .inl (y1, 26, .inr (.inl f20)))])) := by subst hf20; exact ⟨X.1, hP, hD, hS, X.2.2.2.2⟩
  refine lv_dup hx hb dX12_init_171 rfl ?_
  refine lv_bipush (v := (20 : Int32)) hx hb dX12_init_172 (by decide) ?_
  refine lv_ldc2 hx hb hown (hts _ q6_187) dX12_init_174 ?_
  refine va_last (D := D.1) (f := f20) hx hb X.1 X.2.1 X.2.2.1 X.2.2.2.1 3 2 rfl rfl (inB_ok (by decide)) dX12_init_177 (fun H locs hP hD hS => ?_)
  obtain ⟨f21, hf21⟩ : ∃ f : Nat → Int64, f = vp_updL f20 (20 : Int32).toNatClampNeg (495673373300 : Int64) := ⟨_, rfl⟩
  have X : Hx D (cT y 7 ++ [(y1, .long)]) A s H locs ((h, .inr (12, (List.range 114).map (cF a 7))) :: (cR a y 7 ++ [(q1, .inl (y1, 26, .inr (.inl f21)))])) := by subst hf21; exact ⟨X.1, hP, hD, hS, X.2.2.2.2⟩
  refine lv_dup hx hb dX12_init_178 rfl ?_
  refine lv_bipush (v := (21 : Int32)) hx hb dX12_init_179 (by decide) ?_
  refine lv_ldc2 hx hb hown (hts _ q6_188) dX12_init_181 ?_
  refine va_last (D := D.1) (f := f21) hx hb X.1 X.2.1 X.2.2.1 X.2.2.2.1 3 2 rfl rfl (inB_ok (by decide)) dX12_init_184 (fun H locs hP hD hS => ?_)
  obtain ⟨f22, hf22⟩ : ∃ f : Nat → Int64, f = vp_updL f21 (21 : Int32).toNatClampNeg (1667785074 : Int64) := ⟨_, rfl⟩
  have X : Hx D (cT y 7 ++ [(y1, .long)]) A s H locs ((h, .inr (12, (List.range 114).map (cF a 7))) :: (cR a y 7 ++ [(q1, .inl (y1, 26, .inr (.inl f22)))])) := by subst hf22; exact ⟨X.1, hP, hD, hS, X.2.2.2.2⟩
  refine lv_dup hx hb dX12_init_185 rfl ?_
  refine lv_bipush (v := (22 : Int32)) hx hb dX12_init_186 (by decide) ?_
  refine lv_ldc2 hx hb hown (hts _ q6_189) dX12_init_188 ?_
  refine va_last (D := D.1) (f := f22) hx hb X.1 X.2.1 X.2.2.1 X.2.2.2.1 3 2 rfl rfl (inB_ok (by decide)) dX12_init_191 (fun H locs hP hD hS => ?_)
  obtain ⟨f23, hf23⟩ : ∃ f : Nat → Int64, f = vp_updL f22 (22 : Int32).toNatClampNeg (6909556 : Int64) := ⟨_, rfl⟩
  have X : Hx D (cT y 7 ++ [(y1, .long)]) A s H locs ((h, .inr (12, (List.range 114).map (cF a 7))) :: (cR a y 7 ++ [(q1, .inl (y1, 26, .inr (.inl f23)))])) := by subst hf23; exact ⟨X.1, hP, hD, hS, X.2.2.2.2⟩
  refine lv_dup hx hb dX12_init_192 rfl ?_
  refine lv_bipush (v := (23 : Int32)) hx hb dX12_init_193 (by decide) ?_
  refine lv_ldc2 hx hb hown (hts _ q6_190) dX12_init_195 ?_
  refine va_last (D := D.1) (f := f23) hx hb X.1 X.2.1 X.2.2.1 X.2.2.2.1 3 2 rfl rfl (inB_ok (by decide)) dX12_init_198 (fun H locs hP hD hS => ?_)
  obtain ⟨f24, hf24⟩ : ∃ f : Nat → Int64, f = vp_updL f23 (23 : Int32).toNatClampNeg (1819242087 : Int64) := ⟨_, rfl⟩
  have X : Hx D (cT y 7 ++ [(y1, .long)]) A s H locs ((h, .inr (12, (List.range 114).map (cF a 7))) :: (cR a y 7 ++ [(q1, .inl (y1, 26, .inr (.inl f24)))])) := by subst hf24; exact ⟨X.1, hP, hD, hS, X.2.2.2.2⟩
  refine lv_dup hx hb dX12_init_199 rfl ?_
  refine lv_bipush (v := (24 : Int32)) hx hb dX12_init_200 (by decide) ?_
  refine lv_ldc2 hx hb hown (hts _ q6_191) dX12_init_202 ?_
  refine va_last (D := D.1) (f := f24) hx hb X.1 X.2.1 X.2.2.1 X.2.2.2.1 3 2 rfl rfl (inB_ok (by decide)) dX12_init_205 (fun H locs hP hD hS => ?_)
  obtain ⟨f25, hf25⟩ : ∃ f : Nat → Int64, f = vp_updL f24 (24 : Int32).toNatClampNeg (439905902964 : Int64) := ⟨_, rfl⟩
  have X : Hx D (cT y 7 ++ [(y1, .long)]) A s H locs ((h, .inr (12, (List.range 114).map (cF a 7))) :: (cR a y 7 ++ [(q1, .inl (y1, 26, .inr (.inl f25)))])) := by subst hf25; exact ⟨X.1, hP, hD, hS, X.2.2.2.2⟩
  refine lv_dup hx hb dX12_init_206 rfl ?_
  refine lv_bipush (v := (25 : Int32)) hx hb dX12_init_207 (by decide) ?_
  refine lv_ldc2 hx hb hown (hts _ q6_192) dX12_init_209 ?_
  refine va_last (D := D.1) (f := f25) hx hb X.1 X.2.1 X.2.2.1 X.2.2.2.1 3 2 rfl rfl (inB_ok (by decide)) dX12_init_212 (fun H locs hP hD hS => ?_)
  obtain ⟨f26, hf26⟩ : ∃ f : Nat → Int64, f = vp_updL f25 (25 : Int32).toNatClampNeg (110429873532005 : Int64) := ⟨_, rfl⟩
  have X : Hx D (cT y 7 ++ [(y1, .long)]) A s H locs ((h, .inr (12, (List.range 114).map (cF a 7))) :: (cR a y 7 ++ [(q1, .inl (y1, 26, .inr (.inl f26)))])) := by subst hf26; exact ⟨X.1, hP, hD, hS, X.2.2.2.2⟩
  have e7 : f26 = w26 := by
    subst hf26 hf25 hf24 hf23 hf22 hf21 hf20 hf19 hf18 hf17 hf16 hf15 hf14 hf13 hf12 hf11 hf10 hf9 hf8 hf7 hf6 hf5 hf4 hf3 hf2 hf1
    funext j
    by_cases hj : j < 26
    · exact w26_ok j hj
    · exact w26_no j (by omega)
  rw [e7] at X
  refine va_putF (D := D.1) (ci := 12) (v := .ref q1) (ty := tyX12 7) (C := RX12) (T := TX12) (N := 114) hx hb hts wi_X12 tyX12 tyX12_ok nmX12 hown X.1 X.2.1 X.2.2.1 X.2.2.2.1 0 rfl rfl 7 (by decide) (hts _ q6_201) (fun _ h9 => h9) rfl hin rfl (tyX12_ok 7 (by decide)) rfl rfl (by rw [List.length_map, List.length_range]; decide) dX12_init_213 (fun H locs hP hD hS => ?_)
  have X := Md_arr (k := 7) rfl rfl (by decide) (Hx_set X obj_set hP hD hS)
  exact kk _ _ X
theorem ct12_8 (hx : p.tables.exec = Jvm.exec) (hb : c.code = cX12_init) (hown : s.vm.findClass RX12 = some m.cls) (hts : ∀ w ∈ lw_all, w.before args s = true) (hin : meth.name = "<init>") (hl : lv_has ls 1 [(0, .ref h)]) (X : Md D A s H locs h 8) (kk : ∀ (H1 : Heap) (locs1 : List Loc), Md D A s H1 locs1 h 16 → W p l e { frames := 1, cells := 77, slots := 95683, locals := 40 } s m args below meth c H1 locs1 10 37032 Q (F0 m 284 ls [])) : W p l e { frames := 1, cells := 77, slots := 95683, locals := 40 } s m args below meth c H locs 3 6027 Q (F0 m 216 ls []) := by
  refine lv_aload_n hx hb dX12_init_216 rfl (lv_at hl 0 rfl) ?_
  refine lv_iconst (v := (0 : Int32)) hx hb dX12_init_217 (by decide) ?_
  refine fB (k := 8) (v := .int (0 : Int32)) hx hb hown hts X (by decide) (by decide) (fun _ => rfl) q6_202 rfl rfl rfl dX12_init_218 (fun H locs X => ?_)
  refine lv_aload_n hx hb dX12_init_221 rfl (lv_at hl 0 rfl) ?_
  refine lv_sipush (v := (3001 : Int32)) hx hb dX12_init_222 (by decide) ?_
  refine fA (k := 9) (N := 3001) (atype := .int) (cells' := 4) (slots' := 9028) hx hb hown hts hin X (by decide) rfl rfl (by decide) rfl q1_129 (fun _ => rfl) (by decide) (by decide) (by decide) rfl rfl (by decide) (by decide) q6_203 rfl rfl (fun _ => rfl) (fun _ => rfl) dX12_init_225 dX12_init_227 (fun H locs X => ?_)
  refine lv_aload_n hx hb dX12_init_230 rfl (lv_at hl 0 rfl) ?_
  refine lv_sipush (v := (3001 : Int32)) hx hb dX12_init_231 (by decide) ?_
  refine fA (k := 10) (N := 3001) (atype := .int) (cells' := 5) (slots' := 12029) hx hb hown hts hin X (by decide) rfl rfl (by decide) rfl q1_129 (fun _ => rfl) (by decide) (by decide) (by decide) rfl rfl (by decide) (by decide) q6_204 rfl rfl (fun _ => rfl) (fun _ => rfl) dX12_init_234 dX12_init_236 (fun H locs X => ?_)
  refine lv_aload_n hx hb dX12_init_239 rfl (lv_at hl 0 rfl) ?_
  refine lv_sipush (v := (3001 : Int32)) hx hb dX12_init_240 (by decide) ?_
  refine fA (k := 11) (N := 3001) (atype := .int) (cells' := 6) (slots' := 15030) hx hb hown hts hin X (by decide) rfl rfl (by decide) rfl q1_129 (fun _ => rfl) (by decide) (by decide) (by decide) rfl rfl (by decide) (by decide) q6_205 rfl rfl (fun _ => rfl) (fun _ => rfl) dX12_init_243 dX12_init_245 (fun H locs X => ?_)
  refine lv_aload_n hx hb dX12_init_248 rfl (lv_at hl 0 rfl) ?_
  refine lv_sipush (v := (3001 : Int32)) hx hb dX12_init_249 (by decide) ?_
  refine fA (k := 12) (N := 3001) (atype := .long) (cells' := 7) (slots' := 18031) hx hb hown hts hin X (by decide) rfl rfl (by decide) rfl q1_128 (fun _ => rfl) (by decide) (by decide) (by decide) rfl rfl (by decide) (by decide) q6_206 rfl rfl (fun _ => rfl) (fun _ => rfl) dX12_init_252 dX12_init_254 (fun H locs X => ?_)
  refine lv_aload_n hx hb dX12_init_257 rfl (lv_at hl 0 rfl) ?_
  refine lv_sipush (v := (3001 : Int32)) hx hb dX12_init_258 (by decide) ?_
  refine fA (k := 13) (N := 3001) (atype := .int) (cells' := 8) (slots' := 21032) hx hb hown hts hin X (by decide) rfl rfl (by decide) rfl q1_129 (fun _ => rfl) (by decide) (by decide) (by decide) rfl rfl (by decide) (by decide) q6_207 rfl rfl (fun _ => rfl) (fun _ => rfl) dX12_init_261 dX12_init_263 (fun H locs X => ?_)
  refine lv_aload_n hx hb dX12_init_266 rfl (lv_at hl 0 rfl) ?_
  refine lv_sipush (v := (8000 : Int32)) hx hb dX12_init_267 (by decide) ?_
  refine fA (k := 14) (N := 8000) (atype := .int) (cells' := 9) (slots' := 29032) hx hb hown hts hin X (by decide) rfl rfl (by decide) rfl q1_129 (fun _ => rfl) (by decide) (by decide) (by decide) rfl rfl (by decide) (by decide) q6_208 rfl rfl (fun _ => rfl) (fun _ => rfl) dX12_init_270 dX12_init_272 (fun H locs X => ?_)
  refine lv_aload_n hx hb dX12_init_275 rfl (lv_at hl 0 rfl) ?_
  refine lv_sipush (v := (8000 : Int32)) hx hb dX12_init_276 (by decide) ?_
  refine fA (k := 15) (N := 8000) (atype := .int) (cells' := 10) (slots' := 37032) hx hb hown hts hin X (by decide) rfl rfl (by decide) rfl q1_129 (fun _ => rfl) (by decide) (by decide) (by decide) rfl rfl (by decide) (by decide) q6_209 rfl rfl (fun _ => rfl) (fun _ => rfl) dX12_init_279 dX12_init_281 (fun H locs X => ?_)
  exact kk _ _ X
theorem ct12_16 (hx : p.tables.exec = Jvm.exec) (hb : c.code = cX12_init) (hown : s.vm.findClass RX12 = some m.cls) (hts : ∀ w ∈ lw_all, w.before args s = true) (hin : meth.name = "<init>") (hl : lv_has ls 1 [(0, .ref h)]) (X : Md D A s H locs h 16) (kk : ∀ (H1 : Heap) (locs1 : List Loc), Md D A s H1 locs1 h 24 → W p l e { frames := 1, cells := 77, slots := 95683, locals := 40 } s m args below meth c H1 locs1 13 61032 Q (F0 m 336 ls [])) : W p l e { frames := 1, cells := 77, slots := 95683, locals := 40 } s m args below meth c H locs 10 37032 Q (F0 m 284 ls []) := by
  refine lv_aload_n hx hb dX12_init_284 rfl (lv_at hl 0 rfl) ?_
  refine lv_sipush (v := (8000 : Int32)) hx hb dX12_init_285 (by decide) ?_
  refine fA (k := 16) (N := 8000) (atype := .int) (cells' := 11) (slots' := 45032) hx hb hown hts hin X (by decide) rfl rfl (by decide) rfl q1_129 (fun _ => rfl) (by decide) (by decide) (by decide) rfl rfl (by decide) (by decide) q6_210 rfl rfl (fun _ => rfl) (fun _ => rfl) dX12_init_288 dX12_init_290 (fun H locs X => ?_)
  refine lv_aload_n hx hb dX12_init_293 rfl (lv_at hl 0 rfl) ?_
  refine lv_sipush (v := (8000 : Int32)) hx hb dX12_init_294 (by decide) ?_
  refine fA (k := 17) (N := 8000) (atype := .int) (cells' := 12) (slots' := 53032) hx hb hown hts hin X (by decide) rfl rfl (by decide) rfl q1_129 (fun _ => rfl) (by decide) (by decide) (by decide) rfl rfl (by decide) (by decide) q6_211 rfl rfl (fun _ => rfl) (fun _ => rfl) dX12_init_297 dX12_init_299 (fun H locs X => ?_)
  refine lv_aload_n hx hb dX12_init_302 rfl (lv_at hl 0 rfl) ?_
  refine lv_sipush (v := (8000 : Int32)) hx hb dX12_init_303 (by decide) ?_
  refine fA (k := 18) (N := 8000) (atype := .long) (cells' := 13) (slots' := 61032) hx hb hown hts hin X (by decide) rfl rfl (by decide) rfl q1_128 (fun _ => rfl) (by decide) (by decide) (by decide) rfl rfl (by decide) (by decide) q6_212 rfl rfl (fun _ => rfl) (fun _ => rfl) dX12_init_306 dX12_init_308 (fun H locs X => ?_)
  refine lv_aload_n hx hb dX12_init_311 rfl (lv_at hl 0 rfl) ?_
  refine lv_iconst (v := (0 : Int32)) hx hb dX12_init_312 (by decide) ?_
  refine fB (k := 19) (v := .int (0 : Int32)) hx hb hown hts X (by decide) (by decide) (fun _ => rfl) q6_213 rfl rfl rfl dX12_init_313 (fun H locs X => ?_)
  refine lv_aload_n hx hb dX12_init_316 rfl (lv_at hl 0 rfl) ?_
  refine lv_iconst (v := (0 : Int32)) hx hb dX12_init_317 (by decide) ?_
  refine fB (k := 20) (v := .int (0 : Int32)) hx hb hown hts X (by decide) (by decide) (fun _ => rfl) q6_214 rfl rfl rfl dX12_init_318 (fun H locs X => ?_)
  refine lv_aload_n hx hb dX12_init_321 rfl (lv_at hl 0 rfl) ?_
  refine lv_iconst (v := (0 : Int32)) hx hb dX12_init_322 (by decide) ?_
  refine fB (k := 21) (v := .int (0 : Int32)) hx hb hown hts X (by decide) (by decide) (fun _ => rfl) q6_215 rfl rfl rfl dX12_init_323 (fun H locs X => ?_)
  refine lv_aload_n hx hb dX12_init_326 rfl (lv_at hl 0 rfl) ?_
  refine lv_iconst (v := (0 : Int32)) hx hb dX12_init_327 (by decide) ?_
  refine fB (k := 22) (v := .int (0 : Int32)) hx hb hown hts X (by decide) (by decide) (fun _ => rfl) q6_216 rfl rfl rfl dX12_init_328 (fun H locs X => ?_)
  refine lv_aload_n hx hb dX12_init_331 rfl (lv_at hl 0 rfl) ?_
  refine lv_iconst (v := (-1 : Int32)) hx hb dX12_init_332 (by decide) ?_
  refine fB (k := 23) (v := .int (-1 : Int32)) hx hb hown hts X (by decide) (by decide) (fun _ => rfl) q6_217 rfl rfl rfl dX12_init_333 (fun H locs X => ?_)
  exact kk _ _ X
theorem ct12_24 (hx : p.tables.exec = Jvm.exec) (hb : c.code = cX12_init) (hown : s.vm.findClass RX12 = some m.cls) (hts : ∀ w ∈ lw_all, w.before args s = true) (hin : meth.name = "<init>") (hl : lv_has ls 1 [(0, .ref h)]) (X : Md D A s H locs h 24) (kk : ∀ (H1 : Heap) (locs1 : List Loc), Md D A s H1 locs1 h 32 → W p l e { frames := 1, cells := 77, slots := 95683, locals := 40 } s m args below meth c H1 locs1 17 73036 Q (F0 m 392 ls [])) : W p l e { frames := 1, cells := 77, slots := 95683, locals := 40 } s m args below meth c H locs 13 61032 Q (F0 m 336 ls []) := by
  refine lv_aload_n hx hb dX12_init_336 rfl (lv_at hl 0 rfl) ?_
  refine lv_iconst (v := (0 : Int32)) hx hb dX12_init_337 (by decide) ?_
  refine fB (k := 24) (v := .int (0 : Int32)) hx hb hown hts X (by decide) (by decide) (fun _ => rfl) q6_218 rfl rfl rfl dX12_init_338 (fun H locs X => ?_)
  refine lv_aload_n hx hb dX12_init_341 rfl (lv_at hl 0 rfl) ?_
  refine lv_iconst (v := (0 : Int32)) hx hb dX12_init_342 (by decide) ?_
  refine fB (k := 25) (v := .int (0 : Int32)) hx hb hown hts X (by decide) (by decide) (fun _ => rfl) q6_219 rfl rfl rfl dX12_init_343 (fun H locs X => ?_)
  refine lv_aload_n hx hb dX12_init_346 rfl (lv_at hl 0 rfl) ?_
  refine lv_iconst (v := (0 : Int32)) hx hb dX12_init_347 (by decide) ?_
  refine fB (k := 26) (v := .int (0 : Int32)) hx hb hown hts X (by decide) (by decide) (fun _ => rfl) q6_220 rfl rfl rfl dX12_init_348 (fun H locs X => ?_)
  refine lv_aload_n hx hb dX12_init_351 rfl (lv_at hl 0 rfl) ?_
  refine lv_iconst (v := (0 : Int32)) hx hb dX12_init_352 (by decide) ?_
  refine fB (k := 27) (v := .int (0 : Int32)) hx hb hown hts X (by decide) (by decide) (fun _ => rfl) q6_221 rfl rfl rfl dX12_init_353 (fun H locs X => ?_)
  refine lv_aload_n hx hb dX12_init_356 rfl (lv_at hl 0 rfl) ?_
  refine lv_sipush (v := (3001 : Int32)) hx hb dX12_init_357 (by decide) ?_
  refine fA (k := 28) (N := 3001) (atype := .int) (cells' := 14) (slots' := 64033) hx hb hown hts hin X (by decide) rfl rfl (by decide) rfl q1_129 (fun _ => rfl) (by decide) (by decide) (by decide) rfl rfl (by decide) (by decide) q6_222 rfl rfl (fun _ => rfl) (fun _ => rfl) dX12_init_360 dX12_init_362 (fun H locs X => ?_)
  refine lv_aload_n hx hb dX12_init_365 rfl (lv_at hl 0 rfl) ?_
  refine lv_sipush (v := (3001 : Int32)) hx hb dX12_init_366 (by decide) ?_
  refine fA (k := 29) (N := 3001) (atype := .int) (cells' := 15) (slots' := 67034) hx hb hown hts hin X (by decide) rfl rfl (by decide) rfl q1_129 (fun _ => rfl) (by decide) (by decide) (by decide) rfl rfl (by decide) (by decide) q6_223 rfl rfl (fun _ => rfl) (fun _ => rfl) dX12_init_369 dX12_init_371 (fun H locs X => ?_)
  refine lv_aload_n hx hb dX12_init_374 rfl (lv_at hl 0 rfl) ?_
  refine lv_sipush (v := (3001 : Int32)) hx hb dX12_init_375 (by decide) ?_
  refine fA (k := 30) (N := 3001) (atype := .int) (cells' := 16) (slots' := 70035) hx hb hown hts hin X (by decide) rfl rfl (by decide) rfl q1_129 (fun _ => rfl) (by decide) (by decide) (by decide) rfl rfl (by decide) (by decide) q6_224 rfl rfl (fun _ => rfl) (fun _ => rfl) dX12_init_378 dX12_init_380 (fun H locs X => ?_)
  refine lv_aload_n hx hb dX12_init_383 rfl (lv_at hl 0 rfl) ?_
  refine lv_sipush (v := (3001 : Int32)) hx hb dX12_init_384 (by decide) ?_
  refine fA (k := 31) (N := 3001) (atype := .int) (cells' := 17) (slots' := 73036) hx hb hown hts hin X (by decide) rfl rfl (by decide) rfl q1_129 (fun _ => rfl) (by decide) (by decide) (by decide) rfl rfl (by decide) (by decide) q6_225 rfl rfl (fun _ => rfl) (fun _ => rfl) dX12_init_387 dX12_init_389 (fun H locs X => ?_)
  exact kk _ _ X
theorem ct12_32 (hx : p.tables.exec = Jvm.exec) (hb : c.code = cX12_init) (hown : s.vm.findClass RX12 = some m.cls) (hts : ∀ w ∈ lw_all, w.before args s = true) (hin : meth.name = "<init>") (hl : lv_has ls 1 [(0, .ref h)]) (X : Md D A s H locs h 32) (kk : ∀ (H1 : Heap) (locs1 : List Loc), Md D A s H1 locs1 h 40 → W p l e { frames := 1, cells := 77, slots := 95683, locals := 40 } s m args below meth c H1 locs1 21 77237 Q (F0 m 448 ls [])) : W p l e { frames := 1, cells := 77, slots := 95683, locals := 40 } s m args below meth c H locs 17 73036 Q (F0 m 392 ls []) := by
  refine lv_aload_n hx hb dX12_init_392 rfl (lv_at hl 0 rfl) ?_
  refine lv_sipush (v := (3001 : Int32)) hx hb dX12_init_393 (by decide) ?_
  refine fA (k := 32) (N := 3001) (atype := .int) (cells' := 18) (slots' := 76037) hx hb hown hts hin X (by decide) rfl rfl (by decide) rfl q1_129 (fun _ => rfl) (by decide) (by decide) (by decide) rfl rfl (by decide) (by decide) q6_226 rfl rfl (fun _ => rfl) (fun _ => rfl) dX12_init_396 dX12_init_398 (fun H locs X => ?_)
  refine lv_aload_n hx hb dX12_init_401 rfl (lv_at hl 0 rfl) ?_
  refine lv_iconst (v := (0 : Int32)) hx hb dX12_init_402 (by decide) ?_
  refine fB (k := 33) (v := .int (0 : Int32)) hx hb hown hts X (by decide) (by decide) (fun _ => rfl) q6_227 rfl rfl rfl dX12_init_403 (fun H locs X => ?_)
  refine lv_aload_n hx hb dX12_init_406 rfl (lv_at hl 0 rfl) ?_
  refine lv_iconst (v := (0 : Int32)) hx hb dX12_init_407 (by decide) ?_
  refine fB (k := 34) (v := .int (0 : Int32)) hx hb hown hts X (by decide) (by decide) (fun _ => rfl) q6_228 rfl rfl rfl dX12_init_408 (fun H locs X => ?_)
  refine lv_aload_n hx hb dX12_init_411 rfl (lv_at hl 0 rfl) ?_
  refine lv_iconst (v := (0 : Int32)) hx hb dX12_init_412 (by decide) ?_
  refine fB (k := 35) (v := .int (0 : Int32)) hx hb hown hts X (by decide) (by decide) (fun _ => rfl) q6_229 rfl rfl rfl dX12_init_413 (fun H locs X => ?_)
  refine lv_aload_n hx hb dX12_init_416 rfl (lv_at hl 0 rfl) ?_
  refine lv_iconst (v := (0 : Int32)) hx hb dX12_init_417 (by decide) ?_
  refine fB (k := 36) (v := .int (0 : Int32)) hx hb hown hts X (by decide) (by decide) (fun _ => rfl) q6_230 rfl rfl rfl dX12_init_418 (fun H locs X => ?_)
  refine lv_aload_n hx hb dX12_init_421 rfl (lv_at hl 0 rfl) ?_
  refine lv_sipush (v := (400 : Int32)) hx hb dX12_init_422 (by decide) ?_
  refine fA (k := 37) (N := 400) (atype := .int) (cells' := 19) (slots' := 76437) hx hb hown hts hin X (by decide) rfl rfl (by decide) rfl q1_129 (fun _ => rfl) (by decide) (by decide) (by decide) rfl rfl (by decide) (by decide) q6_231 rfl rfl (fun _ => rfl) (fun _ => rfl) dX12_init_425 dX12_init_427 (fun H locs X => ?_)
  refine lv_aload_n hx hb dX12_init_430 rfl (lv_at hl 0 rfl) ?_
  refine lv_sipush (v := (400 : Int32)) hx hb dX12_init_431 (by decide) ?_
  refine fA (k := 38) (N := 400) (atype := .int) (cells' := 20) (slots' := 76837) hx hb hown hts hin X (by decide) rfl rfl (by decide) rfl q1_129 (fun _ => rfl) (by decide) (by decide) (by decide) rfl rfl (by decide) (by decide) q6_232 rfl rfl (fun _ => rfl) (fun _ => rfl) dX12_init_434 dX12_init_436 (fun H locs X => ?_)
  refine lv_aload_n hx hb dX12_init_439 rfl (lv_at hl 0 rfl) ?_
  refine lv_sipush (v := (400 : Int32)) hx hb dX12_init_440 (by decide) ?_
  refine fA (k := 39) (N := 400) (atype := .boolean) (cells' := 21) (slots' := 77237) hx hb hown hts hin X (by decide) rfl rfl (by decide) rfl q2_146 (fun _ => rfl) (by decide) (by decide) (by decide) rfl rfl (by decide) (by decide) q6_233 rfl rfl (fun _ => rfl) (fun _ => rfl) dX12_init_443 dX12_init_445 (fun H locs X => ?_)
  exact kk _ _ X
theorem ct12_40 (hx : p.tables.exec = Jvm.exec) (hb : c.code = cX12_init) (hown : s.vm.findClass RX12 = some m.cls) (hts : ∀ w ∈ lw_all, w.before args s = true) (hin : meth.name = "<init>") (hl : lv_has ls 1 [(0, .ref h)]) (X : Md D A s H locs h 40) (kk : ∀ (H1 : Heap) (locs1 : List Loc), Md D A s H1 locs1 h 48 → W p l e { frames := 1, cells := 77, slots := 95683, locals := 40 } s m args below meth c H1 locs1 29 80437 Q (F0 m 520 ls [])) : W p l e { frames := 1, cells := 77, slots := 95683, locals := 40 } s m args below meth c H locs 21 77237 Q (F0 m 448 ls []) := by
  refine lv_aload_n hx hb dX12_init_448 rfl (lv_at hl 0 rfl) ?_
  refine lv_sipush (v := (400 : Int32)) hx hb dX12_init_449 (by decide) ?_
  refine fA (k := 40) (N := 400) (atype := .int) (cells' := 22) (slots' := 77637) hx hb hown hts hin X (by decide) rfl rfl (by decide) rfl q1_129 (fun _ => rfl) (by decide) (by decide) (by decide) rfl rfl (by decide) (by decide) q6_234 rfl rfl (fun _ => rfl) (fun _ => rfl) dX12_init_452 dX12_init_454 (fun H locs X => ?_)
  refine lv_aload_n hx hb dX12_init_457 rfl (lv_at hl 0 rfl) ?_
  refine lv_sipush (v := (400 : Int32)) hx hb dX12_init_458 (by decide) ?_
  refine fA (k := 41) (N := 400) (atype := .int) (cells' := 23) (slots' := 78037) hx hb hown hts hin X (by decide) rfl rfl (by decide) rfl q1_129 (fun _ => rfl) (by decide) (by decide) (by decide) rfl rfl (by decide) (by decide) q6_235 rfl rfl (fun _ => rfl) (fun _ => rfl) dX12_init_461 dX12_init_463 (fun H locs X => ?_)
  refine lv_aload_n hx hb dX12_init_466 rfl (lv_at hl 0 rfl) ?_
  refine lv_sipush (v := (400 : Int32)) hx hb dX12_init_467 (by decide) ?_
  refine fA (k := 42) (N := 400) (atype := .int) (cells' := 24) (slots' := 78437) hx hb hown hts hin X (by decide) rfl rfl (by decide) rfl q1_129 (fun _ => rfl) (by decide) (by decide) (by decide) rfl rfl (by decide) (by decide) q6_236 rfl rfl (fun _ => rfl) (fun _ => rfl) dX12_init_470 dX12_init_472 (fun H locs X => ?_)
  refine lv_aload_n hx hb dX12_init_475 rfl (lv_at hl 0 rfl) ?_
  refine lv_sipush (v := (400 : Int32)) hx hb dX12_init_476 (by decide) ?_
  refine fA (k := 43) (N := 400) (atype := .int) (cells' := 25) (slots' := 78837) hx hb hown hts hin X (by decide) rfl rfl (by decide) rfl q1_129 (fun _ => rfl) (by decide) (by decide) (by decide) rfl rfl (by decide) (by decide) q6_237 rfl rfl (fun _ => rfl) (fun _ => rfl) dX12_init_479 dX12_init_481 (fun H locs X => ?_)
  refine lv_aload_n hx hb dX12_init_484 rfl (lv_at hl 0 rfl) ?_
  refine lv_sipush (v := (400 : Int32)) hx hb dX12_init_485 (by decide) ?_
  refine fA (k := 44) (N := 400) (atype := .int) (cells' := 26) (slots' := 79237) hx hb hown hts hin X (by decide) rfl rfl (by decide) rfl q1_129 (fun _ => rfl) (by decide) (by decide) (by decide) rfl rfl (by decide) (by decide) q6_238 rfl rfl (fun _ => rfl) (fun _ => rfl) dX12_init_488 dX12_init_490 (fun H locs X => ?_)
  refine lv_aload_n hx hb dX12_init_493 rfl (lv_at hl 0 rfl) ?_
  refine lv_sipush (v := (400 : Int32)) hx hb dX12_init_494 (by decide) ?_
  refine fA (k := 45) (N := 400) (atype := .int) (cells' := 27) (slots' := 79637) hx hb hown hts hin X (by decide) rfl rfl (by decide) rfl q1_129 (fun _ => rfl) (by decide) (by decide) (by decide) rfl rfl (by decide) (by decide) q6_239 rfl rfl (fun _ => rfl) (fun _ => rfl) dX12_init_497 dX12_init_499 (fun H locs X => ?_)
  refine lv_aload_n hx hb dX12_init_502 rfl (lv_at hl 0 rfl) ?_
  refine lv_sipush (v := (400 : Int32)) hx hb dX12_init_503 (by decide) ?_
  refine fA (k := 46) (N := 400) (atype := .int) (cells' := 28) (slots' := 80037) hx hb hown hts hin X (by decide) rfl rfl (by decide) rfl q1_129 (fun _ => rfl) (by decide) (by decide) (by decide) rfl rfl (by decide) (by decide) q7_0 rfl rfl (fun _ => rfl) (fun _ => rfl) dX12_init_506 dX12_init_508 (fun H locs X => ?_)
  refine lv_aload_n hx hb dX12_init_511 rfl (lv_at hl 0 rfl) ?_
  refine lv_sipush (v := (400 : Int32)) hx hb dX12_init_512 (by decide) ?_
  refine fA (k := 47) (N := 400) (atype := .int) (cells' := 29) (slots' := 80437) hx hb hown hts hin X (by decide) rfl rfl (by decide) rfl q1_129 (fun _ => rfl) (by decide) (by decide) (by decide) rfl rfl (by decide) (by decide) q7_1 rfl rfl (fun _ => rfl) (fun _ => rfl) dX12_init_515 dX12_init_517 (fun H locs X => ?_)
  exact kk _ _ X
theorem ct12_48 (hx : p.tables.exec = Jvm.exec) (hb : c.code = cX12_init) (hown : s.vm.findClass RX12 = some m.cls) (hts : ∀ w ∈ lw_all, w.before args s = true) (hin : meth.name = "<init>") (hl : lv_has ls 1 [(0, .ref h)]) (X : Md D A s H locs h 48) (kk : ∀ (H1 : Heap) (locs1 : List Loc), Md D A s H1 locs1 h 56 → W p l e { frames := 1, cells := 77, slots := 95683, locals := 40 } s m args below meth c H1 locs1 37 83637 Q (F0 m 592 ls [])) : W p l e { frames := 1, cells := 77, slots := 95683, locals := 40 } s m args below meth c H locs 29 80437 Q (F0 m 520 ls []) := by
  refine lv_aload_n hx hb dX12_init_520 rfl (lv_at hl 0 rfl) ?_
  refine lv_sipush (v := (400 : Int32)) hx hb dX12_init_521 (by decide) ?_
  refine fA (k := 48) (N := 400) (atype := .int) (cells' := 30) (slots' := 80837) hx hb hown hts hin X (by decide) rfl rfl (by decide) rfl q1_129 (fun _ => rfl) (by decide) (by decide) (by decide) rfl rfl (by decide) (by decide) q7_2 rfl rfl (fun _ => rfl) (fun _ => rfl) dX12_init_524 dX12_init_526 (fun H locs X => ?_)
  refine lv_aload_n hx hb dX12_init_529 rfl (lv_at hl 0 rfl) ?_
  refine lv_sipush (v := (400 : Int32)) hx hb dX12_init_530 (by decide) ?_
  refine fA (k := 49) (N := 400) (atype := .int) (cells' := 31) (slots' := 81237) hx hb hown hts hin X (by decide) rfl rfl (by decide) rfl q1_129 (fun _ => rfl) (by decide) (by decide) (by decide) rfl rfl (by decide) (by decide) q7_3 rfl rfl (fun _ => rfl) (fun _ => rfl) dX12_init_533 dX12_init_535 (fun H locs X => ?_)
  refine lv_aload_n hx hb dX12_init_538 rfl (lv_at hl 0 rfl) ?_
  refine lv_sipush (v := (400 : Int32)) hx hb dX12_init_539 (by decide) ?_
  refine fA (k := 50) (N := 400) (atype := .int) (cells' := 32) (slots' := 81637) hx hb hown hts hin X (by decide) rfl rfl (by decide) rfl q1_129 (fun _ => rfl) (by decide) (by decide) (by decide) rfl rfl (by decide) (by decide) q7_4 rfl rfl (fun _ => rfl) (fun _ => rfl) dX12_init_542 dX12_init_544 (fun H locs X => ?_)
  refine lv_aload_n hx hb dX12_init_547 rfl (lv_at hl 0 rfl) ?_
  refine lv_sipush (v := (400 : Int32)) hx hb dX12_init_548 (by decide) ?_
  refine fA (k := 51) (N := 400) (atype := .int) (cells' := 33) (slots' := 82037) hx hb hown hts hin X (by decide) rfl rfl (by decide) rfl q1_129 (fun _ => rfl) (by decide) (by decide) (by decide) rfl rfl (by decide) (by decide) q7_5 rfl rfl (fun _ => rfl) (fun _ => rfl) dX12_init_551 dX12_init_553 (fun H locs X => ?_)
  refine lv_aload_n hx hb dX12_init_556 rfl (lv_at hl 0 rfl) ?_
  refine lv_sipush (v := (400 : Int32)) hx hb dX12_init_557 (by decide) ?_
  refine fA (k := 52) (N := 400) (atype := .int) (cells' := 34) (slots' := 82437) hx hb hown hts hin X (by decide) rfl rfl (by decide) rfl q1_129 (fun _ => rfl) (by decide) (by decide) (by decide) rfl rfl (by decide) (by decide) q7_6 rfl rfl (fun _ => rfl) (fun _ => rfl) dX12_init_560 dX12_init_562 (fun H locs X => ?_)
  refine lv_aload_n hx hb dX12_init_565 rfl (lv_at hl 0 rfl) ?_
  refine lv_sipush (v := (400 : Int32)) hx hb dX12_init_566 (by decide) ?_
  refine fA (k := 53) (N := 400) (atype := .int) (cells' := 35) (slots' := 82837) hx hb hown hts hin X (by decide) rfl rfl (by decide) rfl q1_129 (fun _ => rfl) (by decide) (by decide) (by decide) rfl rfl (by decide) (by decide) q7_7 rfl rfl (fun _ => rfl) (fun _ => rfl) dX12_init_569 dX12_init_571 (fun H locs X => ?_)
  refine lv_aload_n hx hb dX12_init_574 rfl (lv_at hl 0 rfl) ?_
  refine lv_sipush (v := (400 : Int32)) hx hb dX12_init_575 (by decide) ?_
  refine fA (k := 54) (N := 400) (atype := .int) (cells' := 36) (slots' := 83237) hx hb hown hts hin X (by decide) rfl rfl (by decide) rfl q1_129 (fun _ => rfl) (by decide) (by decide) (by decide) rfl rfl (by decide) (by decide) q7_8 rfl rfl (fun _ => rfl) (fun _ => rfl) dX12_init_578 dX12_init_580 (fun H locs X => ?_)
  refine lv_aload_n hx hb dX12_init_583 rfl (lv_at hl 0 rfl) ?_
  refine lv_sipush (v := (400 : Int32)) hx hb dX12_init_584 (by decide) ?_
  refine fA (k := 55) (N := 400) (atype := .int) (cells' := 37) (slots' := 83637) hx hb hown hts hin X (by decide) rfl rfl (by decide) rfl q1_129 (fun _ => rfl) (by decide) (by decide) (by decide) rfl rfl (by decide) (by decide) q7_9 rfl rfl (fun _ => rfl) (fun _ => rfl) dX12_init_587 dX12_init_589 (fun H locs X => ?_)
  exact kk _ _ X
theorem ct12_56 (hx : p.tables.exec = Jvm.exec) (hb : c.code = cX12_init) (hown : s.vm.findClass RX12 = some m.cls) (hts : ∀ w ∈ lw_all, w.before args s = true) (hin : meth.name = "<init>") (hl : lv_has ls 1 [(0, .ref h)]) (X : Md D A s H locs h 56) (kk : ∀ (H1 : Heap) (locs1 : List Loc), Md D A s H1 locs1 h 64 → W p l e { frames := 1, cells := 77, slots := 95683, locals := 40 } s m args below meth c H1 locs1 39 85637 Q (F0 m 640 ls [])) : W p l e { frames := 1, cells := 77, slots := 95683, locals := 40 } s m args below meth c H locs 37 83637 Q (F0 m 592 ls []) := by
  refine lv_aload_n hx hb dX12_init_592 rfl (lv_at hl 0 rfl) ?_
  refine lv_sipush (v := (1600 : Int32)) hx hb dX12_init_593 (by decide) ?_
  refine fA (k := 56) (N := 1600) (atype := .long) (cells' := 38) (slots' := 85237) hx hb hown hts hin X (by decide) rfl rfl (by decide) rfl q1_128 (fun _ => rfl) (by decide) (by decide) (by decide) rfl rfl (by decide) (by decide) q7_10 rfl rfl (fun _ => rfl) (fun _ => rfl) dX12_init_596 dX12_init_598 (fun H locs X => ?_)
  refine lv_aload_n hx hb dX12_init_601 rfl (lv_at hl 0 rfl) ?_
  refine lv_sipush (v := (400 : Int32)) hx hb dX12_init_602 (by decide) ?_
  refine fA (k := 57) (N := 400) (atype := .int) (cells' := 39) (slots' := 85637) hx hb hown hts hin X (by decide) rfl rfl (by decide) rfl q1_129 (fun _ => rfl) (by decide) (by decide) (by decide) rfl rfl (by decide) (by decide) q7_11 rfl rfl (fun _ => rfl) (fun _ => rfl) dX12_init_605 dX12_init_607 (fun H locs X => ?_)
  refine lv_aload_n hx hb dX12_init_610 rfl (lv_at hl 0 rfl) ?_
  refine lv_iconst (v := (0 : Int32)) hx hb dX12_init_611 (by decide) ?_
  refine fB (k := 58) (v := .int (0 : Int32)) hx hb hown hts X (by decide) (by decide) (fun _ => rfl) q7_12 rfl rfl rfl dX12_init_612 (fun H locs X => ?_)
  refine lv_aload_n hx hb dX12_init_615 rfl (lv_at hl 0 rfl) ?_
  refine lv_iconst (v := (0 : Int32)) hx hb dX12_init_616 (by decide) ?_
  refine fB (k := 59) (v := .int (0 : Int32)) hx hb hown hts X (by decide) (by decide) (fun _ => rfl) q7_13 rfl rfl rfl dX12_init_617 (fun H locs X => ?_)
  refine lv_aload_n hx hb dX12_init_620 rfl (lv_at hl 0 rfl) ?_
  refine lv_iconst (v := (0 : Int32)) hx hb dX12_init_621 (by decide) ?_
  refine fB (k := 60) (v := .int (0 : Int32)) hx hb hown hts X (by decide) (by decide) (fun _ => rfl) q7_14 rfl rfl rfl dX12_init_622 (fun H locs X => ?_)
  refine lv_aload_n hx hb dX12_init_625 rfl (lv_at hl 0 rfl) ?_
  refine lv_iconst (v := (0 : Int32)) hx hb dX12_init_626 (by decide) ?_
  refine fB (k := 61) (v := .int (0 : Int32)) hx hb hown hts X (by decide) (by decide) (fun _ => rfl) q7_15 rfl rfl rfl dX12_init_627 (fun H locs X => ?_)
  refine lv_aload_n hx hb dX12_init_630 rfl (lv_at hl 0 rfl) ?_
  refine lv_iconst (v := (0 : Int32)) hx hb dX12_init_631 (by decide) ?_
  refine fB (k := 62) (v := .int (0 : Int32)) hx hb hown hts X (by decide) (by decide) (fun _ => rfl) q7_16 rfl rfl rfl dX12_init_632 (fun H locs X => ?_)
  refine lv_aload_n hx hb dX12_init_635 rfl (lv_at hl 0 rfl) ?_
  refine lv_iconst (v := (0 : Int32)) hx hb dX12_init_636 (by decide) ?_
  refine fB (k := 63) (v := .int (0 : Int32)) hx hb hown hts X (by decide) (by decide) (fun _ => rfl) q7_17 rfl rfl rfl dX12_init_637 (fun H locs X => ?_)
  exact kk _ _ X
theorem ct12_64 (hx : p.tables.exec = Jvm.exec) (hb : c.code = cX12_init) (hown : s.vm.findClass RX12 = some m.cls) (hts : ∀ w ∈ lw_all, w.before args s = true) (hin : meth.name = "<init>") (hl : lv_has ls 1 [(0, .ref h)]) (X : Md D A s H locs h 64) (kk : ∀ (H1 : Heap) (locs1 : List Loc), Md D A s H1 locs1 h 72 → W p l e { frames := 1, cells := 77, slots := 95683, locals := 40 } s m args below meth c H1 locs1 46 86497 Q (F0 m 702 ls [])) : W p l e { frames := 1, cells := 77, slots := 95683, locals := 40 } s m args below meth c H locs 39 85637 Q (F0 m 640 ls []) := by
  refine lv_aload_n hx hb dX12_init_640 rfl (lv_at hl 0 rfl) ?_
  refine lv_iconst (v := (0 : Int32)) hx hb dX12_init_641 (by decide) ?_
  refine fB (k := 64) (v := .int (0 : Int32)) hx hb hown hts X (by decide) (by decide) (fun _ => rfl) q7_18 rfl rfl rfl dX12_init_642 (fun H locs X => ?_)
  refine lv_aload_n hx hb dX12_init_645 rfl (lv_at hl 0 rfl) ?_
  refine lv_sipush (v := (600 : Int32)) hx hb dX12_init_646 (by decide) ?_
  refine fA (k := 65) (N := 600) (atype := .byte) (cells' := 40) (slots' := 86237) hx hb hown hts hin X (by decide) rfl rfl (by decide) rfl q1_45 (fun _ => rfl) (by decide) (by decide) (by decide) rfl rfl (by decide) (by decide) q7_19 rfl rfl (fun _ => rfl) (fun _ => rfl) dX12_init_649 dX12_init_651 (fun H locs X => ?_)
  refine lv_aload_n hx hb dX12_init_654 rfl (lv_at hl 0 rfl) ?_
  refine lv_bipush (v := (60 : Int32)) hx hb dX12_init_655 (by decide) ?_
  refine fA (k := 66) (N := 60) (atype := .int) (cells' := 41) (slots' := 86297) hx hb hown hts hin X (by decide) rfl rfl (by decide) rfl q1_129 (fun _ => rfl) (by decide) (by decide) (by decide) rfl rfl (by decide) (by decide) q7_20 rfl rfl (fun _ => rfl) (fun _ => rfl) dX12_init_657 dX12_init_659 (fun H locs X => ?_)
  refine lv_aload_n hx hb dX12_init_662 rfl (lv_at hl 0 rfl) ?_
  refine lv_bipush (v := (40 : Int32)) hx hb dX12_init_663 (by decide) ?_
  refine fA (k := 67) (N := 40) (atype := .int) (cells' := 42) (slots' := 86337) hx hb hown hts hin X (by decide) rfl rfl (by decide) rfl q1_129 (fun _ => rfl) (by decide) (by decide) (by decide) rfl rfl (by decide) (by decide) q7_21 rfl rfl (fun _ => rfl) (fun _ => rfl) dX12_init_665 dX12_init_667 (fun H locs X => ?_)
  refine lv_aload_n hx hb dX12_init_670 rfl (lv_at hl 0 rfl) ?_
  refine lv_bipush (v := (40 : Int32)) hx hb dX12_init_671 (by decide) ?_
  refine fA (k := 68) (N := 40) (atype := .boolean) (cells' := 43) (slots' := 86377) hx hb hown hts hin X (by decide) rfl rfl (by decide) rfl q2_146 (fun _ => rfl) (by decide) (by decide) (by decide) rfl rfl (by decide) (by decide) q7_22 rfl rfl (fun _ => rfl) (fun _ => rfl) dX12_init_673 dX12_init_675 (fun H locs X => ?_)
  refine lv_aload_n hx hb dX12_init_678 rfl (lv_at hl 0 rfl) ?_
  refine lv_bipush (v := (40 : Int32)) hx hb dX12_init_679 (by decide) ?_
  refine fA (k := 69) (N := 40) (atype := .int) (cells' := 44) (slots' := 86417) hx hb hown hts hin X (by decide) rfl rfl (by decide) rfl q1_129 (fun _ => rfl) (by decide) (by decide) (by decide) rfl rfl (by decide) (by decide) q7_23 rfl rfl (fun _ => rfl) (fun _ => rfl) dX12_init_681 dX12_init_683 (fun H locs X => ?_)
  refine lv_aload_n hx hb dX12_init_686 rfl (lv_at hl 0 rfl) ?_
  refine lv_bipush (v := (40 : Int32)) hx hb dX12_init_687 (by decide) ?_
  refine fA (k := 70) (N := 40) (atype := .int) (cells' := 45) (slots' := 86457) hx hb hown hts hin X (by decide) rfl rfl (by decide) rfl q1_129 (fun _ => rfl) (by decide) (by decide) (by decide) rfl rfl (by decide) (by decide) q7_24 rfl rfl (fun _ => rfl) (fun _ => rfl) dX12_init_689 dX12_init_691 (fun H locs X => ?_)
  refine lv_aload_n hx hb dX12_init_694 rfl (lv_at hl 0 rfl) ?_
  refine lv_bipush (v := (40 : Int32)) hx hb dX12_init_695 (by decide) ?_
  refine fA (k := 71) (N := 40) (atype := .int) (cells' := 46) (slots' := 86497) hx hb hown hts hin X (by decide) rfl rfl (by decide) rfl q1_129 (fun _ => rfl) (by decide) (by decide) (by decide) rfl rfl (by decide) (by decide) q7_25 rfl rfl (fun _ => rfl) (fun _ => rfl) dX12_init_697 dX12_init_699 (fun H locs X => ?_)
  exact kk _ _ X
theorem ct12_72 (hx : p.tables.exec = Jvm.exec) (hb : c.code = cX12_init) (hown : s.vm.findClass RX12 = some m.cls) (hts : ∀ w ∈ lw_all, w.before args s = true) (hin : meth.name = "<init>") (hl : lv_has ls 1 [(0, .ref h)]) (X : Md D A s H locs h 72) (kk : ∀ (H1 : Heap) (locs1 : List Loc), Md D A s H1 locs1 h 80 → W p l e { frames := 1, cells := 77, slots := 95683, locals := 40 } s m args below meth c H1 locs1 53 86853 Q (F0 m 764 ls [])) : W p l e { frames := 1, cells := 77, slots := 95683, locals := 40 } s m args below meth c H locs 46 86497 Q (F0 m 702 ls []) := by
  refine lv_aload_n hx hb dX12_init_702 rfl (lv_at hl 0 rfl) ?_
  refine lv_bipush (v := (40 : Int32)) hx hb dX12_init_703 (by decide) ?_
  refine fA (k := 72) (N := 40) (atype := .int) (cells' := 47) (slots' := 86537) hx hb hown hts hin X (by decide) rfl rfl (by decide) rfl q1_129 (fun _ => rfl) (by decide) (by decide) (by decide) rfl rfl (by decide) (by decide) q7_26 rfl rfl (fun _ => rfl) (fun _ => rfl) dX12_init_705 dX12_init_707 (fun H locs X => ?_)
  refine lv_aload_n hx hb dX12_init_710 rfl (lv_at hl 0 rfl) ?_
  refine lv_bipush (v := (40 : Int32)) hx hb dX12_init_711 (by decide) ?_
  refine fA (k := 73) (N := 40) (atype := .int) (cells' := 48) (slots' := 86577) hx hb hown hts hin X (by decide) rfl rfl (by decide) rfl q1_129 (fun _ => rfl) (by decide) (by decide) (by decide) rfl rfl (by decide) (by decide) q7_27 rfl rfl (fun _ => rfl) (fun _ => rfl) dX12_init_713 dX12_init_715 (fun H locs X => ?_)
  refine lv_aload_n hx hb dX12_init_718 rfl (lv_at hl 0 rfl) ?_
  refine lv_bipush (v := (12 : Int32)) hx hb dX12_init_719 (by decide) ?_
  refine fA (k := 74) (N := 12) (atype := .int) (cells' := 49) (slots' := 86589) hx hb hown hts hin X (by decide) rfl rfl (by decide) rfl q1_129 (fun _ => rfl) (by decide) (by decide) (by decide) rfl rfl (by decide) (by decide) q7_28 rfl rfl (fun _ => rfl) (fun _ => rfl) dX12_init_721 dX12_init_723 (fun H locs X => ?_)
  refine lv_aload_n hx hb dX12_init_726 rfl (lv_at hl 0 rfl) ?_
  refine lv_bipush (v := (12 : Int32)) hx hb dX12_init_727 (by decide) ?_
  refine fA (k := 75) (N := 12) (atype := .int) (cells' := 50) (slots' := 86601) hx hb hown hts hin X (by decide) rfl rfl (by decide) rfl q1_129 (fun _ => rfl) (by decide) (by decide) (by decide) rfl rfl (by decide) (by decide) q7_29 rfl rfl (fun _ => rfl) (fun _ => rfl) dX12_init_729 dX12_init_731 (fun H locs X => ?_)
  refine lv_aload_n hx hb dX12_init_734 rfl (lv_at hl 0 rfl) ?_
  refine lv_bipush (v := (52 : Int32)) hx hb dX12_init_735 (by decide) ?_
  refine fA (k := 76) (N := 52) (atype := .int) (cells' := 51) (slots' := 86653) hx hb hown hts hin X (by decide) rfl rfl (by decide) rfl q1_129 (fun _ => rfl) (by decide) (by decide) (by decide) rfl rfl (by decide) (by decide) q7_30 rfl rfl (fun _ => rfl) (fun _ => rfl) dX12_init_737 dX12_init_739 (fun H locs X => ?_)
  refine lv_aload_n hx hb dX12_init_742 rfl (lv_at hl 0 rfl) ?_
  refine lv_iconst (v := (0 : Int32)) hx hb dX12_init_743 (by decide) ?_
  refine fB (k := 77) (v := .int (0 : Int32)) hx hb hown hts X (by decide) (by decide) (fun _ => rfl) q7_31 rfl rfl rfl dX12_init_744 (fun H locs X => ?_)
  refine lv_aload_n hx hb dX12_init_747 rfl (lv_at hl 0 rfl) ?_
  refine lv_bipush (v := (8 : Int32)) hx hb dX12_init_748 (by decide) ?_
  refine fA (k := 78) (N := 8) (atype := .int) (cells' := 52) (slots' := 86661) hx hb hown hts hin X (by decide) rfl rfl (by decide) rfl q1_129 (fun _ => rfl) (by decide) (by decide) (by decide) rfl rfl (by decide) (by decide) q7_32 rfl rfl (fun _ => rfl) (fun _ => rfl) dX12_init_750 dX12_init_752 (fun H locs X => ?_)
  refine lv_aload_n hx hb dX12_init_755 rfl (lv_at hl 0 rfl) ?_
  refine lv_sipush (v := (192 : Int32)) hx hb dX12_init_756 (by decide) ?_
  refine fA (k := 79) (N := 192) (atype := .long) (cells' := 53) (slots' := 86853) hx hb hown hts hin X (by decide) rfl rfl (by decide) rfl q1_128 (fun _ => rfl) (by decide) (by decide) (by decide) rfl rfl (by decide) (by decide) q7_33 rfl rfl (fun _ => rfl) (fun _ => rfl) dX12_init_759 dX12_init_761 (fun H locs X => ?_)
  exact kk _ _ X
theorem ct12_80 (hx : p.tables.exec = Jvm.exec) (hb : c.code = cX12_init) (hown : s.vm.findClass RX12 = some m.cls) (hts : ∀ w ∈ lw_all, w.before args s = true) (hin : meth.name = "<init>") (hl : lv_has ls 1 [(0, .ref h)]) (X : Md D A s H locs h 80) (kk : ∀ (H1 : Heap) (locs1 : List Loc), Md D A s H1 locs1 h 88 → W p l e { frames := 1, cells := 77, slots := 95683, locals := 40 } s m args below meth c H1 locs1 60 88381 Q (F0 m 826 ls [])) : W p l e { frames := 1, cells := 77, slots := 95683, locals := 40 } s m args below meth c H locs 53 86853 Q (F0 m 764 ls []) := by
  refine lv_aload_n hx hb dX12_init_764 rfl (lv_at hl 0 rfl) ?_
  refine lv_bipush (v := (40 : Int32)) hx hb dX12_init_765 (by decide) ?_
  refine fA (k := 80) (N := 40) (atype := .long) (cells' := 54) (slots' := 86893) hx hb hown hts hin X (by decide) rfl rfl (by decide) rfl q1_128 (fun _ => rfl) (by decide) (by decide) (by decide) rfl rfl (by decide) (by decide) q7_34 rfl rfl (fun _ => rfl) (fun _ => rfl) dX12_init_767 dX12_init_769 (fun H locs X => ?_)
  refine lv_aload_n hx hb dX12_init_772 rfl (lv_at hl 0 rfl) ?_
  refine lv_bipush (v := (40 : Int32)) hx hb dX12_init_773 (by decide) ?_
  refine fA (k := 81) (N := 40) (atype := .long) (cells' := 55) (slots' := 86933) hx hb hown hts hin X (by decide) rfl rfl (by decide) rfl q1_128 (fun _ => rfl) (by decide) (by decide) (by decide) rfl rfl (by decide) (by decide) q7_35 rfl rfl (fun _ => rfl) (fun _ => rfl) dX12_init_775 dX12_init_777 (fun H locs X => ?_)
  refine lv_aload_n hx hb dX12_init_780 rfl (lv_at hl 0 rfl) ?_
  refine lv_sipush (v := (1280 : Int32)) hx hb dX12_init_781 (by decide) ?_
  refine fA (k := 82) (N := 1280) (atype := .long) (cells' := 56) (slots' := 88213) hx hb hown hts hin X (by decide) rfl rfl (by decide) rfl q1_128 (fun _ => rfl) (by decide) (by decide) (by decide) rfl rfl (by decide) (by decide) q7_36 rfl rfl (fun _ => rfl) (fun _ => rfl) dX12_init_784 dX12_init_786 (fun H locs X => ?_)
  refine lv_aload_n hx hb dX12_init_789 rfl (lv_at hl 0 rfl) ?_
  refine lv_bipush (v := (52 : Int32)) hx hb dX12_init_790 (by decide) ?_
  refine fA (k := 83) (N := 52) (atype := .int) (cells' := 57) (slots' := 88265) hx hb hown hts hin X (by decide) rfl rfl (by decide) rfl q1_129 (fun _ => rfl) (by decide) (by decide) (by decide) rfl rfl (by decide) (by decide) q7_37 rfl rfl (fun _ => rfl) (fun _ => rfl) dX12_init_792 dX12_init_794 (fun H locs X => ?_)
  refine lv_aload_n hx hb dX12_init_797 rfl (lv_at hl 0 rfl) ?_
  refine lv_bipush (v := (52 : Int32)) hx hb dX12_init_798 (by decide) ?_
  refine fA (k := 84) (N := 52) (atype := .int) (cells' := 58) (slots' := 88317) hx hb hown hts hin X (by decide) rfl rfl (by decide) rfl q1_129 (fun _ => rfl) (by decide) (by decide) (by decide) rfl rfl (by decide) (by decide) q7_38 rfl rfl (fun _ => rfl) (fun _ => rfl) dX12_init_800 dX12_init_802 (fun H locs X => ?_)
  refine lv_aload_n hx hb dX12_init_805 rfl (lv_at hl 0 rfl) ?_
  refine lv_bipush (v := (52 : Int32)) hx hb dX12_init_806 (by decide) ?_
  refine fA (k := 85) (N := 52) (atype := .int) (cells' := 59) (slots' := 88369) hx hb hown hts hin X (by decide) rfl rfl (by decide) rfl q1_129 (fun _ => rfl) (by decide) (by decide) (by decide) rfl rfl (by decide) (by decide) q7_39 rfl rfl (fun _ => rfl) (fun _ => rfl) dX12_init_808 dX12_init_810 (fun H locs X => ?_)
  refine lv_aload_n hx hb dX12_init_813 rfl (lv_at hl 0 rfl) ?_
  refine lv_bipush (v := (12 : Int32)) hx hb dX12_init_814 (by decide) ?_
  refine fA (k := 86) (N := 12) (atype := .int) (cells' := 60) (slots' := 88381) hx hb hown hts hin X (by decide) rfl rfl (by decide) rfl q1_129 (fun _ => rfl) (by decide) (by decide) (by decide) rfl rfl (by decide) (by decide) q7_40 rfl rfl (fun _ => rfl) (fun _ => rfl) dX12_init_816 dX12_init_818 (fun H locs X => ?_)
  refine lv_aload_n hx hb dX12_init_821 rfl (lv_at hl 0 rfl) ?_
  refine lv_lconst (v := (0 : Int64)) hx hb dX12_init_822 (by decide) ?_
  refine fB (k := 87) (v := .long (0 : Int64)) hx hb hown hts X (by decide) (by decide) (fun _ => rfl) q7_41 rfl rfl rfl dX12_init_823 (fun H locs X => ?_)
  exact kk _ _ X
theorem ct12_88 (hx : p.tables.exec = Jvm.exec) (hb : c.code = cX12_init) (hown : s.vm.findClass RX12 = some m.cls) (hts : ∀ w ∈ lw_all, w.before args s = true) (hin : meth.name = "<init>") (hl : lv_has ls 1 [(0, .ref h)]) (X : Md D A s H locs h 88) (kk : ∀ (H1 : Heap) (locs1 : List Loc), Md D A s H1 locs1 h 96 → W p l e { frames := 1, cells := 77, slots := 95683, locals := 40 } s m args below meth c H1 locs1 63 88909 Q (F0 m 878 ls [])) : W p l e { frames := 1, cells := 77, slots := 95683, locals := 40 } s m args below meth c H locs 60 88381 Q (F0 m 826 ls []) := by
  refine lv_aload_n hx hb dX12_init_826 rfl (lv_at hl 0 rfl) ?_
  refine lv_iconst (v := (0 : Int32)) hx hb dX12_init_827 (by decide) ?_
  refine fB (k := 88) (v := .int (0 : Int32)) hx hb hown hts X (by decide) (by decide) (fun _ => rfl) q7_42 rfl rfl rfl dX12_init_828 (fun H locs X => ?_)
  refine lv_aload_n hx hb dX12_init_831 rfl (lv_at hl 0 rfl) ?_
  refine lv_bipush (v := (64 : Int32)) hx hb dX12_init_832 (by decide) ?_
  refine fA (k := 89) (N := 64) (atype := .long) (cells' := 61) (slots' := 88445) hx hb hown hts hin X (by decide) rfl rfl (by decide) rfl q1_128 (fun _ => rfl) (by decide) (by decide) (by decide) rfl rfl (by decide) (by decide) q7_43 rfl rfl (fun _ => rfl) (fun _ => rfl) dX12_init_834 dX12_init_836 (fun H locs X => ?_)
  refine lv_aload_n hx hb dX12_init_839 rfl (lv_at hl 0 rfl) ?_
  refine lv_bipush (v := (64 : Int32)) hx hb dX12_init_840 (by decide) ?_
  refine fA (k := 90) (N := 64) (atype := .int) (cells' := 62) (slots' := 88509) hx hb hown hts hin X (by decide) rfl rfl (by decide) rfl q1_129 (fun _ => rfl) (by decide) (by decide) (by decide) rfl rfl (by decide) (by decide) q7_44 rfl rfl (fun _ => rfl) (fun _ => rfl) dX12_init_842 dX12_init_844 (fun H locs X => ?_)
  refine lv_aload_n hx hb dX12_init_847 rfl (lv_at hl 0 rfl) ?_
  refine lv_ldc2 hx hb hown (hts _ q6_193) dX12_init_848 ?_
  refine fB (k := 91) (v := .long (4607182418800017408 : Int64)) hx hb hown hts X (by decide) (by decide) (fun _ => rfl) q7_45 rfl rfl rfl dX12_init_851 (fun H locs X => ?_)
  refine lv_aload_n hx hb dX12_init_854 rfl (lv_at hl 0 rfl) ?_
  refine lv_sipush (v := (400 : Int32)) hx hb dX12_init_855 (by decide) ?_
  refine fA (k := 92) (N := 400) (atype := .long) (cells' := 63) (slots' := 88909) hx hb hown hts hin X (by decide) rfl rfl (by decide) rfl q1_128 (fun _ => rfl) (by decide) (by decide) (by decide) rfl rfl (by decide) (by decide) q7_46 rfl rfl (fun _ => rfl) (fun _ => rfl) dX12_init_858 dX12_init_860 (fun H locs X => ?_)
  refine lv_aload_n hx hb dX12_init_863 rfl (lv_at hl 0 rfl) ?_
  refine lv_iconst (v := (0 : Int32)) hx hb dX12_init_864 (by decide) ?_
  refine fB (k := 93) (v := .int (0 : Int32)) hx hb hown hts X (by decide) (by decide) (fun _ => rfl) q7_47 rfl rfl rfl dX12_init_865 (fun H locs X => ?_)
  refine lv_aload_n hx hb dX12_init_868 rfl (lv_at hl 0 rfl) ?_
  refine lv_lconst (v := (0 : Int64)) hx hb dX12_init_869 (by decide) ?_
  refine fB (k := 94) (v := .long (0 : Int64)) hx hb hown hts X (by decide) (by decide) (fun _ => rfl) q7_48 rfl rfl rfl dX12_init_870 (fun H locs X => ?_)
  refine lv_aload_n hx hb dX12_init_873 rfl (lv_at hl 0 rfl) ?_
  refine lv_iconst (v := (0 : Int32)) hx hb dX12_init_874 (by decide) ?_
  refine fB (k := 95) (v := .int (0 : Int32)) hx hb hown hts X (by decide) (by decide) (fun _ => rfl) q7_49 rfl rfl rfl dX12_init_875 (fun H locs X => ?_)
  exact kk _ _ X
theorem ct12_96 (hx : p.tables.exec = Jvm.exec) (hb : c.code = cX12_init) (hown : s.vm.findClass RX12 = some m.cls) (hts : ∀ w ∈ lw_all, w.before args s = true) (hin : meth.name = "<init>") (hl : lv_has ls 1 [(0, .ref h)]) (X : Md D A s H locs h 96) (kk : ∀ (H1 : Heap) (locs1 : List Loc), Md D A s H1 locs1 h 104 → W p l e { frames := 1, cells := 77, slots := 95683, locals := 40 } s m args below meth c H1 locs1 67 89047 Q (F0 m 928 ls [])) : W p l e { frames := 1, cells := 77, slots := 95683, locals := 40 } s m args below meth c H locs 63 88909 Q (F0 m 878 ls []) := by
  refine lv_aload_n hx hb dX12_init_878 rfl (lv_at hl 0 rfl) ?_
  refine lv_iconst (v := (0 : Int32)) hx hb dX12_init_879 (by decide) ?_
  refine fB (k := 96) (v := .int (0 : Int32)) hx hb hown hts X (by decide) (by decide) (fun _ => rfl) q7_50 rfl rfl rfl dX12_init_880 (fun H locs X => ?_)
  refine lv_aload_n hx hb dX12_init_883 rfl (lv_at hl 0 rfl) ?_
  refine lv_lconst (v := (0 : Int64)) hx hb dX12_init_884 (by decide) ?_
  refine fB (k := 97) (v := .long (0 : Int64)) hx hb hown hts X (by decide) (by decide) (fun _ => rfl) q7_51 rfl rfl rfl dX12_init_885 (fun H locs X => ?_)
  refine lv_aload_n hx hb dX12_init_888 rfl (lv_at hl 0 rfl) ?_
  refine lv_bipush (v := (100 : Int32)) hx hb dX12_init_889 (by decide) ?_
  refine fA (k := 98) (N := 100) (atype := .byte) (cells' := 64) (slots' := 89009) hx hb hown hts hin X (by decide) rfl rfl (by decide) rfl q1_45 (fun _ => rfl) (by decide) (by decide) (by decide) rfl rfl (by decide) (by decide) q7_52 rfl rfl (fun _ => rfl) (fun _ => rfl) dX12_init_891 dX12_init_893 (fun H locs X => ?_)
  refine lv_aload_n hx hb dX12_init_896 rfl (lv_at hl 0 rfl) ?_
  refine lv_iconst (v := (0 : Int32)) hx hb dX12_init_897 (by decide) ?_
  refine fB (k := 99) (v := .int (0 : Int32)) hx hb hown hts X (by decide) (by decide) (fun _ => rfl) q7_53 rfl rfl rfl dX12_init_898 (fun H locs X => ?_)
  refine lv_aload_n hx hb dX12_init_901 rfl (lv_at hl 0 rfl) ?_
  refine lv_bipush (v := (30 : Int32)) hx hb dX12_init_902 (by decide) ?_
  refine fA (k := 100) (N := 30) (atype := .byte) (cells' := 65) (slots' := 89039) hx hb hown hts hin X (by decide) rfl rfl (by decide) rfl q1_45 (fun _ => rfl) (by decide) (by decide) (by decide) rfl rfl (by decide) (by decide) q7_54 rfl rfl (fun _ => rfl) (fun _ => rfl) dX12_init_904 dX12_init_906 (fun H locs X => ?_)
  refine lv_aload_n hx hb dX12_init_909 rfl (lv_at hl 0 rfl) ?_
  refine lv_iconst (v := (0 : Int32)) hx hb dX12_init_910 (by decide) ?_
  refine fB (k := 101) (v := .int (0 : Int32)) hx hb hown hts X (by decide) (by decide) (fun _ => rfl) q7_55 rfl rfl rfl dX12_init_911 (fun H locs X => ?_)
  refine lv_aload_n hx hb dX12_init_914 rfl (lv_at hl 0 rfl) ?_
  refine lv_iconst (v := (4 : Int32)) hx hb dX12_init_915 (by decide) ?_
  refine fA (k := 102) (N := 4) (atype := .int) (cells' := 66) (slots' := 89043) hx hb hown hts hin X (by decide) rfl rfl (by decide) rfl q1_129 (fun _ => rfl) (by decide) (by decide) (by decide) rfl rfl (by decide) (by decide) q7_56 rfl rfl (fun _ => rfl) (fun _ => rfl) dX12_init_916 dX12_init_918 (fun H locs X => ?_)
  refine lv_aload_n hx hb dX12_init_921 rfl (lv_at hl 0 rfl) ?_
  refine lv_iconst (v := (4 : Int32)) hx hb dX12_init_922 (by decide) ?_
  refine fA (k := 103) (N := 4) (atype := .int) (cells' := 67) (slots' := 89047) hx hb hown hts hin X (by decide) rfl rfl (by decide) rfl q1_129 (fun _ => rfl) (by decide) (by decide) (by decide) rfl rfl (by decide) (by decide) q7_57 rfl rfl (fun _ => rfl) (fun _ => rfl) dX12_init_923 dX12_init_925 (fun H locs X => ?_)
  exact kk _ _ X
theorem ct12_104 (hx : p.tables.exec = Jvm.exec) (hb : c.code = cX12_init) (hown : s.vm.findClass RX12 = some m.cls) (hts : ∀ w ∈ lw_all, w.before args s = true) (hin : meth.name = "<init>") (hl : lv_has ls 1 [(0, .ref h)]) (X : Md D A s H locs h 104) (kk : ∀ (H1 : Heap) (locs1 : List Loc), Md D A s H1 locs1 h 112 → W p l e { frames := 1, cells := 77, slots := 95683, locals := 40 } s m args below meth c H1 locs1 75 95423 Q (F0 m 995 ls [])) : W p l e { frames := 1, cells := 77, slots := 95683, locals := 40 } s m args below meth c H locs 67 89047 Q (F0 m 928 ls []) := by
  refine lv_aload_n hx hb dX12_init_928 rfl (lv_at hl 0 rfl) ?_
  refine lv_sipush (v := (160 : Int32)) hx hb dX12_init_929 (by decide) ?_
  refine fA (k := 104) (N := 160) (atype := .long) (cells' := 68) (slots' := 89207) hx hb hown hts hin X (by decide) rfl rfl (by decide) rfl q1_128 (fun _ => rfl) (by decide) (by decide) (by decide) rfl rfl (by decide) (by decide) q7_58 rfl rfl (fun _ => rfl) (fun _ => rfl) dX12_init_932 dX12_init_934 (fun H locs X => ?_)
  refine lv_aload_n hx hb dX12_init_937 rfl (lv_at hl 0 rfl) ?_
  refine lv_sipush (v := (160 : Int32)) hx hb dX12_init_938 (by decide) ?_
  refine fA (k := 105) (N := 160) (atype := .long) (cells' := 69) (slots' := 89367) hx hb hown hts hin X (by decide) rfl rfl (by decide) rfl q1_128 (fun _ => rfl) (by decide) (by decide) (by decide) rfl rfl (by decide) (by decide) q7_59 rfl rfl (fun _ => rfl) (fun _ => rfl) dX12_init_941 dX12_init_943 (fun H locs X => ?_)
  refine lv_aload_n hx hb dX12_init_946 rfl (lv_at hl 0 rfl) ?_
  refine lv_sipush (v := (5120 : Int32)) hx hb dX12_init_947 (by decide) ?_
  refine fA (k := 106) (N := 5120) (atype := .long) (cells' := 70) (slots' := 94487) hx hb hown hts hin X (by decide) rfl rfl (by decide) rfl q1_128 (fun _ => rfl) (by decide) (by decide) (by decide) rfl rfl (by decide) (by decide) q7_60 rfl rfl (fun _ => rfl) (fun _ => rfl) dX12_init_950 dX12_init_952 (fun H locs X => ?_)
  refine lv_aload_n hx hb dX12_init_955 rfl (lv_at hl 0 rfl) ?_
  refine lv_sipush (v := (624 : Int32)) hx hb dX12_init_956 (by decide) ?_
  refine fA (k := 107) (N := 624) (atype := .int) (cells' := 71) (slots' := 95111) hx hb hown hts hin X (by decide) rfl rfl (by decide) rfl q1_129 (fun _ => rfl) (by decide) (by decide) (by decide) rfl rfl (by decide) (by decide) q7_61 rfl rfl (fun _ => rfl) (fun _ => rfl) dX12_init_959 dX12_init_961 (fun H locs X => ?_)
  refine lv_aload_n hx hb dX12_init_964 rfl (lv_at hl 0 rfl) ?_
  refine lv_bipush (v := (48 : Int32)) hx hb dX12_init_965 (by decide) ?_
  refine fA (k := 108) (N := 48) (atype := .int) (cells' := 72) (slots' := 95159) hx hb hown hts hin X (by decide) rfl rfl (by decide) rfl q1_129 (fun _ => rfl) (by decide) (by decide) (by decide) rfl rfl (by decide) (by decide) q7_62 rfl rfl (fun _ => rfl) (fun _ => rfl) dX12_init_967 dX12_init_969 (fun H locs X => ?_)
  refine lv_aload_n hx hb dX12_init_972 rfl (lv_at hl 0 rfl) ?_
  refine lv_iconst (v := (4 : Int32)) hx hb dX12_init_973 (by decide) ?_
  refine fA (k := 109) (N := 4) (atype := .long) (cells' := 73) (slots' := 95163) hx hb hown hts hin X (by decide) rfl rfl (by decide) rfl q1_128 (fun _ => rfl) (by decide) (by decide) (by decide) rfl rfl (by decide) (by decide) q7_63 rfl rfl (fun _ => rfl) (fun _ => rfl) dX12_init_974 dX12_init_976 (fun H locs X => ?_)
  refine lv_aload_n hx hb dX12_init_979 rfl (lv_at hl 0 rfl) ?_
  refine lv_iconst (v := (4 : Int32)) hx hb dX12_init_980 (by decide) ?_
  refine fA (k := 110) (N := 4) (atype := .int) (cells' := 74) (slots' := 95167) hx hb hown hts hin X (by decide) rfl rfl (by decide) rfl q1_129 (fun _ => rfl) (by decide) (by decide) (by decide) rfl rfl (by decide) (by decide) q7_64 rfl rfl (fun _ => rfl) (fun _ => rfl) dX12_init_981 dX12_init_983 (fun H locs X => ?_)
  refine lv_aload_n hx hb dX12_init_986 rfl (lv_at hl 0 rfl) ?_
  refine lv_sipush (v := (256 : Int32)) hx hb dX12_init_987 (by decide) ?_
  refine fA (k := 111) (N := 256) (atype := .long) (cells' := 75) (slots' := 95423) hx hb hown hts hin X (by decide) rfl rfl (by decide) rfl q1_128 (fun _ => rfl) (by decide) (by decide) (by decide) rfl rfl (by decide) (by decide) q7_65 rfl rfl (fun _ => rfl) (fun _ => rfl) dX12_init_990 dX12_init_992 (fun H locs X => ?_)
  exact kk _ _ X
theorem ct12_112 (hx : p.tables.exec = Jvm.exec) (hb : c.code = cX12_init) (hown : s.vm.findClass RX12 = some m.cls) (hts : ∀ w ∈ lw_all, w.before args s = true) (hin : meth.name = "<init>") (hl : lv_has ls 1 [(0, .ref h)]) (X : Md D A s H locs h 112) (kk : ∀ (H1 : Heap) (locs1 : List Loc), Md D A s H1 locs1 h 114 → W p l e { frames := 1, cells := 77, slots := 95683, locals := 40 } s m args below meth c H1 locs1 77 95683 Q (F0 m 1011 ls [])) : W p l e { frames := 1, cells := 77, slots := 95683, locals := 40 } s m args below meth c H locs 75 95423 Q (F0 m 995 ls []) := by
  refine lv_aload_n hx hb dX12_init_995 rfl (lv_at hl 0 rfl) ?_
  refine lv_sipush (v := (256 : Int32)) hx hb dX12_init_996 (by decide) ?_
  refine fA (k := 112) (N := 256) (atype := .int) (cells' := 76) (slots' := 95679) hx hb hown hts hin X (by decide) rfl rfl (by decide) rfl q1_129 (fun _ => rfl) (by decide) (by decide) (by decide) rfl rfl (by decide) (by decide) q7_66 rfl rfl (fun _ => rfl) (fun _ => rfl) dX12_init_999 dX12_init_1001 (fun H locs X => ?_)
  refine lv_aload_n hx hb dX12_init_1004 rfl (lv_at hl 0 rfl) ?_
  refine lv_iconst (v := (4 : Int32)) hx hb dX12_init_1005 (by decide) ?_
  refine fA (k := 113) (N := 4) (atype := .long) (cells' := 77) (slots' := 95683) hx hb hown hts hin X (by decide) rfl rfl (by decide) rfl q1_128 (fun _ => rfl) (by decide) (by decide) (by decide) rfl rfl (by decide) (by decide) q7_67 rfl rfl (fun _ => rfl) (fun _ => rfl) dX12_init_1006 dX12_init_1008 (fun H locs X => ?_)
  exact kk _ _ X
end C12
theorem dfX12 : ∀ j, j < 114 → defaultValue (tyX12 j) = vp_V ((List.range 114).map (dfl kdX12)) j := by decide +kernel
theorem cF_start (a : Nat → Nat) : (List.range 114).map (dfl kdX12) = (List.range 114).map (cF a 3) := by
  refine List.map_congr_left (fun j _ => ?_)
  unfold cF
  by_cases h : j < 3
  · rw [if_pos h]
    match j, h with
    | 0, _ => rfl
    | 1, _ => rfl
    | 2, _ => rfl
  · rw [if_neg h]
theorem cF_end (a : Nat → Nat) : (List.range 114).map (cF a 114) = (List.range 114).map (fld kdX12 a g0X12) := by
  refine List.map_congr_left (fun j hj => ?_)
  unfold cF
  rw [if_pos (List.mem_range.mp hj)]
theorem n_X12_init (l : Launch) (D : Dx) (h : Nat) (sz : Nat) : Met l yX12_init (ws_ yX12_init cX12_init 1 none) { frames := 1, cells := 77, slots := 95683, locals := 40 } (PC D [] [.ref h] [(h, .inr (12, (List.range 114).map (dfl kdX12)))] sz) (QN D (fun u : AY => True) (va_A [(h, .inr (12, (List.range 114).map (dfl kdX12)))] sz) (fun u => wX12 h u.1 u.2 g0X12) (fun u => tX12 u.2)) 77 95683 (va_A [(h, .inr (12, (List.range 114).map (dfl kdX12)))] sz) := by
  refine Met.ofW (cc := cX12_init) (maxL := 1) (ret := none) (by decide) rfl ?_
  intro p e s m args below meth c s₁ B hml hv
  obtain ⟨rfl, hsz, hP, hK, hD, hN⟩ := hv
  subst hsz
  have C : Cx p s m _ meth c cX12_init none 1 RX12 lw_all := Cx_of B hml
  have X := Hx_start hP hK hD hN
  have hin : meth.name = "<init>" := (name_of_methodNamed B.named B.method).1
  obtain ⟨hx, hb, hr, -, hown, hts, hlk⟩ := id C
  generalize va_A [(h, .inr (12, (List.range 114).map (dfl kdX12)))] s.heap.size = A at X ⊢
  have hl := lv_entry ([.ref h]) (n := 1) (Nat.le_of_ble_eq_true rfl)
  rw [lg_entry_eq]
  generalize (lg_sl ([.ref h]) ++ List.replicate (1 - (lg_sl ([.ref h])).length) Slot.unset).toArray = ls at hl ⊢
  have hl : lv_has ls 1 [(0, .ref h)] := hl
  refine lv_aload_n hx hb dX12_init_0 rfl (lv_at hl 0 rfl) ?_
  refine W.objInit hx hb hown (hts _ q6_166) (hts _ q1_31) (hts _ q1_32) rfl (by rw [hml]; exact hl.1) rfl dX12_init_1 (Nat.le_of_ble_eq_true rfl) (Nat.le_of_ble_eq_true rfl) ?_
  refine W.eq (g2 := F0 m 4 ls []) rfl ?_
  have X : Md D A s s.heap [] h 3 := ⟨fun _ => 0, fun _ => m.cls, by rw [cF_start (fun _ => 0)] at X; exact X⟩
  refine ct12_3 hx hb hown hts hin hl X (fun H locs X => ?_)
  refine ct12_7 hx hb hown hts hin hl X (fun H locs X => ?_)
  refine ct12_8 hx hb hown hts hin hl X (fun H locs X => ?_)
  refine ct12_16 hx hb hown hts hin hl X (fun H locs X => ?_)
  refine ct12_24 hx hb hown hts hin hl X (fun H locs X => ?_)
  refine ct12_32 hx hb hown hts hin hl X (fun H locs X => ?_)
  refine ct12_40 hx hb hown hts hin hl X (fun H locs X => ?_)
  refine ct12_48 hx hb hown hts hin hl X (fun H locs X => ?_)
  refine ct12_56 hx hb hown hts hin hl X (fun H locs X => ?_)
  refine ct12_64 hx hb hown hts hin hl X (fun H locs X => ?_)
  refine ct12_72 hx hb hown hts hin hl X (fun H locs X => ?_)
  refine ct12_80 hx hb hown hts hin hl X (fun H locs X => ?_)
  refine ct12_88 hx hb hown hts hin hl X (fun H locs X => ?_)
  refine ct12_96 hx hb hown hts hin hl X (fun H locs X => ?_)
  refine ct12_104 hx hb hown hts hin hl X (fun H locs X => ?_)
  refine ct12_112 hx hb hown hts hin hl X (fun H locs X => ?_)
  obtain ⟨a, y, X⟩ := X
  have X : Hx D (tX12 y) A s H locs (wX12 h a y g0X12) := by
    have e1 : ksX12.filter (fun j => decide (j < 114)) = ksX12 := by decide
    unfold cT cR at X
    rw [cF_end, e1] at X
    exact X
  exact W.vret hx hb hr (fun t ht hW => ⟨⟨(a, y), rfl, trivial, by rw [ht]; exact X.2.1, va_K.moved hW.alike X.1, X.2.2.1⟩, X.2.2.2.1.F ht⟩) X.2.2.2.1.2.2 dX12_init_1011 hlk
