theorem q2_190 : Cond.methodLink RL 13 yX11_feed ∈ lw_all := lw_in (tc_2 (List.mem_of_getElem? (i := 190) rfl)) rfl
theorem q2_191 : Cond.instanceMethod yX11_feed ∈ lw_all := lw_in (tc_2 (List.mem_of_getElem? (i := 191) rfl)) rfl
theorem q2_192 : Cond.selects RX11 yX11_feed yX11_feed ∈ lw_all := lw_in (tc_2 (List.mem_of_getElem? (i := 192) rfl)) rfl
theorem q2_193 : Cond.code yX11_feed cX11_feed 6 (some .int) ∈ lw_all := lw_in (tc_2 (List.mem_of_getElem? (i := 193) rfl)) rfl
theorem q8_57 : Cond.methodLink RL 17 yX12_feed ∈ lw_all := lw_in (tc_8 (List.mem_of_getElem? (i := 57) rfl)) rfl
theorem q8_58 : Cond.instanceMethod yX12_feed ∈ lw_all := lw_in (tc_8 (List.mem_of_getElem? (i := 58) rfl)) rfl
theorem q8_59 : Cond.selects RX12 yX12_feed yX12_feed ∈ lw_all := lw_in (tc_8 (List.mem_of_getElem? (i := 59) rfl)) rfl
theorem q8_60 : Cond.code yX12_feed cX12_feed 8 (some .int) ∈ lw_all := lw_in (tc_8 (List.mem_of_getElem? (i := 60) rfl)) rfl
theorem q2_198 : Cond.methodLink RL 18 yX11_end ∈ lw_all := lw_in (tc_2 (List.mem_of_getElem? (i := 198) rfl)) rfl
theorem q2_199 : Cond.instanceMethod yX11_end ∈ lw_all := lw_in (tc_2 (List.mem_of_getElem? (i := 199) rfl)) rfl
theorem q2_200 : Cond.selects RX11 yX11_end yX11_end ∈ lw_all := lw_in (tc_2 (List.mem_of_getElem? (i := 200) rfl)) rfl
theorem q2_201 : Cond.code yX11_end cX11_end 2 (some .int) ∈ lw_all := lw_in (tc_2 (List.mem_of_getElem? (i := 201) rfl)) rfl
theorem q8_61 : Cond.methodLink RL 22 yX12_end ∈ lw_all := lw_in (tc_8 (List.mem_of_getElem? (i := 61) rfl)) rfl
theorem q8_62 : Cond.instanceMethod yX12_end ∈ lw_all := lw_in (tc_8 (List.mem_of_getElem? (i := 62) rfl)) rfl
theorem q8_63 : Cond.selects RX12 yX12_end yX12_end ∈ lw_all := lw_in (tc_8 (List.mem_of_getElem? (i := 63) rfl)) rfl
theorem q8_64 : Cond.code yX12_end cX12_end 2 (some .int) ∈ lw_all := lw_in (tc_8 (List.mem_of_getElem? (i := 64) rfl)) rfl
theorem q5_149 : Cond.methodLink RL 28 yX11_fault ∈ lw_all := lw_in (tc_5 (List.mem_of_getElem? (i := 149) rfl)) rfl
theorem q5_150 : Cond.instanceMethod yX11_fault ∈ lw_all := lw_in (tc_5 (List.mem_of_getElem? (i := 150) rfl)) rfl
theorem q5_151 : Cond.selects RX11 yX11_fault yX11_fault ∈ lw_all := lw_in (tc_5 (List.mem_of_getElem? (i := 151) rfl)) rfl
theorem q5_152 : Cond.code yX11_fault cX11_fault 1 (some .int) ∈ lw_all := lw_in (tc_5 (List.mem_of_getElem? (i := 152) rfl)) rfl
theorem q9_176 : Cond.methodLink RL 31 yX12_fault_ ∈ lw_all := lw_in (tc_9 (List.mem_of_getElem? (i := 176) rfl)) rfl
theorem q9_177 : Cond.instanceMethod yX12_fault_ ∈ lw_all := lw_in (tc_9 (List.mem_of_getElem? (i := 177) rfl)) rfl
theorem q9_178 : Cond.selects RX12 yX12_fault_ yX12_fault_ ∈ lw_all := lw_in (tc_9 (List.mem_of_getElem? (i := 178) rfl)) rfl
theorem q9_179 : Cond.code yX12_fault_ cX12_fault_ 1 (some .int) ∈ lw_all := lw_in (tc_9 (List.mem_of_getElem? (i := 179) rfl)) rfl
theorem q5_153 : Cond.methodLink RL 32 yX11_count ∈ lw_all := lw_in (tc_5 (List.mem_of_getElem? (i := 153) rfl)) rfl
theorem q5_154 : Cond.instanceMethod yX11_count ∈ lw_all := lw_in (tc_5 (List.mem_of_getElem? (i := 154) rfl)) rfl
theorem q5_155 : Cond.selects RX11 yX11_count yX11_count ∈ lw_all := lw_in (tc_5 (List.mem_of_getElem? (i := 155) rfl)) rfl
theorem q5_156 : Cond.code yX11_count cX11_count 2 (some .int) ∈ lw_all := lw_in (tc_5 (List.mem_of_getElem? (i := 156) rfl)) rfl
theorem q9_188 : Cond.methodLink RL 35 yX12_count ∈ lw_all := lw_in (tc_9 (List.mem_of_getElem? (i := 188) rfl)) rfl
theorem q9_189 : Cond.instanceMethod yX12_count ∈ lw_all := lw_in (tc_9 (List.mem_of_getElem? (i := 189) rfl)) rfl
theorem q9_190 : Cond.selects RX12 yX12_count yX12_count ∈ lw_all := lw_in (tc_9 (List.mem_of_getElem? (i := 190) rfl)) rfl
theorem q9_191 : Cond.code yX12_count cX12_count 2 (some .int) ∈ lw_all := lw_in (tc_9 (List.mem_of_getElem? (i := 191) rfl)) rfl
theorem q5_157 : Cond.methodLink RL 36 yX11_thing ∈ lw_all := lw_in (tc_5 (List.mem_of_getElem? (i := 157) rfl)) rfl
theorem q5_158 : Cond.instanceMethod yX11_thing ∈ lw_all := lw_in (tc_5 (List.mem_of_getElem? (i := 158) rfl)) rfl
theorem q5_159 : Cond.selects RX11 yX11_thing yX11_thing ∈ lw_all := lw_in (tc_5 (List.mem_of_getElem? (i := 159) rfl)) rfl
theorem q5_160 : Cond.code yX11_thing cX11_thing 4 (some .int) ∈ lw_all := lw_in (tc_5 (List.mem_of_getElem? (i := 160) rfl)) rfl
theorem q9_192 : Cond.methodLink RL 40 yX12_thing_ ∈ lw_all := lw_in (tc_9 (List.mem_of_getElem? (i := 192) rfl)) rfl
theorem q9_193 : Cond.instanceMethod yX12_thing_ ∈ lw_all := lw_in (tc_9 (List.mem_of_getElem? (i := 193) rfl)) rfl
theorem q9_194 : Cond.selects RX12 yX12_thing_ yX12_thing_ ∈ lw_all := lw_in (tc_9 (List.mem_of_getElem? (i := 194) rfl)) rfl
theorem q9_195 : Cond.code yX12_thing_ cX12_thing_ 5 (some .int) ∈ lw_all := lw_in (tc_9 (List.mem_of_getElem? (i := 195) rfl)) rfl
theorem q5_169 : Cond.methodLink RL 41 yX11_letter ∈ lw_all := lw_in (tc_5 (List.mem_of_getElem? (i := 169) rfl)) rfl
theorem q5_170 : Cond.instanceMethod yX11_letter ∈ lw_all := lw_in (tc_5 (List.mem_of_getElem? (i := 170) rfl)) rfl
theorem q5_171 : Cond.selects RX11 yX11_letter yX11_letter ∈ lw_all := lw_in (tc_5 (List.mem_of_getElem? (i := 171) rfl)) rfl
theorem q5_172 : Cond.code yX11_letter cX11_letter 4 (some .int) ∈ lw_all := lw_in (tc_5 (List.mem_of_getElem? (i := 172) rfl)) rfl
theorem q9_200 : Cond.methodLink RL 44 yX12_letter ∈ lw_all := lw_in (tc_9 (List.mem_of_getElem? (i := 200) rfl)) rfl
theorem q9_201 : Cond.instanceMethod yX12_letter ∈ lw_all := lw_in (tc_9 (List.mem_of_getElem? (i := 201) rfl)) rfl
theorem q9_202 : Cond.selects RX12 yX12_letter yX12_letter ∈ lw_all := lw_in (tc_9 (List.mem_of_getElem? (i := 202) rfl)) rfl
theorem q9_203 : Cond.code yX12_letter cX12_letter 4 (some .int) ∈ lw_all := lw_in (tc_9 (List.mem_of_getElem? (i := 203) rfl)) rfl
theorem q5_173 : Cond.methodLink RL 45 yX11_value ∈ lw_all := lw_in (tc_5 (List.mem_of_getElem? (i := 173) rfl)) rfl
theorem q5_174 : Cond.instanceMethod yX11_value ∈ lw_all := lw_in (tc_5 (List.mem_of_getElem? (i := 174) rfl)) rfl
theorem q5_175 : Cond.selects RX11 yX11_value yX11_value ∈ lw_all := lw_in (tc_5 (List.mem_of_getElem? (i := 175) rfl)) rfl
theorem q5_176 : Cond.code yX11_value cX11_value 5 (some .long) ∈ lw_all := lw_in (tc_5 (List.mem_of_getElem? (i := 176) rfl)) rfl
theorem q9_204 : Cond.methodLink RL 49 yX12_value ∈ lw_all := lw_in (tc_9 (List.mem_of_getElem? (i := 204) rfl)) rfl
theorem q9_205 : Cond.instanceMethod yX12_value ∈ lw_all := lw_in (tc_9 (List.mem_of_getElem? (i := 205) rfl)) rfl
theorem q9_206 : Cond.selects RX12 yX12_value yX12_value ∈ lw_all := lw_in (tc_9 (List.mem_of_getElem? (i := 206) rfl)) rfl
theorem q9_207 : Cond.code yX12_value cX12_value 3 (some .long) ∈ lw_all := lw_in (tc_9 (List.mem_of_getElem? (i := 207) rfl)) rfl
theorem q5_200 : Cond.methodLink RL 52 yX11_set ∈ lw_all := lw_in (tc_5 (List.mem_of_getElem? (i := 200) rfl)) rfl
theorem q5_201 : Cond.instanceMethod yX11_set ∈ lw_all := lw_in (tc_5 (List.mem_of_getElem? (i := 201) rfl)) rfl
theorem q5_202 : Cond.selects RX11 yX11_set yX11_set ∈ lw_all := lw_in (tc_5 (List.mem_of_getElem? (i := 202) rfl)) rfl
theorem q5_203 : Cond.code yX11_set cX11_set 5 (some .boolean) ∈ lw_all := lw_in (tc_5 (List.mem_of_getElem? (i := 203) rfl)) rfl
theorem q9_208 : Cond.methodLink RL 56 yX12_set ∈ lw_all := lw_in (tc_9 (List.mem_of_getElem? (i := 208) rfl)) rfl
theorem q9_209 : Cond.instanceMethod yX12_set ∈ lw_all := lw_in (tc_9 (List.mem_of_getElem? (i := 209) rfl)) rfl
theorem q9_210 : Cond.selects RX12 yX12_set yX12_set ∈ lw_all := lw_in (tc_9 (List.mem_of_getElem? (i := 210) rfl)) rfl
theorem q9_211 : Cond.code yX12_set cX12_set 7 (some .boolean) ∈ lw_all := lw_in (tc_9 (List.mem_of_getElem? (i := 211) rfl)) rfl
theorem q10_51 : Cond.constantLong RL 50 (4294967295) ∈ lw_all := lw_in (tc_10 (List.mem_of_getElem? (i := 51) rfl)) rfl
theorem q5_223 : Cond.methodLink RL 57 yX11_step ∈ lw_all := lw_in (tc_5 (List.mem_of_getElem? (i := 223) rfl)) rfl
theorem q5_224 : Cond.instanceMethod yX11_step ∈ lw_all := lw_in (tc_5 (List.mem_of_getElem? (i := 224) rfl)) rfl
theorem q5_225 : Cond.selects RX11 yX11_step yX11_step ∈ lw_all := lw_in (tc_5 (List.mem_of_getElem? (i := 225) rfl)) rfl
theorem q5_226 : Cond.code yX11_step cX11_step 3 (some .boolean) ∈ lw_all := lw_in (tc_5 (List.mem_of_getElem? (i := 226) rfl)) rfl
theorem q9_212 : Cond.methodLink RL 61 yX12_step ∈ lw_all := lw_in (tc_9 (List.mem_of_getElem? (i := 212) rfl)) rfl
theorem q9_213 : Cond.instanceMethod yX12_step ∈ lw_all := lw_in (tc_9 (List.mem_of_getElem? (i := 213) rfl)) rfl
theorem q9_214 : Cond.selects RX12 yX12_step yX12_step ∈ lw_all := lw_in (tc_9 (List.mem_of_getElem? (i := 214) rfl)) rfl
theorem q9_215 : Cond.code yX12_step cX12_step 3 (some .boolean) ∈ lw_all := lw_in (tc_9 (List.mem_of_getElem? (i := 215) rfl)) rfl
theorem q5_227 : Cond.methodLink RL 62 yX11_tick ∈ lw_all := lw_in (tc_5 (List.mem_of_getElem? (i := 227) rfl)) rfl
theorem q5_228 : Cond.instanceMethod yX11_tick ∈ lw_all := lw_in (tc_5 (List.mem_of_getElem? (i := 228) rfl)) rfl
theorem q5_229 : Cond.selects RX11 yX11_tick yX11_tick ∈ lw_all := lw_in (tc_5 (List.mem_of_getElem? (i := 229) rfl)) rfl
theorem q5_230 : Cond.code yX11_tick cX11_tick 3 (some .long) ∈ lw_all := lw_in (tc_5 (List.mem_of_getElem? (i := 230) rfl)) rfl
theorem q9_180 : Cond.methodLink RL 66 yX12_tick ∈ lw_all := lw_in (tc_9 (List.mem_of_getElem? (i := 180) rfl)) rfl
theorem q9_181 : Cond.instanceMethod yX12_tick ∈ lw_all := lw_in (tc_9 (List.mem_of_getElem? (i := 181) rfl)) rfl
theorem q9_182 : Cond.selects RX12 yX12_tick yX12_tick ∈ lw_all := lw_in (tc_9 (List.mem_of_getElem? (i := 182) rfl)) rfl
theorem q9_183 : Cond.code yX12_tick cX12_tick 3 (some .long) ∈ lw_all := lw_in (tc_9 (List.mem_of_getElem? (i := 183) rfl)) rfl
theorem q6_7 : Cond.methodLink RL 67 yX11_strike ∈ lw_all := lw_in (tc_6 (List.mem_of_getElem? (i := 7) rfl)) rfl
theorem q6_8 : Cond.instanceMethod yX11_strike ∈ lw_all := lw_in (tc_6 (List.mem_of_getElem? (i := 8) rfl)) rfl
theorem q6_9 : Cond.selects RX11 yX11_strike yX11_strike ∈ lw_all := lw_in (tc_6 (List.mem_of_getElem? (i := 9) rfl)) rfl
theorem q6_10 : Cond.code yX11_strike cX11_strike 4 (some .long) ∈ lw_all := lw_in (tc_6 (List.mem_of_getElem? (i := 10) rfl)) rfl
theorem q9_184 : Cond.methodLink RL 70 yX12_strike ∈ lw_all := lw_in (tc_9 (List.mem_of_getElem? (i := 184) rfl)) rfl
theorem q9_185 : Cond.instanceMethod yX12_strike ∈ lw_all := lw_in (tc_9 (List.mem_of_getElem? (i := 185) rfl)) rfl
theorem q9_186 : Cond.selects RX12 yX12_strike yX12_strike ∈ lw_all := lw_in (tc_9 (List.mem_of_getElem? (i := 186) rfl)) rfl
theorem q9_187 : Cond.code yX12_strike cX12_strike 4 (some .long) ∈ lw_all := lw_in (tc_9 (List.mem_of_getElem? (i := 187) rfl)) rfl
theorem q6_34 : Cond.methodLink RL 75 yX11_told ∈ lw_all := lw_in (tc_6 (List.mem_of_getElem? (i := 34) rfl)) rfl
theorem q6_35 : Cond.instanceMethod yX11_told ∈ lw_all := lw_in (tc_6 (List.mem_of_getElem? (i := 35) rfl)) rfl
theorem q6_36 : Cond.selects RX11 yX11_told yX11_told ∈ lw_all := lw_in (tc_6 (List.mem_of_getElem? (i := 36) rfl)) rfl
theorem q6_37 : Cond.code yX11_told cX11_told 1 (some .long) ∈ lw_all := lw_in (tc_6 (List.mem_of_getElem? (i := 37) rfl)) rfl
theorem q9_159 : Cond.methodLink RL 79 yX12_told_ ∈ lw_all := lw_in (tc_9 (List.mem_of_getElem? (i := 159) rfl)) rfl
theorem q9_160 : Cond.instanceMethod yX12_told_ ∈ lw_all := lw_in (tc_9 (List.mem_of_getElem? (i := 160) rfl)) rfl
theorem q9_161 : Cond.selects RX12 yX12_told_ yX12_told_ ∈ lw_all := lw_in (tc_9 (List.mem_of_getElem? (i := 161) rfl)) rfl
theorem q9_162 : Cond.code yX12_told_ cX12_told_ 1 (some .long) ∈ lw_all := lw_in (tc_9 (List.mem_of_getElem? (i := 162) rfl)) rfl
theorem q6_42 : Cond.methodLink RL 84 yX11_dial ∈ lw_all := lw_in (tc_6 (List.mem_of_getElem? (i := 42) rfl)) rfl
theorem q6_43 : Cond.instanceMethod yX11_dial ∈ lw_all := lw_in (tc_6 (List.mem_of_getElem? (i := 43) rfl)) rfl
theorem q6_44 : Cond.selects RX11 yX11_dial yX11_dial ∈ lw_all := lw_in (tc_6 (List.mem_of_getElem? (i := 44) rfl)) rfl
theorem q6_45 : Cond.code yX11_dial cX11_dial 4 (some .int) ∈ lw_all := lw_in (tc_6 (List.mem_of_getElem? (i := 45) rfl)) rfl
theorem q9_216 : Cond.methodLink RL 88 yX12_dial ∈ lw_all := lw_in (tc_9 (List.mem_of_getElem? (i := 216) rfl)) rfl
theorem q9_217 : Cond.instanceMethod yX12_dial ∈ lw_all := lw_in (tc_9 (List.mem_of_getElem? (i := 217) rfl)) rfl
theorem q9_218 : Cond.selects RX12 yX12_dial yX12_dial ∈ lw_all := lw_in (tc_9 (List.mem_of_getElem? (i := 218) rfl)) rfl
theorem q9_219 : Cond.code yX12_dial cX12_dial 4 (some .int) ∈ lw_all := lw_in (tc_9 (List.mem_of_getElem? (i := 219) rfl)) rfl
theorem q6_62 : Cond.methodLink RL 89 yX11_clock ∈ lw_all := lw_in (tc_6 (List.mem_of_getElem? (i := 62) rfl)) rfl
theorem q6_63 : Cond.instanceMethod yX11_clock ∈ lw_all := lw_in (tc_6 (List.mem_of_getElem? (i := 63) rfl)) rfl
theorem q6_64 : Cond.selects RX11 yX11_clock yX11_clock ∈ lw_all := lw_in (tc_6 (List.mem_of_getElem? (i := 64) rfl)) rfl
theorem q6_65 : Cond.code yX11_clock cX11_clock 8 (some .int) ∈ lw_all := lw_in (tc_6 (List.mem_of_getElem? (i := 65) rfl)) rfl
theorem q9_232 : Cond.methodLink RL 93 yX12_clock ∈ lw_all := lw_in (tc_9 (List.mem_of_getElem? (i := 232) rfl)) rfl
theorem q9_233 : Cond.instanceMethod yX12_clock ∈ lw_all := lw_in (tc_9 (List.mem_of_getElem? (i := 233) rfl)) rfl
theorem q9_234 : Cond.selects RX12 yX12_clock yX12_clock ∈ lw_all := lw_in (tc_9 (List.mem_of_getElem? (i := 234) rfl)) rfl
theorem q9_235 : Cond.code yX12_clock cX12_clock 10 (some .int) ∈ lw_all := lw_in (tc_9 (List.mem_of_getElem? (i := 235) rfl)) rfl
theorem q6_74 : Cond.methodLink RL 94 yX11_octet ∈ lw_all := lw_in (tc_6 (List.mem_of_getElem? (i := 74) rfl)) rfl
theorem q6_75 : Cond.instanceMethod yX11_octet ∈ lw_all := lw_in (tc_6 (List.mem_of_getElem? (i := 75) rfl)) rfl
theorem q6_76 : Cond.selects RX11 yX11_octet yX11_octet ∈ lw_all := lw_in (tc_6 (List.mem_of_getElem? (i := 76) rfl)) rfl
theorem q6_77 : Cond.code yX11_octet cX11_octet 2 (some .int) ∈ lw_all := lw_in (tc_6 (List.mem_of_getElem? (i := 77) rfl)) rfl
theorem q10_1 : Cond.methodLink RL 97 yX12_octet ∈ lw_all := lw_in (tc_10 (List.mem_of_getElem? (i := 1) rfl)) rfl
theorem q10_2 : Cond.instanceMethod yX12_octet ∈ lw_all := lw_in (tc_10 (List.mem_of_getElem? (i := 2) rfl)) rfl
theorem q10_3 : Cond.selects RX12 yX12_octet yX12_octet ∈ lw_all := lw_in (tc_10 (List.mem_of_getElem? (i := 3) rfl)) rfl
theorem q10_4 : Cond.code yX12_octet cX12_octet 2 (some .int) ∈ lw_all := lw_in (tc_10 (List.mem_of_getElem? (i := 4) rfl)) rfl
theorem q6_78 : Cond.methodLink RL 98 yX11_measure ∈ lw_all := lw_in (tc_6 (List.mem_of_getElem? (i := 78) rfl)) rfl
theorem q6_79 : Cond.instanceMethod yX11_measure ∈ lw_all := lw_in (tc_6 (List.mem_of_getElem? (i := 79) rfl)) rfl
theorem q6_80 : Cond.selects RX11 yX11_measure yX11_measure ∈ lw_all := lw_in (tc_6 (List.mem_of_getElem? (i := 80) rfl)) rfl
theorem q6_81 : Cond.code yX11_measure cX11_measure 5 (some .long) ∈ lw_all := lw_in (tc_6 (List.mem_of_getElem? (i := 81) rfl)) rfl
theorem q10_5 : Cond.methodLink RL 102 yX12_measure ∈ lw_all := lw_in (tc_10 (List.mem_of_getElem? (i := 5) rfl)) rfl
theorem q10_6 : Cond.instanceMethod yX12_measure ∈ lw_all := lw_in (tc_10 (List.mem_of_getElem? (i := 6) rfl)) rfl
theorem q10_7 : Cond.selects RX12 yX12_measure yX12_measure ∈ lw_all := lw_in (tc_10 (List.mem_of_getElem? (i := 7) rfl)) rfl
theorem q10_8 : Cond.code yX12_measure cX12_measure 5 (some .long) ∈ lw_all := lw_in (tc_10 (List.mem_of_getElem? (i := 8) rfl)) rfl
theorem q6_84 : Cond.methodLink RL 103 yX11_together ∈ lw_all := lw_in (tc_6 (List.mem_of_getElem? (i := 84) rfl)) rfl
theorem q6_85 : Cond.instanceMethod yX11_together ∈ lw_all := lw_in (tc_6 (List.mem_of_getElem? (i := 85) rfl)) rfl
theorem q6_86 : Cond.selects RX11 yX11_together yX11_together ∈ lw_all := lw_in (tc_6 (List.mem_of_getElem? (i := 86) rfl)) rfl
theorem q6_87 : Cond.code yX11_together cX11_together 13 (some .long) ∈ lw_all := lw_in (tc_6 (List.mem_of_getElem? (i := 87) rfl)) rfl
theorem q10_9 : Cond.methodLink RL 106 yX12_together ∈ lw_all := lw_in (tc_10 (List.mem_of_getElem? (i := 9) rfl)) rfl
theorem q10_10 : Cond.instanceMethod yX12_together ∈ lw_all := lw_in (tc_10 (List.mem_of_getElem? (i := 10) rfl)) rfl
theorem q10_11 : Cond.selects RX12 yX12_together yX12_together ∈ lw_all := lw_in (tc_10 (List.mem_of_getElem? (i := 11) rfl)) rfl
theorem q10_12 : Cond.code yX12_together cX12_together 9 (some .long) ∈ lw_all := lw_in (tc_10 (List.mem_of_getElem? (i := 12) rfl)) rfl
theorem q6_92 : Cond.methodLink RL 107 yX11_train ∈ lw_all := lw_in (tc_6 (List.mem_of_getElem? (i := 92) rfl)) rfl
theorem q6_93 : Cond.instanceMethod yX11_train ∈ lw_all := lw_in (tc_6 (List.mem_of_getElem? (i := 93) rfl)) rfl
theorem q6_94 : Cond.selects RX11 yX11_train yX11_train ∈ lw_all := lw_in (tc_6 (List.mem_of_getElem? (i := 94) rfl)) rfl
theorem q6_95 : Cond.code yX11_train cX11_train 8 (some .long) ∈ lw_all := lw_in (tc_6 (List.mem_of_getElem? (i := 95) rfl)) rfl
theorem q10_16 : Cond.methodLink RL 111 yX12_train ∈ lw_all := lw_in (tc_10 (List.mem_of_getElem? (i := 16) rfl)) rfl
theorem q10_17 : Cond.instanceMethod yX12_train ∈ lw_all := lw_in (tc_10 (List.mem_of_getElem? (i := 17) rfl)) rfl
theorem q10_18 : Cond.selects RX12 yX12_train yX12_train ∈ lw_all := lw_in (tc_10 (List.mem_of_getElem? (i := 18) rfl)) rfl
theorem q10_19 : Cond.code yX12_train cX12_train 21 (some .long) ∈ lw_all := lw_in (tc_10 (List.mem_of_getElem? (i := 19) rfl)) rfl
theorem q6_118 : Cond.methodLink RL 112 yX11_wheel ∈ lw_all := lw_in (tc_6 (List.mem_of_getElem? (i := 118) rfl)) rfl
theorem q6_119 : Cond.instanceMethod yX11_wheel ∈ lw_all := lw_in (tc_6 (List.mem_of_getElem? (i := 119) rfl)) rfl
theorem q6_120 : Cond.selects RX11 yX11_wheel yX11_wheel ∈ lw_all := lw_in (tc_6 (List.mem_of_getElem? (i := 120) rfl)) rfl
theorem q6_121 : Cond.code yX11_wheel cX11_wheel 2 (some .int) ∈ lw_all := lw_in (tc_6 (List.mem_of_getElem? (i := 121) rfl)) rfl
theorem q10_21 : Cond.methodLink RL 115 yX12_wheel ∈ lw_all := lw_in (tc_10 (List.mem_of_getElem? (i := 21) rfl)) rfl
theorem q10_22 : Cond.instanceMethod yX12_wheel ∈ lw_all := lw_in (tc_10 (List.mem_of_getElem? (i := 22) rfl)) rfl
theorem q10_23 : Cond.selects RX12 yX12_wheel yX12_wheel ∈ lw_all := lw_in (tc_10 (List.mem_of_getElem? (i := 23) rfl)) rfl
theorem q10_24 : Cond.code yX12_wheel cX12_wheel 2 (some .int) ∈ lw_all := lw_in (tc_10 (List.mem_of_getElem? (i := 24) rfl)) rfl
theorem q6_122 : Cond.methodLink RL 116 yX11_date ∈ lw_all := lw_in (tc_6 (List.mem_of_getElem? (i := 122) rfl)) rfl
theorem q6_123 : Cond.instanceMethod yX11_date ∈ lw_all := lw_in (tc_6 (List.mem_of_getElem? (i := 123) rfl)) rfl
theorem q6_124 : Cond.selects RX11 yX11_date yX11_date ∈ lw_all := lw_in (tc_6 (List.mem_of_getElem? (i := 124) rfl)) rfl
theorem q6_125 : Cond.code yX11_date cX11_date 6 (some .int) ∈ lw_all := lw_in (tc_6 (List.mem_of_getElem? (i := 125) rfl)) rfl
theorem q10_25 : Cond.methodLink RL 119 yX12_date ∈ lw_all := lw_in (tc_10 (List.mem_of_getElem? (i := 25) rfl)) rfl
theorem q10_26 : Cond.instanceMethod yX12_date ∈ lw_all := lw_in (tc_10 (List.mem_of_getElem? (i := 26) rfl)) rfl
theorem q10_27 : Cond.selects RX12 yX12_date yX12_date ∈ lw_all := lw_in (tc_10 (List.mem_of_getElem? (i := 27) rfl)) rfl
theorem q10_28 : Cond.code yX12_date cX12_date 12 (some .int) ∈ lw_all := lw_in (tc_10 (List.mem_of_getElem? (i := 28) rfl)) rfl
theorem pm_2721_0 (B_11 B_0 B_4 B_2 B_3 B_5 B_6 B_7 B_8 B_80 B_sp B_ak B_rd B_k0 B_k1 B_k2 B_k3 B_M : va_W) : ((B_11 ++ (B_0 ++ (B_4 ++ (B_2 ++ (B_3 ++ (B_5 ++ (B_6 ++ (B_7 ++ (B_8 ++ (B_80 ++ (B_sp ++ (B_ak ++ (B_rd ++ (B_k0 ++ (B_k1 ++ (B_k2 ++ (B_k3 ++ (B_M))))))))))))))))))).Perm ((B_11 ++ (B_0)) ++ (B_4 ++ (B_2 ++ (B_3 ++ (B_5 ++ (B_6 ++ (B_7 ++ (B_8 ++ (B_80 ++ (B_sp ++ (B_ak ++ (B_rd ++ (B_k0 ++ (B_k1 ++ (B_k2 ++ (B_k3 ++ (B_M))))))))))))))))) := by
  refine perm_cnt (fun c hc => ?_)
  simp only [hc]
  all_goals omega
theorem pm_2721_1 (B_11 B_0 B_4 B_2 B_3 B_5 B_6 B_7 B_8 B_80 B_sp B_ak B_rd B_k0 B_k1 B_k2 B_k3 B_M : va_W) : ((B_11 ++ (B_0)) ++ (B_4 ++ (B_2 ++ (B_3 ++ (B_5 ++ (B_6 ++ (B_7 ++ (B_8 ++ (B_80 ++ (B_sp ++ (B_ak ++ (B_rd ++ (B_k0 ++ (B_k1 ++ (B_k2 ++ (B_k3 ++ (B_M))))))))))))))))).Perm ((B_M) ++ (B_11 ++ (B_0 ++ (B_4 ++ (B_2 ++ (B_3 ++ (B_5 ++ (B_6 ++ (B_7 ++ (B_8 ++ (B_80 ++ (B_sp ++ (B_ak ++ (B_rd ++ (B_k0 ++ (B_k1 ++ (B_k2 ++ (B_k3)))))))))))))))))) := by
  refine perm_cnt (fun c hc => ?_)
  simp only [hc]
  all_goals omega
theorem pm_2721_2 (B_11 B_0 B_4 B_2 B_3 B_5 B_6 B_7 B_8 B_80 B_sp B_ak B_rd B_k0 B_k1 B_k2 B_k3 B_M : va_W) : ((B_M) ++ (B_11 ++ (B_0 ++ (B_4 ++ (B_2 ++ (B_3 ++ (B_5 ++ (B_6 ++ (B_7 ++ (B_8 ++ (B_80 ++ (B_sp ++ (B_ak ++ (B_rd ++ (B_k0 ++ (B_k1 ++ (B_k2 ++ (B_k3)))))))))))))))))).Perm ((B_11 ++ (B_0 ++ (B_4 ++ (B_2 ++ (B_3 ++ (B_5 ++ (B_6 ++ (B_7 ++ (B_8 ++ (B_80 ++ (B_sp ++ (B_ak ++ (B_rd ++ (B_k0 ++ (B_k1 ++ (B_k2 ++ (B_k3 ++ (B_M))))))))))))))))))) := by
  refine perm_cnt (fun c hc => ?_)
  simp only [hc]
  all_goals omega
theorem pm_2721_3 (B_11 B_0 B_4 B_2 B_3 B_5 B_6 B_7 B_8 B_80 B_sp B_ak B_rd B_k0 B_k1 B_k2 B_k3 B_M : va_W) : ((B_11 ++ (B_0 ++ (B_4 ++ (B_2 ++ (B_3 ++ (B_5 ++ (B_6 ++ (B_7 ++ (B_8 ++ (B_80 ++ (B_sp ++ (B_ak ++ (B_rd ++ (B_k0 ++ (B_k1 ++ (B_k2 ++ (B_k3 ++ (B_M))))))))))))))))))).Perm ((B_11) ++ (B_0 ++ (B_4 ++ (B_2 ++ (B_3 ++ (B_5 ++ (B_6 ++ (B_7 ++ (B_8 ++ (B_80 ++ (B_sp ++ (B_ak ++ (B_rd ++ (B_k0 ++ (B_k1 ++ (B_k2 ++ (B_k3 ++ (B_M)))))))))))))))))) := by
  refine perm_cnt (fun c hc => ?_)
  simp only [hc]
  all_goals omega
theorem pm_2721_4 (B_11 B_0 B_4 B_2 B_3 B_5 B_6 B_7 B_8 B_80 B_sp B_ak B_rd B_k0 B_k1 B_k2 B_k3 B_M : va_W) : ((B_11) ++ (B_0 ++ (B_4 ++ (B_2 ++ (B_3 ++ (B_5 ++ (B_6 ++ (B_7 ++ (B_8 ++ (B_80 ++ (B_sp ++ (B_ak ++ (B_rd ++ (B_k0 ++ (B_k1 ++ (B_k2 ++ (B_k3 ++ (B_M)))))))))))))))))).Perm ((B_M) ++ (B_11 ++ (B_0 ++ (B_4 ++ (B_2 ++ (B_3 ++ (B_5 ++ (B_6 ++ (B_7 ++ (B_8 ++ (B_80 ++ (B_sp ++ (B_ak ++ (B_rd ++ (B_k0 ++ (B_k1 ++ (B_k2 ++ (B_k3)))))))))))))))))) := by
  refine perm_cnt (fun c hc => ?_)
  simp only [hc]
  all_goals omega
theorem pm_2721_5 (B_11 B_0 B_4 B_2 B_3 B_5 B_6 B_7 B_8 B_80 B_sp B_ak B_rd B_k0 B_k1 B_k2 B_k3 B_M : va_W) : ((B_11 ++ (B_0 ++ (B_4 ++ (B_2 ++ (B_3 ++ (B_5 ++ (B_6 ++ (B_7 ++ (B_8 ++ (B_80 ++ (B_sp ++ (B_ak ++ (B_rd ++ (B_k0 ++ (B_k1 ++ (B_k2 ++ (B_k3 ++ (B_M))))))))))))))))))).Perm ((B_11 ++ (B_3 ++ (B_6 ++ (B_7 ++ (B_8 ++ (B_80)))))) ++ (B_0 ++ (B_4 ++ (B_2 ++ (B_5 ++ (B_sp ++ (B_ak ++ (B_rd ++ (B_k0 ++ (B_k1 ++ (B_k2 ++ (B_k3 ++ (B_M))))))))))))) := by
  refine perm_cnt (fun c hc => ?_)
  simp only [hc]
  all_goals omega
theorem pm_2721_6 (B_11 B_0 B_4 B_2 B_3 B_5 B_6 B_7 B_8 B_80 B_sp B_ak B_rd B_k0 B_k1 B_k2 B_k3 B_M : va_W) : ((B_11 ++ (B_3 ++ (B_6 ++ (B_7 ++ (B_8 ++ (B_80)))))) ++ (B_0 ++ (B_4 ++ (B_2 ++ (B_5 ++ (B_sp ++ (B_ak ++ (B_rd ++ (B_k0 ++ (B_k1 ++ (B_k2 ++ (B_k3 ++ (B_M))))))))))))).Perm ((B_M) ++ (B_11 ++ (B_0 ++ (B_4 ++ (B_2 ++ (B_3 ++ (B_5 ++ (B_6 ++ (B_7 ++ (B_8 ++ (B_80 ++ (B_sp ++ (B_ak ++ (B_rd ++ (B_k0 ++ (B_k1 ++ (B_k2 ++ (B_k3)))))))))))))))))) := by
  refine perm_cnt (fun c hc => ?_)
  simp only [hc]
  all_goals omega
theorem pm_2721_7 (B_11 B_0 B_4 B_2 B_3 B_5 B_6 B_7 B_8 B_80 B_sp B_ak B_rd B_k0 B_k1 B_k2 B_k3 B_M : va_W) : ((B_11 ++ (B_0 ++ (B_4 ++ (B_2 ++ (B_3 ++ (B_5 ++ (B_6 ++ (B_7 ++ (B_8 ++ (B_80 ++ (B_sp ++ (B_ak ++ (B_rd ++ (B_k0 ++ (B_k1 ++ (B_k2 ++ (B_k3 ++ (B_M))))))))))))))))))).Perm ((B_11 ++ (B_3 ++ (B_8))) ++ (B_0 ++ (B_4 ++ (B_2 ++ (B_5 ++ (B_6 ++ (B_7 ++ (B_80 ++ (B_sp ++ (B_ak ++ (B_rd ++ (B_k0 ++ (B_k1 ++ (B_k2 ++ (B_k3 ++ (B_M)))))))))))))))) := by
  refine perm_cnt (fun c hc => ?_)
  simp only [hc]
  all_goals omega
theorem pm_2721_8 (B_11 B_0 B_4 B_2 B_3 B_5 B_6 B_7 B_8 B_80 B_sp B_ak B_rd B_k0 B_k1 B_k2 B_k3 B_M : va_W) : ((B_11 ++ (B_3 ++ (B_8))) ++ (B_0 ++ (B_4 ++ (B_2 ++ (B_5 ++ (B_6 ++ (B_7 ++ (B_80 ++ (B_sp ++ (B_ak ++ (B_rd ++ (B_k0 ++ (B_k1 ++ (B_k2 ++ (B_k3 ++ (B_M)))))))))))))))).Perm ((B_M) ++ (B_11 ++ (B_0 ++ (B_4 ++ (B_2 ++ (B_3 ++ (B_5 ++ (B_6 ++ (B_7 ++ (B_8 ++ (B_80 ++ (B_sp ++ (B_ak ++ (B_rd ++ (B_k0 ++ (B_k1 ++ (B_k2 ++ (B_k3)))))))))))))))))) := by
  refine perm_cnt (fun c hc => ?_)
  simp only [hc]
  all_goals omega
theorem pm_2721_9 (B_11 B_0 B_4 B_2 B_3 B_5 B_6 B_7 B_8 B_80 B_sp B_ak B_rd B_k0 B_k1 B_k2 B_k3 B_M : va_W) : ((B_11 ++ (B_0 ++ (B_4 ++ (B_2 ++ (B_3 ++ (B_5 ++ (B_6 ++ (B_7 ++ (B_8 ++ (B_80 ++ (B_sp ++ (B_ak ++ (B_rd ++ (B_k0 ++ (B_k1 ++ (B_k2 ++ (B_k3 ++ (B_M))))))))))))))))))).Perm ((B_11 ++ (B_8)) ++ (B_0 ++ (B_4 ++ (B_2 ++ (B_3 ++ (B_5 ++ (B_6 ++ (B_7 ++ (B_80 ++ (B_sp ++ (B_ak ++ (B_rd ++ (B_k0 ++ (B_k1 ++ (B_k2 ++ (B_k3 ++ (B_M))))))))))))))))) := by
  refine perm_cnt (fun c hc => ?_)
  simp only [hc]
  all_goals omega
theorem pm_2721_10 (B_11 B_0 B_4 B_2 B_3 B_5 B_6 B_7 B_8 B_80 B_sp B_ak B_rd B_k0 B_k1 B_k2 B_k3 B_M : va_W) : ((B_11 ++ (B_8)) ++ (B_0 ++ (B_4 ++ (B_2 ++ (B_3 ++ (B_5 ++ (B_6 ++ (B_7 ++ (B_80 ++ (B_sp ++ (B_ak ++ (B_rd ++ (B_k0 ++ (B_k1 ++ (B_k2 ++ (B_k3 ++ (B_M))))))))))))))))).Perm ((B_M) ++ (B_11 ++ (B_0 ++ (B_4 ++ (B_2 ++ (B_3 ++ (B_5 ++ (B_6 ++ (B_7 ++ (B_8 ++ (B_80 ++ (B_sp ++ (B_ak ++ (B_rd ++ (B_k0 ++ (B_k1 ++ (B_k2 ++ (B_k3)))))))))))))))))) := by
  refine perm_cnt (fun c hc => ?_)
  simp only [hc]
  all_goals omega
theorem pm_2721_11 (B_11 B_0 B_4 B_2 B_3 B_5 B_6 B_7 B_8 B_80 B_sp B_ak B_rd B_k0 B_k1 B_k2 B_k3 B_M : va_W) : ((B_11 ++ (B_0 ++ (B_4 ++ (B_2 ++ (B_3 ++ (B_5 ++ (B_6 ++ (B_7 ++ (B_8 ++ (B_80 ++ (B_sp ++ (B_ak ++ (B_rd ++ (B_k0 ++ (B_k1 ++ (B_k2 ++ (B_k3 ++ (B_M))))))))))))))))))).Perm ((B_11 ++ (B_2 ++ (B_3 ++ (B_8)))) ++ (B_0 ++ (B_4 ++ (B_5 ++ (B_6 ++ (B_7 ++ (B_80 ++ (B_sp ++ (B_ak ++ (B_rd ++ (B_k0 ++ (B_k1 ++ (B_k2 ++ (B_k3 ++ (B_M))))))))))))))) := by
  refine perm_cnt (fun c hc => ?_)
  simp only [hc]
  all_goals omega
theorem pm_2721_12 (B_11 B_0 B_4 B_2 B_3 B_5 B_6 B_7 B_8 B_80 B_sp B_ak B_rd B_k0 B_k1 B_k2 B_k3 B_M : va_W) : ((B_11 ++ (B_2 ++ (B_3 ++ (B_8)))) ++ (B_0 ++ (B_4 ++ (B_5 ++ (B_6 ++ (B_7 ++ (B_80 ++ (B_sp ++ (B_ak ++ (B_rd ++ (B_k0 ++ (B_k1 ++ (B_k2 ++ (B_k3 ++ (B_M))))))))))))))).Perm ((B_M) ++ (B_11 ++ (B_0 ++ (B_4 ++ (B_2 ++ (B_3 ++ (B_5 ++ (B_6 ++ (B_7 ++ (B_8 ++ (B_80 ++ (B_sp ++ (B_ak ++ (B_rd ++ (B_k0 ++ (B_k1 ++ (B_k2 ++ (B_k3)))))))))))))))))) := by
  refine perm_cnt (fun c hc => ?_)
  simp only [hc]
  all_goals omega
theorem pm_2721_13 (B_11 B_0 B_4 B_2 B_3 B_5 B_6 B_7 B_8 B_80 B_sp B_ak B_rd B_k0 B_k1 B_k2 B_k3 B_M : va_W) : ((B_11 ++ (B_0 ++ (B_4 ++ (B_2 ++ (B_3 ++ (B_5 ++ (B_6 ++ (B_7 ++ (B_8 ++ (B_80 ++ (B_sp ++ (B_ak ++ (B_rd ++ (B_k0 ++ (B_k1 ++ (B_k2 ++ (B_k3 ++ (B_M))))))))))))))))))).Perm ((B_11 ++ (B_2 ++ (B_3))) ++ (B_0 ++ (B_4 ++ (B_5 ++ (B_6 ++ (B_7 ++ (B_8 ++ (B_80 ++ (B_sp ++ (B_ak ++ (B_rd ++ (B_k0 ++ (B_k1 ++ (B_k2 ++ (B_k3 ++ (B_M)))))))))))))))) := by
  refine perm_cnt (fun c hc => ?_)
  simp only [hc]
  all_goals omega
theorem pm_2721_14 (B_11 B_0 B_4 B_2 B_3 B_5 B_6 B_7 B_8 B_80 B_sp B_ak B_rd B_k0 B_k1 B_k2 B_k3 B_M : va_W) : ((B_11 ++ (B_2 ++ (B_3))) ++ (B_0 ++ (B_4 ++ (B_5 ++ (B_6 ++ (B_7 ++ (B_8 ++ (B_80 ++ (B_sp ++ (B_ak ++ (B_rd ++ (B_k0 ++ (B_k1 ++ (B_k2 ++ (B_k3 ++ (B_M)))))))))))))))).Perm ((B_M) ++ (B_11 ++ (B_0 ++ (B_4 ++ (B_2 ++ (B_3 ++ (B_5 ++ (B_6 ++ (B_7 ++ (B_8 ++ (B_80 ++ (B_sp ++ (B_ak ++ (B_rd ++ (B_k0 ++ (B_k1 ++ (B_k2 ++ (B_k3)))))))))))))))))) := by
  refine perm_cnt (fun c hc => ?_)
  simp only [hc]
  all_goals omega
theorem pm_2721_15 (B_11 B_0 B_4 B_2 B_3 B_5 B_6 B_7 B_8 B_80 B_sp B_ak B_rd B_k0 B_k1 B_k2 B_k3 B_M : va_W) : ((B_11 ++ (B_0 ++ (B_4 ++ (B_2 ++ (B_3 ++ (B_5 ++ (B_6 ++ (B_7 ++ (B_8 ++ (B_80 ++ (B_sp ++ (B_ak ++ (B_rd ++ (B_k0 ++ (B_k1 ++ (B_k2 ++ (B_k3 ++ (B_M))))))))))))))))))).Perm ((B_11 ++ (B_2 ++ (B_3 ++ (B_5 ++ (B_8 ++ (B_80)))))) ++ (B_0 ++ (B_4 ++ (B_6 ++ (B_7 ++ (B_sp ++ (B_ak ++ (B_rd ++ (B_k0 ++ (B_k1 ++ (B_k2 ++ (B_k3 ++ (B_M))))))))))))) := by
  refine perm_cnt (fun c hc => ?_)
  simp only [hc]
  all_goals omega
theorem pm_2721_16 (B_11 B_0 B_4 B_2 B_3 B_5 B_6 B_7 B_8 B_80 B_sp B_ak B_rd B_k0 B_k1 B_k2 B_k3 B_M : va_W) : ((B_11 ++ (B_2 ++ (B_3 ++ (B_5 ++ (B_8 ++ (B_80)))))) ++ (B_0 ++ (B_4 ++ (B_6 ++ (B_7 ++ (B_sp ++ (B_ak ++ (B_rd ++ (B_k0 ++ (B_k1 ++ (B_k2 ++ (B_k3 ++ (B_M))))))))))))).Perm ((B_M) ++ (B_11 ++ (B_0 ++ (B_4 ++ (B_2 ++ (B_3 ++ (B_5 ++ (B_6 ++ (B_7 ++ (B_8 ++ (B_80 ++ (B_sp ++ (B_ak ++ (B_rd ++ (B_k0 ++ (B_k1 ++ (B_k2 ++ (B_k3)))))))))))))))))) := by
  refine perm_cnt (fun c hc => ?_)
  simp only [hc]
  all_goals omega
theorem pm_2721_17 (B_11 B_0 B_4 B_2 B_3 B_5 B_6 B_7 B_8 B_80 B_sp B_ak B_rd B_k0 B_k1 B_k2 B_k3 B_M : va_W) : ((B_11 ++ (B_0 ++ (B_4 ++ (B_2 ++ (B_3 ++ (B_5 ++ (B_6 ++ (B_7 ++ (B_8 ++ (B_80 ++ (B_sp ++ (B_ak ++ (B_rd ++ (B_k0 ++ (B_k1 ++ (B_k2 ++ (B_k3 ++ (B_M))))))))))))))))))).Perm ((B_11 ++ (B_3)) ++ (B_0 ++ (B_4 ++ (B_2 ++ (B_5 ++ (B_6 ++ (B_7 ++ (B_8 ++ (B_80 ++ (B_sp ++ (B_ak ++ (B_rd ++ (B_k0 ++ (B_k1 ++ (B_k2 ++ (B_k3 ++ (B_M))))))))))))))))) := by
  refine perm_cnt (fun c hc => ?_)
  simp only [hc]
  all_goals omega
theorem pm_2721_18 (B_11 B_0 B_4 B_2 B_3 B_5 B_6 B_7 B_8 B_80 B_sp B_ak B_rd B_k0 B_k1 B_k2 B_k3 B_M : va_W) : ((B_11 ++ (B_3)) ++ (B_0 ++ (B_4 ++ (B_2 ++ (B_5 ++ (B_6 ++ (B_7 ++ (B_8 ++ (B_80 ++ (B_sp ++ (B_ak ++ (B_rd ++ (B_k0 ++ (B_k1 ++ (B_k2 ++ (B_k3 ++ (B_M))))))))))))))))).Perm ((B_M) ++ (B_11 ++ (B_0 ++ (B_4 ++ (B_2 ++ (B_3 ++ (B_5 ++ (B_6 ++ (B_7 ++ (B_8 ++ (B_80 ++ (B_sp ++ (B_ak ++ (B_rd ++ (B_k0 ++ (B_k1 ++ (B_k2 ++ (B_k3)))))))))))))))))) := by
  refine perm_cnt (fun c hc => ?_)
  simp only [hc]
  all_goals omega
theorem pm_2721_19 (B_11 B_0 B_4 B_2 B_3 B_5 B_6 B_7 B_8 B_80 B_sp B_ak B_rd B_k0 B_k1 B_k2 B_k3 B_M : va_W) : ((B_11 ++ (B_0 ++ (B_4 ++ (B_2 ++ (B_3 ++ (B_5 ++ (B_6 ++ (B_7 ++ (B_8 ++ (B_80 ++ (B_sp ++ (B_ak ++ (B_rd ++ (B_k0 ++ (B_k1 ++ (B_k2 ++ (B_k3 ++ (B_M))))))))))))))))))).Perm ((B_11 ++ (B_2 ++ (B_6))) ++ (B_0 ++ (B_4 ++ (B_3 ++ (B_5 ++ (B_7 ++ (B_8 ++ (B_80 ++ (B_sp ++ (B_ak ++ (B_rd ++ (B_k0 ++ (B_k1 ++ (B_k2 ++ (B_k3 ++ (B_M)))))))))))))))) := by
  refine perm_cnt (fun c hc => ?_)
  simp only [hc]
  all_goals omega
theorem pm_2721_20 (B_11 B_0 B_4 B_2 B_3 B_5 B_6 B_7 B_8 B_80 B_sp B_ak B_rd B_k0 B_k1 B_k2 B_k3 B_M : va_W) : ((B_11 ++ (B_2 ++ (B_6))) ++ (B_0 ++ (B_4 ++ (B_3 ++ (B_5 ++ (B_7 ++ (B_8 ++ (B_80 ++ (B_sp ++ (B_ak ++ (B_rd ++ (B_k0 ++ (B_k1 ++ (B_k2 ++ (B_k3 ++ (B_M)))))))))))))))).Perm ((B_M) ++ (B_11 ++ (B_0 ++ (B_4 ++ (B_2 ++ (B_3 ++ (B_5 ++ (B_6 ++ (B_7 ++ (B_8 ++ (B_80 ++ (B_sp ++ (B_ak ++ (B_rd ++ (B_k0 ++ (B_k1 ++ (B_k2 ++ (B_k3)))))))))))))))))) := by
  refine perm_cnt (fun c hc => ?_)
  simp only [hc]
  all_goals omega
theorem pm_2721_21 (B_11 B_0 B_4 B_2 B_3 B_5 B_6 B_7 B_8 B_80 B_sp B_ak B_rd B_k0 B_k1 B_k2 B_k3 B_M : va_W) : ((B_11 ++ (B_0 ++ (B_4 ++ (B_2 ++ (B_3 ++ (B_5 ++ (B_6 ++ (B_7 ++ (B_8 ++ (B_80 ++ (B_sp ++ (B_ak ++ (B_rd ++ (B_k0 ++ (B_k1 ++ (B_k2 ++ (B_k3 ++ (B_M))))))))))))))))))).Perm ((B_11 ++ (B_6)) ++ (B_0 ++ (B_4 ++ (B_2 ++ (B_3 ++ (B_5 ++ (B_7 ++ (B_8 ++ (B_80 ++ (B_sp ++ (B_ak ++ (B_rd ++ (B_k0 ++ (B_k1 ++ (B_k2 ++ (B_k3 ++ (B_M))))))))))))))))) := by
  refine perm_cnt (fun c hc => ?_)
  simp only [hc]
  all_goals omega
theorem pm_2721_22 (B_11 B_0 B_4 B_2 B_3 B_5 B_6 B_7 B_8 B_80 B_sp B_ak B_rd B_k0 B_k1 B_k2 B_k3 B_M : va_W) : ((B_11 ++ (B_6)) ++ (B_0 ++ (B_4 ++ (B_2 ++ (B_3 ++ (B_5 ++ (B_7 ++ (B_8 ++ (B_80 ++ (B_sp ++ (B_ak ++ (B_rd ++ (B_k0 ++ (B_k1 ++ (B_k2 ++ (B_k3 ++ (B_M))))))))))))))))).Perm ((B_M) ++ (B_11 ++ (B_0 ++ (B_4 ++ (B_2 ++ (B_3 ++ (B_5 ++ (B_6 ++ (B_7 ++ (B_8 ++ (B_80 ++ (B_sp ++ (B_ak ++ (B_rd ++ (B_k0 ++ (B_k1 ++ (B_k2 ++ (B_k3)))))))))))))))))) := by
  refine perm_cnt (fun c hc => ?_)
  simp only [hc]
  all_goals omega
theorem pm_2721_23 (B_11 B_0 B_4 B_2 B_3 B_5 B_6 B_7 B_8 B_80 B_sp B_ak B_rd B_k0 B_k1 B_k2 B_k3 B_M : va_W) : ((B_11 ++ (B_0 ++ (B_4 ++ (B_2 ++ (B_3 ++ (B_5 ++ (B_6 ++ (B_7 ++ (B_8 ++ (B_80 ++ (B_sp ++ (B_ak ++ (B_rd ++ (B_k0 ++ (B_k1 ++ (B_k2 ++ (B_k3 ++ (B_M))))))))))))))))))).Perm ((B_11 ++ (B_2)) ++ (B_0 ++ (B_4 ++ (B_3 ++ (B_5 ++ (B_6 ++ (B_7 ++ (B_8 ++ (B_80 ++ (B_sp ++ (B_ak ++ (B_rd ++ (B_k0 ++ (B_k1 ++ (B_k2 ++ (B_k3 ++ (B_M))))))))))))))))) := by
  refine perm_cnt (fun c hc => ?_)
  simp only [hc]
  all_goals omega
theorem pm_2721_24 (B_11 B_0 B_4 B_2 B_3 B_5 B_6 B_7 B_8 B_80 B_sp B_ak B_rd B_k0 B_k1 B_k2 B_k3 B_M : va_W) : ((B_11 ++ (B_2)) ++ (B_0 ++ (B_4 ++ (B_3 ++ (B_5 ++ (B_6 ++ (B_7 ++ (B_8 ++ (B_80 ++ (B_sp ++ (B_ak ++ (B_rd ++ (B_k0 ++ (B_k1 ++ (B_k2 ++ (B_k3 ++ (B_M))))))))))))))))).Perm ((B_M) ++ (B_11 ++ (B_0 ++ (B_4 ++ (B_2 ++ (B_3 ++ (B_5 ++ (B_6 ++ (B_7 ++ (B_8 ++ (B_80 ++ (B_sp ++ (B_ak ++ (B_rd ++ (B_k0 ++ (B_k1 ++ (B_k2 ++ (B_k3)))))))))))))))))) := by
  refine perm_cnt (fun c hc => ?_)
  simp only [hc]
  all_goals omega
theorem pm_2721_25 (B_11 B_0 B_4 B_2 B_3 B_5 B_6 B_7 B_8 B_80 B_sp B_ak B_rd B_k0 B_k1 B_k2 B_k3 B_M : va_W) : ((B_11 ++ (B_0 ++ (B_4 ++ (B_2 ++ (B_3 ++ (B_5 ++ (B_6 ++ (B_7 ++ (B_8 ++ (B_80 ++ (B_sp ++ (B_ak ++ (B_rd ++ (B_k0 ++ (B_k1 ++ (B_k2 ++ (B_k3 ++ (B_M))))))))))))))))))).Perm ((B_11 ++ (B_2 ++ (B_7))) ++ (B_0 ++ (B_4 ++ (B_3 ++ (B_5 ++ (B_6 ++ (B_8 ++ (B_80 ++ (B_sp ++ (B_ak ++ (B_rd ++ (B_k0 ++ (B_k1 ++ (B_k2 ++ (B_k3 ++ (B_M)))))))))))))))) := by
  refine perm_cnt (fun c hc => ?_)
  simp only [hc]
  all_goals omega
theorem pm_2721_26 (B_11 B_0 B_4 B_2 B_3 B_5 B_6 B_7 B_8 B_80 B_sp B_ak B_rd B_k0 B_k1 B_k2 B_k3 B_M : va_W) : ((B_11 ++ (B_2 ++ (B_7))) ++ (B_0 ++ (B_4 ++ (B_3 ++ (B_5 ++ (B_6 ++ (B_8 ++ (B_80 ++ (B_sp ++ (B_ak ++ (B_rd ++ (B_k0 ++ (B_k1 ++ (B_k2 ++ (B_k3 ++ (B_M)))))))))))))))).Perm ((B_M) ++ (B_11 ++ (B_0 ++ (B_4 ++ (B_2 ++ (B_3 ++ (B_5 ++ (B_6 ++ (B_7 ++ (B_8 ++ (B_80 ++ (B_sp ++ (B_ak ++ (B_rd ++ (B_k0 ++ (B_k1 ++ (B_k2 ++ (B_k3)))))))))))))))))) := by
  refine perm_cnt (fun c hc => ?_)
  simp only [hc]
  all_goals omega
theorem pm_2721_27 (B_11 B_0 B_4 B_2 B_3 B_5 B_6 B_7 B_8 B_80 B_sp B_ak B_rd B_k0 B_k1 B_k2 B_k3 B_M : va_W) : ((B_11 ++ (B_0 ++ (B_4 ++ (B_2 ++ (B_3 ++ (B_5 ++ (B_6 ++ (B_7 ++ (B_8 ++ (B_80 ++ (B_sp ++ (B_ak ++ (B_rd ++ (B_k0 ++ (B_k1 ++ (B_k2 ++ (B_k3 ++ (B_M))))))))))))))))))).Perm ((B_11 ++ (B_7)) ++ (B_0 ++ (B_4 ++ (B_2 ++ (B_3 ++ (B_5 ++ (B_6 ++ (B_8 ++ (B_80 ++ (B_sp ++ (B_ak ++ (B_rd ++ (B_k0 ++ (B_k1 ++ (B_k2 ++ (B_k3 ++ (B_M))))))))))))))))) := by
  refine perm_cnt (fun c hc => ?_)
  simp only [hc]
  all_goals omega
theorem pm_2721_28 (B_11 B_0 B_4 B_2 B_3 B_5 B_6 B_7 B_8 B_80 B_sp B_ak B_rd B_k0 B_k1 B_k2 B_k3 B_M : va_W) : ((B_11 ++ (B_7)) ++ (B_0 ++ (B_4 ++ (B_2 ++ (B_3 ++ (B_5 ++ (B_6 ++ (B_8 ++ (B_80 ++ (B_sp ++ (B_ak ++ (B_rd ++ (B_k0 ++ (B_k1 ++ (B_k2 ++ (B_k3 ++ (B_M))))))))))))))))).Perm ((B_M) ++ (B_11 ++ (B_0 ++ (B_4 ++ (B_2 ++ (B_3 ++ (B_5 ++ (B_6 ++ (B_7 ++ (B_8 ++ (B_80 ++ (B_sp ++ (B_ak ++ (B_rd ++ (B_k0 ++ (B_k1 ++ (B_k2 ++ (B_k3)))))))))))))))))) := by
  refine perm_cnt (fun c hc => ?_)
  simp only [hc]
  all_goals omega
theorem cs_0 (hh : T_c_X11_feed) (hm : T_c_X12_feed) {p : Program} {l : Launch} {e : Env} {s : State} {m : MethodId} {below : List Frame} {meth : Method} {c : Code} {D : Dx} {b L : Nat} {xs : Nat → Int32} {Z : State → Prop} (hL : L ≤ 3072) (C : Cx p s m #[Value.ref b] meth c cL_law ret 4 RL lw_all) (hts : ∀ w ∈ lw_tbl, w.before #[Value.ref b] s = true) (hX : va_X b L xs s s.heap) (hbl : b < s.heap.size) {hT hM N i : Nat} (hN : N < 512) (hi : i + 5 < L) {H : Heap} {locs : List Loc} (hI : LI D (fun q : Nat => s.heap.size ≤ q) s hT hM N H locs) {ls : Array Slot} {iv : Int32} (hiv : iv = nI i) (hl : lv_has ls 4 [(0, .ref b), (1, .ref hT), (2, .ref hM), (3, .int iv)]) (cont : ∀ (H1 : Heap) (locs1 : List Loc), LI D (fun q : Nat => s.heap.size ≤ q) s hT hM (N + 1) H1 locs1 → W p l e room_1 s m #[Value.ref b] below meth c H1 locs1 (200 + 36 * (N + 1)) (120000 + 10367 * (N + 1)) Z (F0 m 1150 ls [])) : W p l e room_1 s m #[Value.ref b] below meth c H locs (200 + 36 * N) (120000 + 10367 * N) Z (F0 m 148 ls []) := by
  obtain ⟨hx, hb, hr, hml, hown, -, hlk⟩ := id C
  have hbA : ¬ (fun q : Nat => s.heap.size ≤ q) b := Nat.not_le.mpr hbl
  have hin0 : vp_in iv L := by rw [hiv]; exact vp_in_nI (by omega) (by omega)
  have hin : ∀ k : Nat, k ≤ 5 → vp_in (iv + nI k) L := fun k hk => vp_in_add hiv (by omega) hL
  obtain ⟨aT, yT, aT_0, yT_0, aT_2, yT_2, aT_3, yT_3, aT_4, yT_4, aT_5, yT_5, aT_6, yT_6, aT_7, yT_7, hT_8, aT_8, yT_8, aT_8_0, yT_8_0, gT, gT_0, gT_2, gT_3, gT_4, gT_5, gT_6, gT_7, gT_8, gT_8_0, sp, ak, rd, k0, k1, k2, k3, kk, aM, yM, gM, tys, X, hty, hw, h9, h10, h11, hk0, hk1, hk2, hk3⟩ := hI
  have hn : 2000000 ≤ 2000000 := Nat.le_refl _
  obtain ⟨r, gM', gT', gT_0', f2, f1, hw', fr⟩ := st_feed hn hw (xs (iv + (1 : Int32)).toNatClampNeg) (xs (iv + (2 : Int32)).toNatClampNeg) (xs (iv + (3 : Int32)).toNatClampNeg) (xs (iv + (4 : Int32)).toNatClampNeg) (xs (iv + (5 : Int32)).toNatClampNeg)
  refine lv_aload_n hx hb dL_law_148 rfl (lv_at hl 1 rfl) ?_
  refine lv_aload_n hx hb dL_law_149 rfl (lv_at hl 0 rfl) ?_
  refine lv_iload_n hx hb dL_law_150 rfl (lv_at hl 3 rfl) ?_
  refine lv_iconst (v := (1 : Int32)) hx hb dL_law_151 (by decide) ?_
  refine lv_iadd hx hb dL_law_152 ?_
  refine va_sld hx hb hX hbl hbA X.2.2.2.1 (hin 1 (by decide)) dL_law_153 ?_
  refine lv_aload_n hx hb dL_law_154 rfl (lv_at hl 0 rfl) ?_
  refine lv_iload_n hx hb dL_law_155 rfl (lv_at hl 3 rfl) ?_
  refine lv_iconst (v := (2 : Int32)) hx hb dL_law_156 (by decide) ?_
  refine lv_iadd hx hb dL_law_157 ?_
  refine va_sld hx hb hX hbl hbA X.2.2.2.1 (hin 2 (by decide)) dL_law_158 ?_
  refine lv_aload_n hx hb dL_law_159 rfl (lv_at hl 0 rfl) ?_
  refine lv_iload_n hx hb dL_law_160 rfl (lv_at hl 3 rfl) ?_
  refine lv_iconst (v := (3 : Int32)) hx hb dL_law_161 (by decide) ?_
  refine lv_iadd hx hb dL_law_162 ?_
  refine va_sld hx hb hX hbl hbA X.2.2.2.1 (hin 3 (by decide)) dL_law_163 ?_
  refine lv_aload_n hx hb dL_law_164 rfl (lv_at hl 0 rfl) ?_
  refine lv_iload_n hx hb dL_law_165 rfl (lv_at hl 3 rfl) ?_
  refine lv_iconst (v := (4 : Int32)) hx hb dL_law_166 (by decide) ?_
  refine lv_iadd hx hb dL_law_167 ?_
  refine va_sld hx hb hX hbl hbA X.2.2.2.1 (hin 4 (by decide)) dL_law_168 ?_
  refine lv_aload_n hx hb dL_law_169 rfl (lv_at hl 0 rfl) ?_
  refine lv_iload_n hx hb dL_law_170 rfl (lv_at hl 3 rfl) ?_
  refine lv_iconst (v := (5 : Int32)) hx hb dL_law_171 (by decide) ?_
  refine lv_iadd hx hb dL_law_172 ?_
  refine va_sld hx hb hX hbl hbA X.2.2.2.1 (hin 5 (by decide)) dL_law_173 ?_
  have X : Hx D tys (fun q : Nat => s.heap.size ≤ q) s H locs ((wX11 hT aT yT gT ++ (wTP (aT 0) aT_0 yT_0 gT_0)) ++ (wKP (aT 4) aT_4 yT_4 gT_4 ++ (wX6 (aT 2) aT_2 yT_2 gT_2 ++ (wX9 (aT 3) aT_3 yT_3 gT_3 ++ (wX1 (aT 5) (va_up (va_up aT_5 0 (aT 2)) 1 (aT 3)) yT_5 gT_5 ++ (wX3 (aT 6) (va_up aT_6 0 (aT 2)) yT_6 gT_6 ++ (wX10 (aT 7) aT_7 yT_7 gT_7 ++ (wX4 hT_8 aT_8 yT_8 gT_8 ++ (wX0 (aT_8 0) aT_8_0 yT_8_0 gT_8_0 ++ (oW wPl sp ++ (oW wCo ak ++ (oW (wRd (aT 0) (aT 2)) rd ++ (oW wSt k0 ++ (oW wSt k1 ++ (oW wSt k2 ++ (oW wSt k3 ++ (wX12 hM aM yM gM))))))))))))))))) := Hx_perm X (pm_2721_0 _ _ _ _ _ _ _ _ _ _ _ _ _ _ _ _ _ _) (fun _ h => h)
  refine hc_i (As := [.int (xs (iv + (1 : Int32)).toNatClampNeg), .int (xs (iv + (2 : Int32)).toNatClampNeg), .int (xs (iv + (3 : Int32)).toNatClampNeg), .int (xs (iv + (4 : Int32)).toNatClampNeg), .int (xs (iv + (5 : Int32)).toNatClampNeg)]) (rest := []) C X (hh l D hT aT yT aT_0 yT_0 2000000 gT gT_0 (xs (iv + (1 : Int32)).toNatClampNeg) (xs (iv + (2 : Int32)).toNatClampNeg) (xs (iv + (3 : Int32)).toNatClampNeg) (xs (iv + (4 : Int32)).toNatClampNeg) (xs (iv + (5 : Int32)).toNatClampNeg) (r, gT', gT_0') f1 _) (cwV 5 C.2.2.2.2.2.1 (good_V q2_190 q2_191 q2_192 q1_1 q2_193) rfl rfl rfl (by decide +kernel) ⟨Nat.le_of_ble_eq_true rfl, Nat.le_of_ble_eq_true rfl⟩) (va_recv X.1 X.2.1 (ci := 11) (q0 := 0) rfl rfl) (fun q hq => hty q (by
    simp only [List.mem_append] at hq ⊢
    (repeat' (refine Or.elim hq ?_ ?_ <;> intro hq)) <;> simp [hq])) hl.1 rfl rfl (Nat.le_of_ble_eq_true rfl) dL_law_174 ⟨by show _ ≤ 218358; omega, by show _ ≤ 8447176; omega⟩ (fun H locs X => ?_)
  refine lv_aload_n hx hb dL_law_177 rfl (lv_at hl 2 rfl) ?_
  refine lv_aload_n hx hb dL_law_178 rfl (lv_at hl 0 rfl) ?_
  refine lv_iload_n hx hb dL_law_179 rfl (lv_at hl 3 rfl) ?_
  refine lv_iconst (v := (1 : Int32)) hx hb dL_law_180 (by decide) ?_
  refine lv_iadd hx hb dL_law_181 ?_
  refine va_sld hx hb hX hbl hbA X.2.2.2.1 (hin 1 (by decide)) dL_law_182 ?_
  refine lv_aload_n hx hb dL_law_183 rfl (lv_at hl 0 rfl) ?_
  refine lv_iload_n hx hb dL_law_184 rfl (lv_at hl 3 rfl) ?_
  refine lv_iconst (v := (2 : Int32)) hx hb dL_law_185 (by decide) ?_
  refine lv_iadd hx hb dL_law_186 ?_
  refine va_sld hx hb hX hbl hbA X.2.2.2.1 (hin 2 (by decide)) dL_law_187 ?_
  refine lv_aload_n hx hb dL_law_188 rfl (lv_at hl 0 rfl) ?_
  refine lv_iload_n hx hb dL_law_189 rfl (lv_at hl 3 rfl) ?_
  refine lv_iconst (v := (3 : Int32)) hx hb dL_law_190 (by decide) ?_
  refine lv_iadd hx hb dL_law_191 ?_
  refine va_sld hx hb hX hbl hbA X.2.2.2.1 (hin 3 (by decide)) dL_law_192 ?_
  refine lv_aload_n hx hb dL_law_193 rfl (lv_at hl 0 rfl) ?_
  refine lv_iload_n hx hb dL_law_194 rfl (lv_at hl 3 rfl) ?_
  refine lv_iconst (v := (4 : Int32)) hx hb dL_law_195 (by decide) ?_
  refine lv_iadd hx hb dL_law_196 ?_
  refine va_sld hx hb hX hbl hbA X.2.2.2.1 (hin 4 (by decide)) dL_law_197 ?_
  refine lv_aload_n hx hb dL_law_198 rfl (lv_at hl 0 rfl) ?_
  refine lv_iload_n hx hb dL_law_199 rfl (lv_at hl 3 rfl) ?_
  refine lv_iconst (v := (5 : Int32)) hx hb dL_law_200 (by decide) ?_
  refine lv_iadd hx hb dL_law_201 ?_
  refine va_sld hx hb hX hbl hbA X.2.2.2.1 (hin 5 (by decide)) dL_law_202 ?_
  have X : Hx D tys (fun q : Nat => s.heap.size ≤ q) s H locs ((wX12 hM aM yM gM) ++ (wX11 hT aT yT gT' ++ (wTP (aT 0) aT_0 yT_0 gT_0' ++ (wKP (aT 4) aT_4 yT_4 gT_4 ++ (wX6 (aT 2) aT_2 yT_2 gT_2 ++ (wX9 (aT 3) aT_3 yT_3 gT_3 ++ (wX1 (aT 5) (va_up (va_up aT_5 0 (aT 2)) 1 (aT 3)) yT_5 gT_5 ++ (wX3 (aT 6) (va_up aT_6 0 (aT 2)) yT_6 gT_6 ++ (wX10 (aT 7) aT_7 yT_7 gT_7 ++ (wX4 hT_8 aT_8 yT_8 gT_8 ++ (wX0 (aT_8 0) aT_8_0 yT_8_0 gT_8_0 ++ (oW wPl sp ++ (oW wCo ak ++ (oW (wRd (aT 0) (aT 2)) rd ++ (oW wSt k0 ++ (oW wSt k1 ++ (oW wSt k2 ++ (oW wSt k3)))))))))))))))))) := Hx_perm X (pm_2721_1 _ _ _ _ _ _ _ _ _ _ _ _ _ _ _ _ _ _) (fun _ h => h)
  refine hc_i (As := [.int (xs (iv + (1 : Int32)).toNatClampNeg), .int (xs (iv + (2 : Int32)).toNatClampNeg), .int (xs (iv + (3 : Int32)).toNatClampNeg), .int (xs (iv + (4 : Int32)).toNatClampNeg), .int (xs (iv + (5 : Int32)).toNatClampNeg)]) (rest := [.int r]) C X (hm l D hM aM yM 2000000 gM (xs (iv + (1 : Int32)).toNatClampNeg) (xs (iv + (2 : Int32)).toNatClampNeg) (xs (iv + (3 : Int32)).toNatClampNeg) (xs (iv + (4 : Int32)).toNatClampNeg) (xs (iv + (5 : Int32)).toNatClampNeg) (r, gM') f2 _) (cwV 5 C.2.2.2.2.2.1 (good_V q8_57 q8_58 q8_59 q1_9 q8_60) rfl rfl rfl (by decide +kernel) ⟨Nat.le_of_ble_eq_true rfl, Nat.le_of_ble_eq_true rfl⟩) (va_recv X.1 X.2.1 (ci := 12) (q0 := 0) rfl rfl) (fun q hq => hty q (by
    simp only [List.mem_append] at hq ⊢
    (repeat' (refine Or.elim hq ?_ ?_ <;> intro hq)) <;> simp [hq])) hl.1 rfl rfl (Nat.le_of_ble_eq_true rfl) dL_law_203 ⟨by show _ ≤ 218358; omega, by show _ ≤ 8447176; omega⟩ (fun H locs X => ?_)
  refine lv_icmp_eq (tgt := 1150) hx hb dL_law_206 (by decide) (fun _ => ?_) (fun c => absurd rfl c)
  refine W.widen (k := (200 + 36 * (N + 1))) (n := (120000 + 10367 * (N + 1))) (by omega) (by omega) ?_
  have X : Hx D tys (fun q : Nat => s.heap.size ≤ q) s H locs (wX11 hT aT yT gT' ++ (wTP (aT 0) aT_0 yT_0 gT_0' ++ (wKP (aT 4) aT_4 yT_4 gT_4 ++ (wX6 (aT 2) aT_2 yT_2 gT_2 ++ (wX9 (aT 3) aT_3 yT_3 gT_3 ++ (wX1 (aT 5) (va_up (va_up aT_5 0 (aT 2)) 1 (aT 3)) yT_5 gT_5 ++ (wX3 (aT 6) (va_up aT_6 0 (aT 2)) yT_6 gT_6 ++ (wX10 (aT 7) aT_7 yT_7 gT_7 ++ (wX4 hT_8 aT_8 yT_8 gT_8 ++ (wX0 (aT_8 0) aT_8_0 yT_8_0 gT_8_0 ++ (oW wPl sp ++ (oW wCo ak ++ (oW (wRd (aT 0) (aT 2)) rd ++ (oW wSt k0 ++ (oW wSt k1 ++ (oW wSt k2 ++ (oW wSt k3 ++ (wX12 hM aM yM gM')))))))))))))))))) := Hx_perm X (pm_2721_2 _ _ _ _ _ _ _ _ _ _ _ _ _ _ _ _ _ _) (fun _ h => h)
  exact cont H locs ⟨aT, yT, aT_0, yT_0, aT_2, yT_2, aT_3, yT_3, aT_4, yT_4, aT_5, yT_5, aT_6, yT_6, aT_7, yT_7, hT_8, aT_8, yT_8, aT_8_0, yT_8_0, gT', gT_0', gT_2, gT_3, gT_4, gT_5, gT_6, gT_7, gT_8, gT_8_0, sp, ak, rd, k0, k1, k2, k3, kk, aM, yM, gM', tys, X, hty, hw', (((fr 9 (by decide)).2.2.2.2.2.2).trans h9), (((fr 10 (by decide)).2.2.2.2.2.2).trans h10), (((fr 11 (by decide)).2.2.2.2.2.2).trans h11), hk0, hk1, hk2, hk3⟩
theorem cs_1 (hh : T_c_X11_end) (hm : T_c_X12_end) {p : Program} {l : Launch} {e : Env} {s : State} {m : MethodId} {below : List Frame} {meth : Method} {c : Code} {D : Dx} {b L : Nat} {xs : Nat → Int32} {Z : State → Prop} (hL : L ≤ 3072) (C : Cx p s m #[Value.ref b] meth c cL_law ret 4 RL lw_all) (hts : ∀ w ∈ lw_tbl, w.before #[Value.ref b] s = true) (hX : va_X b L xs s s.heap) (hbl : b < s.heap.size) {hT hM N i : Nat} (hN : N < 512) (hi : i + 5 < L) {H : Heap} {locs : List Loc} (hI : LI D (fun q : Nat => s.heap.size ≤ q) s hT hM N H locs) {ls : Array Slot} {iv : Int32} (hiv : iv = nI i) (hl : lv_has ls 4 [(0, .ref b), (1, .ref hT), (2, .ref hM), (3, .int iv)]) (cont : ∀ (H1 : Heap) (locs1 : List Loc), LI D (fun q : Nat => s.heap.size ≤ q) s hT hM (N + 1) H1 locs1 → W p l e room_1 s m #[Value.ref b] below meth c H1 locs1 (200 + 36 * (N + 1)) (120000 + 10367 * (N + 1)) Z (F0 m 1150 ls [])) : W p l e room_1 s m #[Value.ref b] below meth c H locs (200 + 36 * N) (120000 + 10367 * N) Z (F0 m 211 ls []) := by
  obtain ⟨hx, hb, hr, hml, hown, -, hlk⟩ := id C
  have hbA : ¬ (fun q : Nat => s.heap.size ≤ q) b := Nat.not_le.mpr hbl
  have hin0 : vp_in iv L := by rw [hiv]; exact vp_in_nI (by omega) (by omega)
  have hin : ∀ k : Nat, k ≤ 5 → vp_in (iv + nI k) L := fun k hk => vp_in_add hiv (by omega) hL
  obtain ⟨aT, yT, aT_0, yT_0, aT_2, yT_2, aT_3, yT_3, aT_4, yT_4, aT_5, yT_5, aT_6, yT_6, aT_7, yT_7, hT_8, aT_8, yT_8, aT_8_0, yT_8_0, gT, gT_0, gT_2, gT_3, gT_4, gT_5, gT_6, gT_7, gT_8, gT_8_0, sp, ak, rd, k0, k1, k2, k3, kk, aM, yM, gM, tys, X, hty, hw, h9, h10, h11, hk0, hk1, hk2, hk3⟩ := hI
  have hn : 2000000 ≤ 2000000 := Nat.le_refl _
  obtain ⟨r, gM', gT', f2, f1, hw', fr⟩ := st_end hw (xs (iv + (1 : Int32)).toNatClampNeg)
  refine lv_aload_n hx hb dL_law_211 rfl (lv_at hl 1 rfl) ?_
  refine lv_aload_n hx hb dL_law_212 rfl (lv_at hl 0 rfl) ?_
  refine lv_iload_n hx hb dL_law_213 rfl (lv_at hl 3 rfl) ?_
  refine lv_iconst (v := (1 : Int32)) hx hb dL_law_214 (by decide) ?_
  refine lv_iadd hx hb dL_law_215 ?_
  refine va_sld hx hb hX hbl hbA X.2.2.2.1 (hin 1 (by decide)) dL_law_216 ?_
  have X : Hx D tys (fun q : Nat => s.heap.size ≤ q) s H locs ((wX11 hT aT yT gT ++ (wTP (aT 0) aT_0 yT_0 gT_0)) ++ (wKP (aT 4) aT_4 yT_4 gT_4 ++ (wX6 (aT 2) aT_2 yT_2 gT_2 ++ (wX9 (aT 3) aT_3 yT_3 gT_3 ++ (wX1 (aT 5) (va_up (va_up aT_5 0 (aT 2)) 1 (aT 3)) yT_5 gT_5 ++ (wX3 (aT 6) (va_up aT_6 0 (aT 2)) yT_6 gT_6 ++ (wX10 (aT 7) aT_7 yT_7 gT_7 ++ (wX4 hT_8 aT_8 yT_8 gT_8 ++ (wX0 (aT_8 0) aT_8_0 yT_8_0 gT_8_0 ++ (oW wPl sp ++ (oW wCo ak ++ (oW (wRd (aT 0) (aT 2)) rd ++ (oW wSt k0 ++ (oW wSt k1 ++ (oW wSt k2 ++ (oW wSt k3 ++ (wX12 hM aM yM gM))))))))))))))))) := Hx_perm X (pm_2721_0 _ _ _ _ _ _ _ _ _ _ _ _ _ _ _ _ _ _) (fun _ h => h)
  refine hc_i (As := [.int (xs (iv + (1 : Int32)).toNatClampNeg)]) (rest := []) C X (hh l D hT aT yT aT_0 yT_0 gT gT_0 (xs (iv + (1 : Int32)).toNatClampNeg) (r, gT') f1 _) (cwV 1 C.2.2.2.2.2.1 (good_V q2_198 q2_199 q2_200 q1_1 q2_201) rfl rfl rfl (by decide +kernel) ⟨Nat.le_of_ble_eq_true rfl, Nat.le_of_ble_eq_true rfl⟩) (va_recv X.1 X.2.1 (ci := 11) (q0 := 0) rfl rfl) (fun q hq => hty q (by
    simp only [List.mem_append] at hq ⊢
    (repeat' (refine Or.elim hq ?_ ?_ <;> intro hq)) <;> simp [hq])) hl.1 rfl rfl (Nat.le_of_ble_eq_true rfl) dL_law_217 ⟨by show _ ≤ 218358; omega, by show _ ≤ 8447176; omega⟩ (fun H locs X => ?_)
  refine lv_aload_n hx hb dL_law_220 rfl (lv_at hl 2 rfl) ?_
  refine lv_aload_n hx hb dL_law_221 rfl (lv_at hl 0 rfl) ?_
  refine lv_iload_n hx hb dL_law_222 rfl (lv_at hl 3 rfl) ?_
  refine lv_iconst (v := (1 : Int32)) hx hb dL_law_223 (by decide) ?_
  refine lv_iadd hx hb dL_law_224 ?_
  refine va_sld hx hb hX hbl hbA X.2.2.2.1 (hin 1 (by decide)) dL_law_225 ?_
  have X : Hx D tys (fun q : Nat => s.heap.size ≤ q) s H locs ((wX12 hM aM yM gM) ++ (wX11 hT aT yT gT' ++ (wTP (aT 0) aT_0 yT_0 gT_0 ++ (wKP (aT 4) aT_4 yT_4 gT_4 ++ (wX6 (aT 2) aT_2 yT_2 gT_2 ++ (wX9 (aT 3) aT_3 yT_3 gT_3 ++ (wX1 (aT 5) (va_up (va_up aT_5 0 (aT 2)) 1 (aT 3)) yT_5 gT_5 ++ (wX3 (aT 6) (va_up aT_6 0 (aT 2)) yT_6 gT_6 ++ (wX10 (aT 7) aT_7 yT_7 gT_7 ++ (wX4 hT_8 aT_8 yT_8 gT_8 ++ (wX0 (aT_8 0) aT_8_0 yT_8_0 gT_8_0 ++ (oW wPl sp ++ (oW wCo ak ++ (oW (wRd (aT 0) (aT 2)) rd ++ (oW wSt k0 ++ (oW wSt k1 ++ (oW wSt k2 ++ (oW wSt k3)))))))))))))))))) := Hx_perm X (pm_2721_1 _ _ _ _ _ _ _ _ _ _ _ _ _ _ _ _ _ _) (fun _ h => h)
  refine hc_i (As := [.int (xs (iv + (1 : Int32)).toNatClampNeg)]) (rest := [.int r]) C X (hm l D hM aM yM gM (xs (iv + (1 : Int32)).toNatClampNeg) (r, gM') f2 _) (cwV 1 C.2.2.2.2.2.1 (good_V q8_61 q8_62 q8_63 q1_9 q8_64) rfl rfl rfl (by decide +kernel) ⟨Nat.le_of_ble_eq_true rfl, Nat.le_of_ble_eq_true rfl⟩) (va_recv X.1 X.2.1 (ci := 12) (q0 := 0) rfl rfl) (fun q hq => hty q (by
    simp only [List.mem_append] at hq ⊢
    (repeat' (refine Or.elim hq ?_ ?_ <;> intro hq)) <;> simp [hq])) hl.1 rfl rfl (Nat.le_of_ble_eq_true rfl) dL_law_226 ⟨by show _ ≤ 218358; omega, by show _ ≤ 8447176; omega⟩ (fun H locs X => ?_)
  refine lv_icmp_eq (tgt := 1150) hx hb dL_law_229 (by decide) (fun _ => ?_) (fun c => absurd rfl c)
  refine W.widen (k := (200 + 36 * (N + 1))) (n := (120000 + 10367 * (N + 1))) (by omega) (by omega) ?_
  have X : Hx D tys (fun q : Nat => s.heap.size ≤ q) s H locs (wX11 hT aT yT gT' ++ (wTP (aT 0) aT_0 yT_0 gT_0 ++ (wKP (aT 4) aT_4 yT_4 gT_4 ++ (wX6 (aT 2) aT_2 yT_2 gT_2 ++ (wX9 (aT 3) aT_3 yT_3 gT_3 ++ (wX1 (aT 5) (va_up (va_up aT_5 0 (aT 2)) 1 (aT 3)) yT_5 gT_5 ++ (wX3 (aT 6) (va_up aT_6 0 (aT 2)) yT_6 gT_6 ++ (wX10 (aT 7) aT_7 yT_7 gT_7 ++ (wX4 hT_8 aT_8 yT_8 gT_8 ++ (wX0 (aT_8 0) aT_8_0 yT_8_0 gT_8_0 ++ (oW wPl sp ++ (oW wCo ak ++ (oW (wRd (aT 0) (aT 2)) rd ++ (oW wSt k0 ++ (oW wSt k1 ++ (oW wSt k2 ++ (oW wSt k3 ++ (wX12 hM aM yM gM')))))))))))))))))) := Hx_perm X (pm_2721_2 _ _ _ _ _ _ _ _ _ _ _ _ _ _ _ _ _ _) (fun _ h => h)
  exact cont H locs ⟨aT, yT, aT_0, yT_0, aT_2, yT_2, aT_3, yT_3, aT_4, yT_4, aT_5, yT_5, aT_6, yT_6, aT_7, yT_7, hT_8, aT_8, yT_8, aT_8_0, yT_8_0, gT', gT_0, gT_2, gT_3, gT_4, gT_5, gT_6, gT_7, gT_8, gT_8_0, sp, ak, rd, k0, k1, k2, k3, kk, aM, yM, gM', tys, X, hty, hw', (((fr 9 (by decide)).2.2.2.2.2.2).trans h9), (((fr 10 (by decide)).2.2.2.2.2.2).trans h10), (((fr 11 (by decide)).2.2.2.2.2.2).trans h11), hk0, hk1, hk2, hk3⟩
theorem cs_3 (hh : T_c_X11_fault) (hm : T_c_X12_fault_) {p : Program} {l : Launch} {e : Env} {s : State} {m : MethodId} {below : List Frame} {meth : Method} {c : Code} {D : Dx} {b L : Nat} {xs : Nat → Int32} {Z : State → Prop} (hL : L ≤ 3072) (C : Cx p s m #[Value.ref b] meth c cL_law ret 4 RL lw_all) (hts : ∀ w ∈ lw_tbl, w.before #[Value.ref b] s = true) (hX : va_X b L xs s s.heap) (hbl : b < s.heap.size) {hT hM N i : Nat} (hN : N < 512) (hi : i + 5 < L) {H : Heap} {locs : List Loc} (hI : LI D (fun q : Nat => s.heap.size ≤ q) s hT hM N H locs) {ls : Array Slot} {iv : Int32} (hiv : iv = nI i) (hl : lv_has ls 4 [(0, .ref b), (1, .ref hT), (2, .ref hM), (3, .int iv)]) (cont : ∀ (H1 : Heap) (locs1 : List Loc), LI D (fun q : Nat => s.heap.size ≤ q) s hT hM (N + 1) H1 locs1 → W p l e room_1 s m #[Value.ref b] below meth c H1 locs1 (200 + 36 * (N + 1)) (120000 + 10367 * (N + 1)) Z (F0 m 1150 ls [])) : W p l e room_1 s m #[Value.ref b] below meth c H locs (200 + 36 * N) (120000 + 10367 * N) Z (F0 m 247 ls []) := by
  obtain ⟨hx, hb, hr, hml, hown, -, hlk⟩ := id C
  have hbA : ¬ (fun q : Nat => s.heap.size ≤ q) b := Nat.not_le.mpr hbl
  have hin0 : vp_in iv L := by rw [hiv]; exact vp_in_nI (by omega) (by omega)
  have hin : ∀ k : Nat, k ≤ 5 → vp_in (iv + nI k) L := fun k hk => vp_in_add hiv (by omega) hL
  obtain ⟨aT, yT, aT_0, yT_0, aT_2, yT_2, aT_3, yT_3, aT_4, yT_4, aT_5, yT_5, aT_6, yT_6, aT_7, yT_7, hT_8, aT_8, yT_8, aT_8_0, yT_8_0, gT, gT_0, gT_2, gT_3, gT_4, gT_5, gT_6, gT_7, gT_8, gT_8_0, sp, ak, rd, k0, k1, k2, k3, kk, aM, yM, gM, tys, X, hty, hw, h9, h10, h11, hk0, hk1, hk2, hk3⟩ := hI
  have hn : 2000000 ≤ 2000000 := Nat.le_refl _
  obtain ⟨r, f2, f1⟩ := st_fault hw 
  refine lv_aload_n hx hb dL_law_247 rfl (lv_at hl 1 rfl) ?_
  have X : Hx D tys (fun q : Nat => s.heap.size ≤ q) s H locs ((wX11 hT aT yT gT) ++ (wTP (aT 0) aT_0 yT_0 gT_0 ++ (wKP (aT 4) aT_4 yT_4 gT_4 ++ (wX6 (aT 2) aT_2 yT_2 gT_2 ++ (wX9 (aT 3) aT_3 yT_3 gT_3 ++ (wX1 (aT 5) (va_up (va_up aT_5 0 (aT 2)) 1 (aT 3)) yT_5 gT_5 ++ (wX3 (aT 6) (va_up aT_6 0 (aT 2)) yT_6 gT_6 ++ (wX10 (aT 7) aT_7 yT_7 gT_7 ++ (wX4 hT_8 aT_8 yT_8 gT_8 ++ (wX0 (aT_8 0) aT_8_0 yT_8_0 gT_8_0 ++ (oW wPl sp ++ (oW wCo ak ++ (oW (wRd (aT 0) (aT 2)) rd ++ (oW wSt k0 ++ (oW wSt k1 ++ (oW wSt k2 ++ (oW wSt k3 ++ (wX12 hM aM yM gM)))))))))))))))))) := Hx_perm X (pm_2721_3 _ _ _ _ _ _ _ _ _ _ _ _ _ _ _ _ _ _) (fun _ h => h)
  refine hc_i (As := []) (rest := []) C X (hh l D hT aT yT gT r f1 _) (cwV 0 C.2.2.2.2.2.1 (good_V q5_149 q5_150 q5_151 q1_1 q5_152) rfl rfl rfl (by decide +kernel) ⟨Nat.le_of_ble_eq_true rfl, Nat.le_of_ble_eq_true rfl⟩) (va_recv X.1 X.2.1 (ci := 11) (q0 := 0) rfl rfl) (fun q hq => hty q (by
    simp only [List.mem_append] at hq ⊢
    (repeat' (refine Or.elim hq ?_ ?_ <;> intro hq)) <;> simp [hq])) hl.1 rfl rfl (Nat.le_of_ble_eq_true rfl) dL_law_248 ⟨by show _ ≤ 218358; omega, by show _ ≤ 8447176; omega⟩ (fun H locs X => ?_)
  refine lv_aload_n hx hb dL_law_251 rfl (lv_at hl 2 rfl) ?_
  have X : Hx D tys (fun q : Nat => s.heap.size ≤ q) s H locs ((wX12 hM aM yM gM) ++ (wX11 hT aT yT gT ++ (wTP (aT 0) aT_0 yT_0 gT_0 ++ (wKP (aT 4) aT_4 yT_4 gT_4 ++ (wX6 (aT 2) aT_2 yT_2 gT_2 ++ (wX9 (aT 3) aT_3 yT_3 gT_3 ++ (wX1 (aT 5) (va_up (va_up aT_5 0 (aT 2)) 1 (aT 3)) yT_5 gT_5 ++ (wX3 (aT 6) (va_up aT_6 0 (aT 2)) yT_6 gT_6 ++ (wX10 (aT 7) aT_7 yT_7 gT_7 ++ (wX4 hT_8 aT_8 yT_8 gT_8 ++ (wX0 (aT_8 0) aT_8_0 yT_8_0 gT_8_0 ++ (oW wPl sp ++ (oW wCo ak ++ (oW (wRd (aT 0) (aT 2)) rd ++ (oW wSt k0 ++ (oW wSt k1 ++ (oW wSt k2 ++ (oW wSt k3)))))))))))))))))) := Hx_perm X (pm_2721_4 _ _ _ _ _ _ _ _ _ _ _ _ _ _ _ _ _ _) (fun _ h => h)
  refine hc_i (As := []) (rest := [.int r]) C X (hm l D hM aM yM gM r f2 _) (cwV 0 C.2.2.2.2.2.1 (good_V q9_176 q9_177 q9_178 q1_9 q9_179) rfl rfl rfl (by decide +kernel) ⟨Nat.le_of_ble_eq_true rfl, Nat.le_of_ble_eq_true rfl⟩) (va_recv X.1 X.2.1 (ci := 12) (q0 := 0) rfl rfl) (fun q hq => hty q (by
    simp only [List.mem_append] at hq ⊢
    (repeat' (refine Or.elim hq ?_ ?_ <;> intro hq)) <;> simp [hq])) hl.1 rfl rfl (Nat.le_of_ble_eq_true rfl) dL_law_252 ⟨by show _ ≤ 218358; omega, by show _ ≤ 8447176; omega⟩ (fun H locs X => ?_)
  refine lv_icmp_eq (tgt := 1150) hx hb dL_law_255 (by decide) (fun _ => ?_) (fun c => absurd rfl c)
  refine W.widen (k := (200 + 36 * (N + 1))) (n := (120000 + 10367 * (N + 1))) (by omega) (by omega) ?_
  have X : Hx D tys (fun q : Nat => s.heap.size ≤ q) s H locs (wX11 hT aT yT gT ++ (wTP (aT 0) aT_0 yT_0 gT_0 ++ (wKP (aT 4) aT_4 yT_4 gT_4 ++ (wX6 (aT 2) aT_2 yT_2 gT_2 ++ (wX9 (aT 3) aT_3 yT_3 gT_3 ++ (wX1 (aT 5) (va_up (va_up aT_5 0 (aT 2)) 1 (aT 3)) yT_5 gT_5 ++ (wX3 (aT 6) (va_up aT_6 0 (aT 2)) yT_6 gT_6 ++ (wX10 (aT 7) aT_7 yT_7 gT_7 ++ (wX4 hT_8 aT_8 yT_8 gT_8 ++ (wX0 (aT_8 0) aT_8_0 yT_8_0 gT_8_0 ++ (oW wPl sp ++ (oW wCo ak ++ (oW (wRd (aT 0) (aT 2)) rd ++ (oW wSt k0 ++ (oW wSt k1 ++ (oW wSt k2 ++ (oW wSt k3 ++ (wX12 hM aM yM gM)))))))))))))))))) := Hx_perm X (pm_2721_2 _ _ _ _ _ _ _ _ _ _ _ _ _ _ _ _ _ _) (fun _ h => h)
  exact cont H locs ⟨aT, yT, aT_0, yT_0, aT_2, yT_2, aT_3, yT_3, aT_4, yT_4, aT_5, yT_5, aT_6, yT_6, aT_7, yT_7, hT_8, aT_8, yT_8, aT_8_0, yT_8_0, gT, gT_0, gT_2, gT_3, gT_4, gT_5, gT_6, gT_7, gT_8, gT_8_0, sp, ak, rd, k0, k1, k2, k3, kk, aM, yM, gM, tys, X, hty, hw.idle, h9, h10, h11, hk0, hk1, hk2, hk3⟩
theorem cs_4 (hh : T_c_X11_count) (hm : T_c_X12_count) {p : Program} {l : Launch} {e : Env} {s : State} {m : MethodId} {below : List Frame} {meth : Method} {c : Code} {D : Dx} {b L : Nat} {xs : Nat → Int32} {Z : State → Prop} (hL : L ≤ 3072) (C : Cx p s m #[Value.ref b] meth c cL_law ret 4 RL lw_all) (hts : ∀ w ∈ lw_tbl, w.before #[Value.ref b] s = true) (hX : va_X b L xs s s.heap) (hbl : b < s.heap.size) {hT hM N i : Nat} (hN : N < 512) (hi : i + 5 < L) {H : Heap} {locs : List Loc} (hI : LI D (fun q : Nat => s.heap.size ≤ q) s hT hM N H locs) {ls : Array Slot} {iv : Int32} (hiv : iv = nI i) (hl : lv_has ls 4 [(0, .ref b), (1, .ref hT), (2, .ref hM), (3, .int iv)]) (cont : ∀ (H1 : Heap) (locs1 : List Loc), LI D (fun q : Nat => s.heap.size ≤ q) s hT hM (N + 1) H1 locs1 → W p l e room_1 s m #[Value.ref b] below meth c H1 locs1 (200 + 36 * (N + 1)) (120000 + 10367 * (N + 1)) Z (F0 m 1150 ls [])) : W p l e room_1 s m #[Value.ref b] below meth c H locs (200 + 36 * N) (120000 + 10367 * N) Z (F0 m 260 ls []) := by
  obtain ⟨hx, hb, hr, hml, hown, -, hlk⟩ := id C
  have hbA : ¬ (fun q : Nat => s.heap.size ≤ q) b := Nat.not_le.mpr hbl
  have hin0 : vp_in iv L := by rw [hiv]; exact vp_in_nI (by omega) (by omega)
  have hin : ∀ k : Nat, k ≤ 5 → vp_in (iv + nI k) L := fun k hk => vp_in_add hiv (by omega) hL
  obtain ⟨aT, yT, aT_0, yT_0, aT_2, yT_2, aT_3, yT_3, aT_4, yT_4, aT_5, yT_5, aT_6, yT_6, aT_7, yT_7, hT_8, aT_8, yT_8, aT_8_0, yT_8_0, gT, gT_0, gT_2, gT_3, gT_4, gT_5, gT_6, gT_7, gT_8, gT_8_0, sp, ak, rd, k0, k1, k2, k3, kk, aM, yM, gM, tys, X, hty, hw, h9, h10, h11, hk0, hk1, hk2, hk3⟩ := hI
  have hn : 2000000 ≤ 2000000 := Nat.le_refl _
  obtain ⟨r, f2, f1⟩ := st_count (by omega) hw (xs (iv + (1 : Int32)).toNatClampNeg)
  refine lv_aload_n hx hb dL_law_260 rfl (lv_at hl 1 rfl) ?_
  refine lv_aload_n hx hb dL_law_261 rfl (lv_at hl 0 rfl) ?_
  refine lv_iload_n hx hb dL_law_262 rfl (lv_at hl 3 rfl) ?_
  refine lv_iconst (v := (1 : Int32)) hx hb dL_law_263 (by decide) ?_
  refine lv_iadd hx hb dL_law_264 ?_
  refine va_sld hx hb hX hbl hbA X.2.2.2.1 (hin 1 (by decide)) dL_law_265 ?_
  have X : Hx D tys (fun q : Nat => s.heap.size ≤ q) s H locs ((wX11 hT aT yT gT ++ (wX9 (aT 3) aT_3 yT_3 gT_3 ++ (wX3 (aT 6) (va_up aT_6 0 (aT 2)) yT_6 gT_6 ++ (wX10 (aT 7) aT_7 yT_7 gT_7 ++ (wX4 hT_8 aT_8 yT_8 gT_8 ++ (wX0 (aT_8 0) aT_8_0 yT_8_0 gT_8_0)))))) ++ (wTP (aT 0) aT_0 yT_0 gT_0 ++ (wKP (aT 4) aT_4 yT_4 gT_4 ++ (wX6 (aT 2) aT_2 yT_2 gT_2 ++ (wX1 (aT 5) (va_up (va_up aT_5 0 (aT 2)) 1 (aT 3)) yT_5 gT_5 ++ (oW wPl sp ++ (oW wCo ak ++ (oW (wRd (aT 0) (aT 2)) rd ++ (oW wSt k0 ++ (oW wSt k1 ++ (oW wSt k2 ++ (oW wSt k3 ++ (wX12 hM aM yM gM))))))))))))) := Hx_perm X (pm_2721_5 _ _ _ _ _ _ _ _ _ _ _ _ _ _ _ _ _ _) (fun _ h => h)
  refine hc_i (As := [.int (xs (iv + (1 : Int32)).toNatClampNeg)]) (rest := []) C X (hh l D hT aT yT aT_3 yT_3 (va_up aT_6 0 (aT 2)) yT_6 aT_7 yT_7 hT_8 aT_8 yT_8 aT_8_0 yT_8_0 gT gT_3 gT_6 gT_7 gT_8 gT_8_0 (xs (iv + (1 : Int32)).toNatClampNeg) r f1 _) (cwV 1 C.2.2.2.2.2.1 (good_V q5_153 q5_154 q5_155 q1_1 q5_156) rfl rfl rfl (by decide +kernel) ⟨Nat.le_of_ble_eq_true rfl, Nat.le_of_ble_eq_true rfl⟩) (va_recv X.1 X.2.1 (ci := 11) (q0 := 0) rfl rfl) (fun q hq => hty q (by
    simp only [List.mem_append] at hq ⊢
    (repeat' (refine Or.elim hq ?_ ?_ <;> intro hq)) <;> simp [hq])) hl.1 rfl rfl (Nat.le_of_ble_eq_true rfl) dL_law_266 ⟨by show _ ≤ 218358; omega, by show _ ≤ 8447176; omega⟩ (fun H locs X => ?_)
  refine lv_aload_n hx hb dL_law_269 rfl (lv_at hl 2 rfl) ?_
  refine lv_aload_n hx hb dL_law_270 rfl (lv_at hl 0 rfl) ?_
  refine lv_iload_n hx hb dL_law_271 rfl (lv_at hl 3 rfl) ?_
  refine lv_iconst (v := (1 : Int32)) hx hb dL_law_272 (by decide) ?_
  refine lv_iadd hx hb dL_law_273 ?_
  refine va_sld hx hb hX hbl hbA X.2.2.2.1 (hin 1 (by decide)) dL_law_274 ?_
  have X : Hx D tys (fun q : Nat => s.heap.size ≤ q) s H locs ((wX12 hM aM yM gM) ++ (wX11 hT aT yT gT ++ (wTP (aT 0) aT_0 yT_0 gT_0 ++ (wKP (aT 4) aT_4 yT_4 gT_4 ++ (wX6 (aT 2) aT_2 yT_2 gT_2 ++ (wX9 (aT 3) aT_3 yT_3 gT_3 ++ (wX1 (aT 5) (va_up (va_up aT_5 0 (aT 2)) 1 (aT 3)) yT_5 gT_5 ++ (wX3 (aT 6) (va_up aT_6 0 (aT 2)) yT_6 gT_6 ++ (wX10 (aT 7) aT_7 yT_7 gT_7 ++ (wX4 hT_8 aT_8 yT_8 gT_8 ++ (wX0 (aT_8 0) aT_8_0 yT_8_0 gT_8_0 ++ (oW wPl sp ++ (oW wCo ak ++ (oW (wRd (aT 0) (aT 2)) rd ++ (oW wSt k0 ++ (oW wSt k1 ++ (oW wSt k2 ++ (oW wSt k3)))))))))))))))))) := Hx_perm X (pm_2721_6 _ _ _ _ _ _ _ _ _ _ _ _ _ _ _ _ _ _) (fun _ h => h)
  refine hc_i (As := [.int (xs (iv + (1 : Int32)).toNatClampNeg)]) (rest := [.int r]) C X (hm l D hM aM yM gM (xs (iv + (1 : Int32)).toNatClampNeg) r f2 _) (cwV 1 C.2.2.2.2.2.1 (good_V q9_188 q9_189 q9_190 q1_9 q9_191) rfl rfl rfl (by decide +kernel) ⟨Nat.le_of_ble_eq_true rfl, Nat.le_of_ble_eq_true rfl⟩) (va_recv X.1 X.2.1 (ci := 12) (q0 := 0) rfl rfl) (fun q hq => hty q (by
    simp only [List.mem_append] at hq ⊢
    (repeat' (refine Or.elim hq ?_ ?_ <;> intro hq)) <;> simp [hq])) hl.1 rfl rfl (Nat.le_of_ble_eq_true rfl) dL_law_275 ⟨by show _ ≤ 218358; omega, by show _ ≤ 8447176; omega⟩ (fun H locs X => ?_)
  refine lv_icmp_eq (tgt := 1150) hx hb dL_law_278 (by decide) (fun _ => ?_) (fun c => absurd rfl c)
  refine W.widen (k := (200 + 36 * (N + 1))) (n := (120000 + 10367 * (N + 1))) (by omega) (by omega) ?_
  have X : Hx D tys (fun q : Nat => s.heap.size ≤ q) s H locs (wX11 hT aT yT gT ++ (wTP (aT 0) aT_0 yT_0 gT_0 ++ (wKP (aT 4) aT_4 yT_4 gT_4 ++ (wX6 (aT 2) aT_2 yT_2 gT_2 ++ (wX9 (aT 3) aT_3 yT_3 gT_3 ++ (wX1 (aT 5) (va_up (va_up aT_5 0 (aT 2)) 1 (aT 3)) yT_5 gT_5 ++ (wX3 (aT 6) (va_up aT_6 0 (aT 2)) yT_6 gT_6 ++ (wX10 (aT 7) aT_7 yT_7 gT_7 ++ (wX4 hT_8 aT_8 yT_8 gT_8 ++ (wX0 (aT_8 0) aT_8_0 yT_8_0 gT_8_0 ++ (oW wPl sp ++ (oW wCo ak ++ (oW (wRd (aT 0) (aT 2)) rd ++ (oW wSt k0 ++ (oW wSt k1 ++ (oW wSt k2 ++ (oW wSt k3 ++ (wX12 hM aM yM gM)))))))))))))))))) := Hx_perm X (pm_2721_2 _ _ _ _ _ _ _ _ _ _ _ _ _ _ _ _ _ _) (fun _ h => h)
  exact cont H locs ⟨aT, yT, aT_0, yT_0, aT_2, yT_2, aT_3, yT_3, aT_4, yT_4, aT_5, yT_5, aT_6, yT_6, aT_7, yT_7, hT_8, aT_8, yT_8, aT_8_0, yT_8_0, gT, gT_0, gT_2, gT_3, gT_4, gT_5, gT_6, gT_7, gT_8, gT_8_0, sp, ak, rd, k0, k1, k2, k3, kk, aM, yM, gM, tys, X, hty, hw.idle, h9, h10, h11, hk0, hk1, hk2, hk3⟩
theorem cs_5 (hh : T_c_X11_thing) (hm : T_c_X12_thing_) {p : Program} {l : Launch} {e : Env} {s : State} {m : MethodId} {below : List Frame} {meth : Method} {c : Code} {D : Dx} {b L : Nat} {xs : Nat → Int32} {Z : State → Prop} (hL : L ≤ 3072) (C : Cx p s m #[Value.ref b] meth c cL_law ret 4 RL lw_all) (hts : ∀ w ∈ lw_tbl, w.before #[Value.ref b] s = true) (hX : va_X b L xs s s.heap) (hbl : b < s.heap.size) {hT hM N i : Nat} (hN : N < 512) (hi : i + 5 < L) {H : Heap} {locs : List Loc} (hI : LI D (fun q : Nat => s.heap.size ≤ q) s hT hM N H locs) {ls : Array Slot} {iv : Int32} (hiv : iv = nI i) (hl : lv_has ls 4 [(0, .ref b), (1, .ref hT), (2, .ref hM), (3, .int iv)]) (cont : ∀ (H1 : Heap) (locs1 : List Loc), LI D (fun q : Nat => s.heap.size ≤ q) s hT hM (N + 1) H1 locs1 → W p l e room_1 s m #[Value.ref b] below meth c H1 locs1 (200 + 36 * (N + 1)) (120000 + 10367 * (N + 1)) Z (F0 m 1150 ls [])) : W p l e room_1 s m #[Value.ref b] below meth c H locs (200 + 36 * N) (120000 + 10367 * N) Z (F0 m 283 ls []) := by
  obtain ⟨hx, hb, hr, hml, hown, -, hlk⟩ := id C
  have hbA : ¬ (fun q : Nat => s.heap.size ≤ q) b := Nat.not_le.mpr hbl
  have hin0 : vp_in iv L := by rw [hiv]; exact vp_in_nI (by omega) (by omega)
  have hin : ∀ k : Nat, k ≤ 5 → vp_in (iv + nI k) L := fun k hk => vp_in_add hiv (by omega) hL
  obtain ⟨aT, yT, aT_0, yT_0, aT_2, yT_2, aT_3, yT_3, aT_4, yT_4, aT_5, yT_5, aT_6, yT_6, aT_7, yT_7, hT_8, aT_8, yT_8, aT_8_0, yT_8_0, gT, gT_0, gT_2, gT_3, gT_4, gT_5, gT_6, gT_7, gT_8, gT_8_0, sp, ak, rd, k0, k1, k2, k3, kk, aM, yM, gM, tys, X, hty, hw, h9, h10, h11, hk0, hk1, hk2, hk3⟩ := hI
  have hn : 2000000 ≤ 2000000 := Nat.le_refl _
  obtain ⟨r, f2, f1⟩ := st_thing hw (xs (iv + (1 : Int32)).toNatClampNeg) (xs (iv + (2 : Int32)).toNatClampNeg)
  refine lv_aload_n hx hb dL_law_283 rfl (lv_at hl 1 rfl) ?_
  refine lv_aload_n hx hb dL_law_284 rfl (lv_at hl 0 rfl) ?_
  refine lv_iload_n hx hb dL_law_285 rfl (lv_at hl 3 rfl) ?_
  refine lv_iconst (v := (1 : Int32)) hx hb dL_law_286 (by decide) ?_
  refine lv_iadd hx hb dL_law_287 ?_
  refine va_sld hx hb hX hbl hbA X.2.2.2.1 (hin 1 (by decide)) dL_law_288 ?_
  refine lv_aload_n hx hb dL_law_289 rfl (lv_at hl 0 rfl) ?_
  refine lv_iload_n hx hb dL_law_290 rfl (lv_at hl 3 rfl) ?_
  refine lv_iconst (v := (2 : Int32)) hx hb dL_law_291 (by decide) ?_
  refine lv_iadd hx hb dL_law_292 ?_
  refine va_sld hx hb hX hbl hbA X.2.2.2.1 (hin 2 (by decide)) dL_law_293 ?_
  have X : Hx D tys (fun q : Nat => s.heap.size ≤ q) s H locs ((wX11 hT aT yT gT ++ (wX9 (aT 3) aT_3 yT_3 gT_3 ++ (wX4 hT_8 aT_8 yT_8 gT_8))) ++ (wTP (aT 0) aT_0 yT_0 gT_0 ++ (wKP (aT 4) aT_4 yT_4 gT_4 ++ (wX6 (aT 2) aT_2 yT_2 gT_2 ++ (wX1 (aT 5) (va_up (va_up aT_5 0 (aT 2)) 1 (aT 3)) yT_5 gT_5 ++ (wX3 (aT 6) (va_up aT_6 0 (aT 2)) yT_6 gT_6 ++ (wX10 (aT 7) aT_7 yT_7 gT_7 ++ (wX0 (aT_8 0) aT_8_0 yT_8_0 gT_8_0 ++ (oW wPl sp ++ (oW wCo ak ++ (oW (wRd (aT 0) (aT 2)) rd ++ (oW wSt k0 ++ (oW wSt k1 ++ (oW wSt k2 ++ (oW wSt k3 ++ (wX12 hM aM yM gM)))))))))))))))) := Hx_perm X (pm_2721_7 _ _ _ _ _ _ _ _ _ _ _ _ _ _ _ _ _ _) (fun _ h => h)
  refine hc_i (As := [.int (xs (iv + (1 : Int32)).toNatClampNeg), .int (xs (iv + (2 : Int32)).toNatClampNeg)]) (rest := []) C X (hh l D hT aT yT aT_3 yT_3 hT_8 aT_8 yT_8 gT gT_3 gT_8 (xs (iv + (1 : Int32)).toNatClampNeg) (xs (iv + (2 : Int32)).toNatClampNeg) r f1 _) (cwV 2 C.2.2.2.2.2.1 (good_V q5_157 q5_158 q5_159 q1_1 q5_160) rfl rfl rfl (by decide +kernel) ⟨Nat.le_of_ble_eq_true rfl, Nat.le_of_ble_eq_true rfl⟩) (va_recv X.1 X.2.1 (ci := 11) (q0 := 0) rfl rfl) (fun q hq => hty q (by
    simp only [List.mem_append] at hq ⊢
    (repeat' (refine Or.elim hq ?_ ?_ <;> intro hq)) <;> simp [hq])) hl.1 rfl rfl (Nat.le_of_ble_eq_true rfl) dL_law_294 ⟨by show _ ≤ 218358; omega, by show _ ≤ 8447176; omega⟩ (fun H locs X => ?_)
  refine lv_aload_n hx hb dL_law_297 rfl (lv_at hl 2 rfl) ?_
  refine lv_aload_n hx hb dL_law_298 rfl (lv_at hl 0 rfl) ?_
  refine lv_iload_n hx hb dL_law_299 rfl (lv_at hl 3 rfl) ?_
  refine lv_iconst (v := (1 : Int32)) hx hb dL_law_300 (by decide) ?_
  refine lv_iadd hx hb dL_law_301 ?_
  refine va_sld hx hb hX hbl hbA X.2.2.2.1 (hin 1 (by decide)) dL_law_302 ?_
  refine lv_aload_n hx hb dL_law_303 rfl (lv_at hl 0 rfl) ?_
  refine lv_iload_n hx hb dL_law_304 rfl (lv_at hl 3 rfl) ?_
  refine lv_iconst (v := (2 : Int32)) hx hb dL_law_305 (by decide) ?_
  refine lv_iadd hx hb dL_law_306 ?_
  refine va_sld hx hb hX hbl hbA X.2.2.2.1 (hin 2 (by decide)) dL_law_307 ?_
  have X : Hx D tys (fun q : Nat => s.heap.size ≤ q) s H locs ((wX12 hM aM yM gM) ++ (wX11 hT aT yT gT ++ (wTP (aT 0) aT_0 yT_0 gT_0 ++ (wKP (aT 4) aT_4 yT_4 gT_4 ++ (wX6 (aT 2) aT_2 yT_2 gT_2 ++ (wX9 (aT 3) aT_3 yT_3 gT_3 ++ (wX1 (aT 5) (va_up (va_up aT_5 0 (aT 2)) 1 (aT 3)) yT_5 gT_5 ++ (wX3 (aT 6) (va_up aT_6 0 (aT 2)) yT_6 gT_6 ++ (wX10 (aT 7) aT_7 yT_7 gT_7 ++ (wX4 hT_8 aT_8 yT_8 gT_8 ++ (wX0 (aT_8 0) aT_8_0 yT_8_0 gT_8_0 ++ (oW wPl sp ++ (oW wCo ak ++ (oW (wRd (aT 0) (aT 2)) rd ++ (oW wSt k0 ++ (oW wSt k1 ++ (oW wSt k2 ++ (oW wSt k3)))))))))))))))))) := Hx_perm X (pm_2721_8 _ _ _ _ _ _ _ _ _ _ _ _ _ _ _ _ _ _) (fun _ h => h)
  refine hc_i (As := [.int (xs (iv + (1 : Int32)).toNatClampNeg), .int (xs (iv + (2 : Int32)).toNatClampNeg)]) (rest := [.int r]) C X (hm l D hM aM yM gM (xs (iv + (1 : Int32)).toNatClampNeg) (xs (iv + (2 : Int32)).toNatClampNeg) r f2 _) (cwV 2 C.2.2.2.2.2.1 (good_V q9_192 q9_193 q9_194 q1_9 q9_195) rfl rfl rfl (by decide +kernel) ⟨Nat.le_of_ble_eq_true rfl, Nat.le_of_ble_eq_true rfl⟩) (va_recv X.1 X.2.1 (ci := 12) (q0 := 0) rfl rfl) (fun q hq => hty q (by
    simp only [List.mem_append] at hq ⊢
    (repeat' (refine Or.elim hq ?_ ?_ <;> intro hq)) <;> simp [hq])) hl.1 rfl rfl (Nat.le_of_ble_eq_true rfl) dL_law_308 ⟨by show _ ≤ 218358; omega, by show _ ≤ 8447176; omega⟩ (fun H locs X => ?_)
  refine lv_icmp_eq (tgt := 1150) hx hb dL_law_311 (by decide) (fun _ => ?_) (fun c => absurd rfl c)
  refine W.widen (k := (200 + 36 * (N + 1))) (n := (120000 + 10367 * (N + 1))) (by omega) (by omega) ?_
  have X : Hx D tys (fun q : Nat => s.heap.size ≤ q) s H locs (wX11 hT aT yT gT ++ (wTP (aT 0) aT_0 yT_0 gT_0 ++ (wKP (aT 4) aT_4 yT_4 gT_4 ++ (wX6 (aT 2) aT_2 yT_2 gT_2 ++ (wX9 (aT 3) aT_3 yT_3 gT_3 ++ (wX1 (aT 5) (va_up (va_up aT_5 0 (aT 2)) 1 (aT 3)) yT_5 gT_5 ++ (wX3 (aT 6) (va_up aT_6 0 (aT 2)) yT_6 gT_6 ++ (wX10 (aT 7) aT_7 yT_7 gT_7 ++ (wX4 hT_8 aT_8 yT_8 gT_8 ++ (wX0 (aT_8 0) aT_8_0 yT_8_0 gT_8_0 ++ (oW wPl sp ++ (oW wCo ak ++ (oW (wRd (aT 0) (aT 2)) rd ++ (oW wSt k0 ++ (oW wSt k1 ++ (oW wSt k2 ++ (oW wSt k3 ++ (wX12 hM aM yM gM)))))))))))))))))) := Hx_perm X (pm_2721_2 _ _ _ _ _ _ _ _ _ _ _ _ _ _ _ _ _ _) (fun _ h => h)
  exact cont H locs ⟨aT, yT, aT_0, yT_0, aT_2, yT_2, aT_3, yT_3, aT_4, yT_4, aT_5, yT_5, aT_6, yT_6, aT_7, yT_7, hT_8, aT_8, yT_8, aT_8_0, yT_8_0, gT, gT_0, gT_2, gT_3, gT_4, gT_5, gT_6, gT_7, gT_8, gT_8_0, sp, ak, rd, k0, k1, k2, k3, kk, aM, yM, gM, tys, X, hty, hw.idle, h9, h10, h11, hk0, hk1, hk2, hk3⟩
theorem cs_6 (hh : T_c_X11_letter) (hm : T_c_X12_letter) {p : Program} {l : Launch} {e : Env} {s : State} {m : MethodId} {below : List Frame} {meth : Method} {c : Code} {D : Dx} {b L : Nat} {xs : Nat → Int32} {Z : State → Prop} (hL : L ≤ 3072) (C : Cx p s m #[Value.ref b] meth c cL_law ret 4 RL lw_all) (hts : ∀ w ∈ lw_tbl, w.before #[Value.ref b] s = true) (hX : va_X b L xs s s.heap) (hbl : b < s.heap.size) {hT hM N i : Nat} (hN : N < 512) (hi : i + 5 < L) {H : Heap} {locs : List Loc} (hI : LI D (fun q : Nat => s.heap.size ≤ q) s hT hM N H locs) {ls : Array Slot} {iv : Int32} (hiv : iv = nI i) (hl : lv_has ls 4 [(0, .ref b), (1, .ref hT), (2, .ref hM), (3, .int iv)]) (cont : ∀ (H1 : Heap) (locs1 : List Loc), LI D (fun q : Nat => s.heap.size ≤ q) s hT hM (N + 1) H1 locs1 → W p l e room_1 s m #[Value.ref b] below meth c H1 locs1 (200 + 36 * (N + 1)) (120000 + 10367 * (N + 1)) Z (F0 m 1150 ls [])) : W p l e room_1 s m #[Value.ref b] below meth c H locs (200 + 36 * N) (120000 + 10367 * N) Z (F0 m 316 ls []) := by
  obtain ⟨hx, hb, hr, hml, hown, -, hlk⟩ := id C
  have hbA : ¬ (fun q : Nat => s.heap.size ≤ q) b := Nat.not_le.mpr hbl
  have hin0 : vp_in iv L := by rw [hiv]; exact vp_in_nI (by omega) (by omega)
  have hin : ∀ k : Nat, k ≤ 5 → vp_in (iv + nI k) L := fun k hk => vp_in_add hiv (by omega) hL
  obtain ⟨aT, yT, aT_0, yT_0, aT_2, yT_2, aT_3, yT_3, aT_4, yT_4, aT_5, yT_5, aT_6, yT_6, aT_7, yT_7, hT_8, aT_8, yT_8, aT_8_0, yT_8_0, gT, gT_0, gT_2, gT_3, gT_4, gT_5, gT_6, gT_7, gT_8, gT_8_0, sp, ak, rd, k0, k1, k2, k3, kk, aM, yM, gM, tys, X, hty, hw, h9, h10, h11, hk0, hk1, hk2, hk3⟩ := hI
  have hn : 2000000 ≤ 2000000 := Nat.le_refl _
  obtain ⟨r, f2, f1⟩ := st_letter hw (xs (iv + (1 : Int32)).toNatClampNeg) (xs (iv + (2 : Int32)).toNatClampNeg)
  refine lv_aload_n hx hb dL_law_316 rfl (lv_at hl 1 rfl) ?_
  refine lv_aload_n hx hb dL_law_317 rfl (lv_at hl 0 rfl) ?_
  refine lv_iload_n hx hb dL_law_318 rfl (lv_at hl 3 rfl) ?_
  refine lv_iconst (v := (1 : Int32)) hx hb dL_law_319 (by decide) ?_
  refine lv_iadd hx hb dL_law_320 ?_
  refine va_sld hx hb hX hbl hbA X.2.2.2.1 (hin 1 (by decide)) dL_law_321 ?_
  refine lv_aload_n hx hb dL_law_322 rfl (lv_at hl 0 rfl) ?_
  refine lv_iload_n hx hb dL_law_323 rfl (lv_at hl 3 rfl) ?_
  refine lv_iconst (v := (2 : Int32)) hx hb dL_law_324 (by decide) ?_
  refine lv_iadd hx hb dL_law_325 ?_
  refine va_sld hx hb hX hbl hbA X.2.2.2.1 (hin 2 (by decide)) dL_law_326 ?_
  have X : Hx D tys (fun q : Nat => s.heap.size ≤ q) s H locs ((wX11 hT aT yT gT ++ (wX4 hT_8 aT_8 yT_8 gT_8)) ++ (wTP (aT 0) aT_0 yT_0 gT_0 ++ (wKP (aT 4) aT_4 yT_4 gT_4 ++ (wX6 (aT 2) aT_2 yT_2 gT_2 ++ (wX9 (aT 3) aT_3 yT_3 gT_3 ++ (wX1 (aT 5) (va_up (va_up aT_5 0 (aT 2)) 1 (aT 3)) yT_5 gT_5 ++ (wX3 (aT 6) (va_up aT_6 0 (aT 2)) yT_6 gT_6 ++ (wX10 (aT 7) aT_7 yT_7 gT_7 ++ (wX0 (aT_8 0) aT_8_0 yT_8_0 gT_8_0 ++ (oW wPl sp ++ (oW wCo ak ++ (oW (wRd (aT 0) (aT 2)) rd ++ (oW wSt k0 ++ (oW wSt k1 ++ (oW wSt k2 ++ (oW wSt k3 ++ (wX12 hM aM yM gM))))))))))))))))) := Hx_perm X (pm_2721_9 _ _ _ _ _ _ _ _ _ _ _ _ _ _ _ _ _ _) (fun _ h => h)
  refine hc_i (As := [.int (xs (iv + (1 : Int32)).toNatClampNeg), .int (xs (iv + (2 : Int32)).toNatClampNeg)]) (rest := []) C X (hh l D hT aT yT hT_8 aT_8 yT_8 gT gT_8 (xs (iv + (1 : Int32)).toNatClampNeg) (xs (iv + (2 : Int32)).toNatClampNeg) r f1 _) (cwV 2 C.2.2.2.2.2.1 (good_V q5_169 q5_170 q5_171 q1_1 q5_172) rfl rfl rfl (by decide +kernel) ⟨Nat.le_of_ble_eq_true rfl, Nat.le_of_ble_eq_true rfl⟩) (va_recv X.1 X.2.1 (ci := 11) (q0 := 0) rfl rfl) (fun q hq => hty q (by
    simp only [List.mem_append] at hq ⊢
    (repeat' (refine Or.elim hq ?_ ?_ <;> intro hq)) <;> simp [hq])) hl.1 rfl rfl (Nat.le_of_ble_eq_true rfl) dL_law_327 ⟨by show _ ≤ 218358; omega, by show _ ≤ 8447176; omega⟩ (fun H locs X => ?_)
  refine lv_aload_n hx hb dL_law_330 rfl (lv_at hl 2 rfl) ?_
  refine lv_aload_n hx hb dL_law_331 rfl (lv_at hl 0 rfl) ?_
  refine lv_iload_n hx hb dL_law_332 rfl (lv_at hl 3 rfl) ?_
  refine lv_iconst (v := (1 : Int32)) hx hb dL_law_333 (by decide) ?_
  refine lv_iadd hx hb dL_law_334 ?_
  refine va_sld hx hb hX hbl hbA X.2.2.2.1 (hin 1 (by decide)) dL_law_335 ?_
  refine lv_aload_n hx hb dL_law_336 rfl (lv_at hl 0 rfl) ?_
  refine lv_iload_n hx hb dL_law_337 rfl (lv_at hl 3 rfl) ?_
  refine lv_iconst (v := (2 : Int32)) hx hb dL_law_338 (by decide) ?_
  refine lv_iadd hx hb dL_law_339 ?_
  refine va_sld hx hb hX hbl hbA X.2.2.2.1 (hin 2 (by decide)) dL_law_340 ?_
  have X : Hx D tys (fun q : Nat => s.heap.size ≤ q) s H locs ((wX12 hM aM yM gM) ++ (wX11 hT aT yT gT ++ (wTP (aT 0) aT_0 yT_0 gT_0 ++ (wKP (aT 4) aT_4 yT_4 gT_4 ++ (wX6 (aT 2) aT_2 yT_2 gT_2 ++ (wX9 (aT 3) aT_3 yT_3 gT_3 ++ (wX1 (aT 5) (va_up (va_up aT_5 0 (aT 2)) 1 (aT 3)) yT_5 gT_5 ++ (wX3 (aT 6) (va_up aT_6 0 (aT 2)) yT_6 gT_6 ++ (wX10 (aT 7) aT_7 yT_7 gT_7 ++ (wX4 hT_8 aT_8 yT_8 gT_8 ++ (wX0 (aT_8 0) aT_8_0 yT_8_0 gT_8_0 ++ (oW wPl sp ++ (oW wCo ak ++ (oW (wRd (aT 0) (aT 2)) rd ++ (oW wSt k0 ++ (oW wSt k1 ++ (oW wSt k2 ++ (oW wSt k3)))))))))))))))))) := Hx_perm X (pm_2721_10 _ _ _ _ _ _ _ _ _ _ _ _ _ _ _ _ _ _) (fun _ h => h)
  refine hc_i (As := [.int (xs (iv + (1 : Int32)).toNatClampNeg), .int (xs (iv + (2 : Int32)).toNatClampNeg)]) (rest := [.int r]) C X (hm l D hM aM yM gM (xs (iv + (1 : Int32)).toNatClampNeg) (xs (iv + (2 : Int32)).toNatClampNeg) r f2 _) (cwV 2 C.2.2.2.2.2.1 (good_V q9_200 q9_201 q9_202 q1_9 q9_203) rfl rfl rfl (by decide +kernel) ⟨Nat.le_of_ble_eq_true rfl, Nat.le_of_ble_eq_true rfl⟩) (va_recv X.1 X.2.1 (ci := 12) (q0 := 0) rfl rfl) (fun q hq => hty q (by
    simp only [List.mem_append] at hq ⊢
    (repeat' (refine Or.elim hq ?_ ?_ <;> intro hq)) <;> simp [hq])) hl.1 rfl rfl (Nat.le_of_ble_eq_true rfl) dL_law_341 ⟨by show _ ≤ 218358; omega, by show _ ≤ 8447176; omega⟩ (fun H locs X => ?_)
  refine lv_icmp_eq (tgt := 1150) hx hb dL_law_344 (by decide) (fun _ => ?_) (fun c => absurd rfl c)
  refine W.widen (k := (200 + 36 * (N + 1))) (n := (120000 + 10367 * (N + 1))) (by omega) (by omega) ?_
  have X : Hx D tys (fun q : Nat => s.heap.size ≤ q) s H locs (wX11 hT aT yT gT ++ (wTP (aT 0) aT_0 yT_0 gT_0 ++ (wKP (aT 4) aT_4 yT_4 gT_4 ++ (wX6 (aT 2) aT_2 yT_2 gT_2 ++ (wX9 (aT 3) aT_3 yT_3 gT_3 ++ (wX1 (aT 5) (va_up (va_up aT_5 0 (aT 2)) 1 (aT 3)) yT_5 gT_5 ++ (wX3 (aT 6) (va_up aT_6 0 (aT 2)) yT_6 gT_6 ++ (wX10 (aT 7) aT_7 yT_7 gT_7 ++ (wX4 hT_8 aT_8 yT_8 gT_8 ++ (wX0 (aT_8 0) aT_8_0 yT_8_0 gT_8_0 ++ (oW wPl sp ++ (oW wCo ak ++ (oW (wRd (aT 0) (aT 2)) rd ++ (oW wSt k0 ++ (oW wSt k1 ++ (oW wSt k2 ++ (oW wSt k3 ++ (wX12 hM aM yM gM)))))))))))))))))) := Hx_perm X (pm_2721_2 _ _ _ _ _ _ _ _ _ _ _ _ _ _ _ _ _ _) (fun _ h => h)
  exact cont H locs ⟨aT, yT, aT_0, yT_0, aT_2, yT_2, aT_3, yT_3, aT_4, yT_4, aT_5, yT_5, aT_6, yT_6, aT_7, yT_7, hT_8, aT_8, yT_8, aT_8_0, yT_8_0, gT, gT_0, gT_2, gT_3, gT_4, gT_5, gT_6, gT_7, gT_8, gT_8_0, sp, ak, rd, k0, k1, k2, k3, kk, aM, yM, gM, tys, X, hty, hw.idle, h9, h10, h11, hk0, hk1, hk2, hk3⟩
theorem cs_7 (hh : T_c_X11_value) (hm : T_c_X12_value) {p : Program} {l : Launch} {e : Env} {s : State} {m : MethodId} {below : List Frame} {meth : Method} {c : Code} {D : Dx} {b L : Nat} {xs : Nat → Int32} {Z : State → Prop} (hL : L ≤ 3072) (C : Cx p s m #[Value.ref b] meth c cL_law ret 4 RL lw_all) (hts : ∀ w ∈ lw_tbl, w.before #[Value.ref b] s = true) (hX : va_X b L xs s s.heap) (hbl : b < s.heap.size) {hT hM N i : Nat} (hN : N < 512) (hi : i + 5 < L) {H : Heap} {locs : List Loc} (hI : LI D (fun q : Nat => s.heap.size ≤ q) s hT hM N H locs) {ls : Array Slot} {iv : Int32} (hiv : iv = nI i) (hl : lv_has ls 4 [(0, .ref b), (1, .ref hT), (2, .ref hM), (3, .int iv)]) (cont : ∀ (H1 : Heap) (locs1 : List Loc), LI D (fun q : Nat => s.heap.size ≤ q) s hT hM (N + 1) H1 locs1 → W p l e room_1 s m #[Value.ref b] below meth c H1 locs1 (200 + 36 * (N + 1)) (120000 + 10367 * (N + 1)) Z (F0 m 1150 ls [])) : W p l e room_1 s m #[Value.ref b] below meth c H locs (200 + 36 * N) (120000 + 10367 * N) Z (F0 m 349 ls []) := by
  obtain ⟨hx, hb, hr, hml, hown, -, hlk⟩ := id C
  have hbA : ¬ (fun q : Nat => s.heap.size ≤ q) b := Nat.not_le.mpr hbl
  have hin0 : vp_in iv L := by rw [hiv]; exact vp_in_nI (by omega) (by omega)
  have hin : ∀ k : Nat, k ≤ 5 → vp_in (iv + nI k) L := fun k hk => vp_in_add hiv (by omega) hL
  obtain ⟨aT, yT, aT_0, yT_0, aT_2, yT_2, aT_3, yT_3, aT_4, yT_4, aT_5, yT_5, aT_6, yT_6, aT_7, yT_7, hT_8, aT_8, yT_8, aT_8_0, yT_8_0, gT, gT_0, gT_2, gT_3, gT_4, gT_5, gT_6, gT_7, gT_8, gT_8_0, sp, ak, rd, k0, k1, k2, k3, kk, aM, yM, gM, tys, X, hty, hw, h9, h10, h11, hk0, hk1, hk2, hk3⟩ := hI
  have hn : 2000000 ≤ 2000000 := Nat.le_refl _
  obtain ⟨r, f2, f1⟩ := st_value hn (by omega) hw (xs (iv + (1 : Int32)).toNatClampNeg) (xs (iv + (2 : Int32)).toNatClampNeg)
  refine lv_aload_n hx hb dL_law_349 rfl (lv_at hl 1 rfl) ?_
  refine lv_aload_n hx hb dL_law_350 rfl (lv_at hl 0 rfl) ?_
  refine lv_iload_n hx hb dL_law_351 rfl (lv_at hl 3 rfl) ?_
  refine lv_iconst (v := (1 : Int32)) hx hb dL_law_352 (by decide) ?_
  refine lv_iadd hx hb dL_law_353 ?_
  refine va_sld hx hb hX hbl hbA X.2.2.2.1 (hin 1 (by decide)) dL_law_354 ?_
  refine lv_aload_n hx hb dL_law_355 rfl (lv_at hl 0 rfl) ?_
  refine lv_iload_n hx hb dL_law_356 rfl (lv_at hl 3 rfl) ?_
  refine lv_iconst (v := (2 : Int32)) hx hb dL_law_357 (by decide) ?_
  refine lv_iadd hx hb dL_law_358 ?_
  refine va_sld hx hb hX hbl hbA X.2.2.2.1 (hin 2 (by decide)) dL_law_359 ?_
  have X : Hx D tys (fun q : Nat => s.heap.size ≤ q) s H locs ((wX11 hT aT yT gT ++ (wX6 (aT 2) aT_2 yT_2 gT_2 ++ (wX9 (aT 3) aT_3 yT_3 gT_3 ++ (wX4 hT_8 aT_8 yT_8 gT_8)))) ++ (wTP (aT 0) aT_0 yT_0 gT_0 ++ (wKP (aT 4) aT_4 yT_4 gT_4 ++ (wX1 (aT 5) (va_up (va_up aT_5 0 (aT 2)) 1 (aT 3)) yT_5 gT_5 ++ (wX3 (aT 6) (va_up aT_6 0 (aT 2)) yT_6 gT_6 ++ (wX10 (aT 7) aT_7 yT_7 gT_7 ++ (wX0 (aT_8 0) aT_8_0 yT_8_0 gT_8_0 ++ (oW wPl sp ++ (oW wCo ak ++ (oW (wRd (aT 0) (aT 2)) rd ++ (oW wSt k0 ++ (oW wSt k1 ++ (oW wSt k2 ++ (oW wSt k3 ++ (wX12 hM aM yM gM))))))))))))))) := Hx_perm X (pm_2721_11 _ _ _ _ _ _ _ _ _ _ _ _ _ _ _ _ _ _) (fun _ h => h)
  refine hc_l (As := [.int (xs (iv + (1 : Int32)).toNatClampNeg), .int (xs (iv + (2 : Int32)).toNatClampNeg)]) (rest := []) C X (hh l D hT aT yT aT_2 yT_2 aT_3 yT_3 hT_8 aT_8 yT_8 2000000 gT gT_2 gT_3 gT_8 (xs (iv + (1 : Int32)).toNatClampNeg) (xs (iv + (2 : Int32)).toNatClampNeg) r f1 _) (cwV 2 C.2.2.2.2.2.1 (good_V q5_173 q5_174 q5_175 q1_1 q5_176) rfl rfl rfl (by decide +kernel) ⟨Nat.le_of_ble_eq_true rfl, Nat.le_of_ble_eq_true rfl⟩) (va_recv X.1 X.2.1 (ci := 11) (q0 := 0) rfl rfl) (fun q hq => hty q (by
    simp only [List.mem_append] at hq ⊢
    (repeat' (refine Or.elim hq ?_ ?_ <;> intro hq)) <;> simp [hq])) hl.1 rfl rfl (Nat.le_of_ble_eq_true rfl) dL_law_360 ⟨by show _ ≤ 218358; omega, by show _ ≤ 8447176; omega⟩ (fun H locs X => ?_)
  refine lv_aload_n hx hb dL_law_363 rfl (lv_at hl 2 rfl) ?_
  refine lv_aload_n hx hb dL_law_364 rfl (lv_at hl 0 rfl) ?_
  refine lv_iload_n hx hb dL_law_365 rfl (lv_at hl 3 rfl) ?_
  refine lv_iconst (v := (1 : Int32)) hx hb dL_law_366 (by decide) ?_
  refine lv_iadd hx hb dL_law_367 ?_
  refine va_sld hx hb hX hbl hbA X.2.2.2.1 (hin 1 (by decide)) dL_law_368 ?_
  refine lv_aload_n hx hb dL_law_369 rfl (lv_at hl 0 rfl) ?_
  refine lv_iload_n hx hb dL_law_370 rfl (lv_at hl 3 rfl) ?_
  refine lv_iconst (v := (2 : Int32)) hx hb dL_law_371 (by decide) ?_
  refine lv_iadd hx hb dL_law_372 ?_
  refine va_sld hx hb hX hbl hbA X.2.2.2.1 (hin 2 (by decide)) dL_law_373 ?_
  have X : Hx D tys (fun q : Nat => s.heap.size ≤ q) s H locs ((wX12 hM aM yM gM) ++ (wX11 hT aT yT gT ++ (wTP (aT 0) aT_0 yT_0 gT_0 ++ (wKP (aT 4) aT_4 yT_4 gT_4 ++ (wX6 (aT 2) aT_2 yT_2 gT_2 ++ (wX9 (aT 3) aT_3 yT_3 gT_3 ++ (wX1 (aT 5) (va_up (va_up aT_5 0 (aT 2)) 1 (aT 3)) yT_5 gT_5 ++ (wX3 (aT 6) (va_up aT_6 0 (aT 2)) yT_6 gT_6 ++ (wX10 (aT 7) aT_7 yT_7 gT_7 ++ (wX4 hT_8 aT_8 yT_8 gT_8 ++ (wX0 (aT_8 0) aT_8_0 yT_8_0 gT_8_0 ++ (oW wPl sp ++ (oW wCo ak ++ (oW (wRd (aT 0) (aT 2)) rd ++ (oW wSt k0 ++ (oW wSt k1 ++ (oW wSt k2 ++ (oW wSt k3)))))))))))))))))) := Hx_perm X (pm_2721_12 _ _ _ _ _ _ _ _ _ _ _ _ _ _ _ _ _ _) (fun _ h => h)
  refine hc_l (As := [.int (xs (iv + (1 : Int32)).toNatClampNeg), .int (xs (iv + (2 : Int32)).toNatClampNeg)]) (rest := [.long r]) C X (hm l D hM aM yM gM (xs (iv + (1 : Int32)).toNatClampNeg) (xs (iv + (2 : Int32)).toNatClampNeg) r f2 _) (cwV 2 C.2.2.2.2.2.1 (good_V q9_204 q9_205 q9_206 q1_9 q9_207) rfl rfl rfl (by decide +kernel) ⟨Nat.le_of_ble_eq_true rfl, Nat.le_of_ble_eq_true rfl⟩) (va_recv X.1 X.2.1 (ci := 12) (q0 := 0) rfl rfl) (fun q hq => hty q (by
    simp only [List.mem_append] at hq ⊢
    (repeat' (refine Or.elim hq ?_ ?_ <;> intro hq)) <;> simp [hq])) hl.1 rfl rfl (Nat.le_of_ble_eq_true rfl) dL_law_374 ⟨by show _ ≤ 218358; omega, by show _ ≤ 8447176; omega⟩ (fun H locs X => ?_)
  refine W.lcmp hx hb dL_law_377 ?_
  refine lv_if_eq (tgt := 1150) hx hb dL_law_378 (by decide) (fun _ => ?_) (fun c => absurd ((lg_cmp_eq _ _).mpr rfl) c)
  refine W.widen (k := (200 + 36 * (N + 1))) (n := (120000 + 10367 * (N + 1))) (by omega) (by omega) ?_
  have X : Hx D tys (fun q : Nat => s.heap.size ≤ q) s H locs (wX11 hT aT yT gT ++ (wTP (aT 0) aT_0 yT_0 gT_0 ++ (wKP (aT 4) aT_4 yT_4 gT_4 ++ (wX6 (aT 2) aT_2 yT_2 gT_2 ++ (wX9 (aT 3) aT_3 yT_3 gT_3 ++ (wX1 (aT 5) (va_up (va_up aT_5 0 (aT 2)) 1 (aT 3)) yT_5 gT_5 ++ (wX3 (aT 6) (va_up aT_6 0 (aT 2)) yT_6 gT_6 ++ (wX10 (aT 7) aT_7 yT_7 gT_7 ++ (wX4 hT_8 aT_8 yT_8 gT_8 ++ (wX0 (aT_8 0) aT_8_0 yT_8_0 gT_8_0 ++ (oW wPl sp ++ (oW wCo ak ++ (oW (wRd (aT 0) (aT 2)) rd ++ (oW wSt k0 ++ (oW wSt k1 ++ (oW wSt k2 ++ (oW wSt k3 ++ (wX12 hM aM yM gM)))))))))))))))))) := Hx_perm X (pm_2721_2 _ _ _ _ _ _ _ _ _ _ _ _ _ _ _ _ _ _) (fun _ h => h)
  exact cont H locs ⟨aT, yT, aT_0, yT_0, aT_2, yT_2, aT_3, yT_3, aT_4, yT_4, aT_5, yT_5, aT_6, yT_6, aT_7, yT_7, hT_8, aT_8, yT_8, aT_8_0, yT_8_0, gT, gT_0, gT_2, gT_3, gT_4, gT_5, gT_6, gT_7, gT_8, gT_8_0, sp, ak, rd, k0, k1, k2, k3, kk, aM, yM, gM, tys, X, hty, hw.idle, h9, h10, h11, hk0, hk1, hk2, hk3⟩
theorem cs_8 (hh : T_c_X11_set) (hm : T_c_X12_set) {p : Program} {l : Launch} {e : Env} {s : State} {m : MethodId} {below : List Frame} {meth : Method} {c : Code} {D : Dx} {b L : Nat} {xs : Nat → Int32} {Z : State → Prop} (hL : L ≤ 3072) (C : Cx p s m #[Value.ref b] meth c cL_law ret 4 RL lw_all) (hts : ∀ w ∈ lw_tbl, w.before #[Value.ref b] s = true) (hX : va_X b L xs s s.heap) (hbl : b < s.heap.size) {hT hM N i : Nat} (hN : N < 512) (hi : i + 5 < L) {H : Heap} {locs : List Loc} (hI : LI D (fun q : Nat => s.heap.size ≤ q) s hT hM N H locs) {ls : Array Slot} {iv : Int32} (hiv : iv = nI i) (hl : lv_has ls 4 [(0, .ref b), (1, .ref hT), (2, .ref hM), (3, .int iv)]) (cont : ∀ (H1 : Heap) (locs1 : List Loc), LI D (fun q : Nat => s.heap.size ≤ q) s hT hM (N + 1) H1 locs1 → W p l e room_1 s m #[Value.ref b] below meth c H1 locs1 (200 + 36 * (N + 1)) (120000 + 10367 * (N + 1)) Z (F0 m 1150 ls [])) : W p l e room_1 s m #[Value.ref b] below meth c H locs (200 + 36 * N) (120000 + 10367 * N) Z (F0 m 383 ls []) := by
  obtain ⟨hx, hb, hr, hml, hown, -, hlk⟩ := id C
  have hbA : ¬ (fun q : Nat => s.heap.size ≤ q) b := Nat.not_le.mpr hbl
  have hin0 : vp_in iv L := by rw [hiv]; exact vp_in_nI (by omega) (by omega)
  have hin : ∀ k : Nat, k ≤ 5 → vp_in (iv + nI k) L := fun k hk => vp_in_add hiv (by omega) hL
  obtain ⟨aT, yT, aT_0, yT_0, aT_2, yT_2, aT_3, yT_3, aT_4, yT_4, aT_5, yT_5, aT_6, yT_6, aT_7, yT_7, hT_8, aT_8, yT_8, aT_8_0, yT_8_0, gT, gT_0, gT_2, gT_3, gT_4, gT_5, gT_6, gT_7, gT_8, gT_8_0, sp, ak, rd, k0, k1, k2, k3, kk, aM, yM, gM, tys, X, hty, hw, h9, h10, h11, hk0, hk1, hk2, hk3⟩ := hI
  have hn : 2000000 ≤ 2000000 := Nat.le_refl _
  obtain ⟨r, gM', gT_3', f2, f1, hw'⟩ := st_set hw (xs (iv + (1 : Int32)).toNatClampNeg) (((xs (iv + (2 : Int32)).toNatClampNeg).toInt64 <<< ((32 : Int32).toInt64 &&& 63)) ||| ((xs (iv + (3 : Int32)).toNatClampNeg).toInt64 &&& (4294967295 : Int64)))
  refine lv_aload_n hx hb dL_law_383 rfl (lv_at hl 1 rfl) ?_
  refine lv_aload_n hx hb dL_law_384 rfl (lv_at hl 0 rfl) ?_
  refine lv_iload_n hx hb dL_law_385 rfl (lv_at hl 3 rfl) ?_
  refine lv_iconst (v := (1 : Int32)) hx hb dL_law_386 (by decide) ?_
  refine lv_iadd hx hb dL_law_387 ?_
  refine va_sld hx hb hX hbl hbA X.2.2.2.1 (hin 1 (by decide)) dL_law_388 ?_
  refine lv_aload_n hx hb dL_law_389 rfl (lv_at hl 0 rfl) ?_
  refine lv_iload_n hx hb dL_law_390 rfl (lv_at hl 3 rfl) ?_
  refine lv_iconst (v := (2 : Int32)) hx hb dL_law_391 (by decide) ?_
  refine lv_iadd hx hb dL_law_392 ?_
  refine va_sld hx hb hX hbl hbA X.2.2.2.1 (hin 2 (by decide)) dL_law_393 ?_
  refine lv_i2l hx hb dL_law_394 rfl ?_
  refine lv_bipush (v := (32 : Int32)) hx hb dL_law_395 (by decide) ?_
  refine lv_lshl hx hb dL_law_397 rfl ?_
  refine lv_aload_n hx hb dL_law_398 rfl (lv_at hl 0 rfl) ?_
  refine lv_iload_n hx hb dL_law_399 rfl (lv_at hl 3 rfl) ?_
  refine lv_iconst (v := (3 : Int32)) hx hb dL_law_400 (by decide) ?_
  refine lv_iadd hx hb dL_law_401 ?_
  refine va_sld hx hb hX hbl hbA X.2.2.2.1 (hin 3 (by decide)) dL_law_402 ?_
  refine lv_i2l hx hb dL_law_403 rfl ?_
  refine lv_ldc2 hx hb hown (hts _ (lw_all_tbl q10_51)) dL_law_404 ?_
  refine lv_land hx hb dL_law_407 ?_
  refine lv_lor hx hb dL_law_408 ?_
  have X : Hx D tys (fun q : Nat => s.heap.size ≤ q) s H locs ((wX11 hT aT yT gT ++ (wX6 (aT 2) aT_2 yT_2 gT_2 ++ (wX9 (aT 3) aT_3 yT_3 gT_3 ++ (wX4 hT_8 aT_8 yT_8 gT_8)))) ++ (wTP (aT 0) aT_0 yT_0 gT_0 ++ (wKP (aT 4) aT_4 yT_4 gT_4 ++ (wX1 (aT 5) (va_up (va_up aT_5 0 (aT 2)) 1 (aT 3)) yT_5 gT_5 ++ (wX3 (aT 6) (va_up aT_6 0 (aT 2)) yT_6 gT_6 ++ (wX10 (aT 7) aT_7 yT_7 gT_7 ++ (wX0 (aT_8 0) aT_8_0 yT_8_0 gT_8_0 ++ (oW wPl sp ++ (oW wCo ak ++ (oW (wRd (aT 0) (aT 2)) rd ++ (oW wSt k0 ++ (oW wSt k1 ++ (oW wSt k2 ++ (oW wSt k3 ++ (wX12 hM aM yM gM))))))))))))))) := Hx_perm X (pm_2721_11 _ _ _ _ _ _ _ _ _ _ _ _ _ _ _ _ _ _) (fun _ h => h)
  refine hc_i (As := [.int (xs (iv + (1 : Int32)).toNatClampNeg), .long (((xs (iv + (2 : Int32)).toNatClampNeg).toInt64 <<< ((32 : Int32).toInt64 &&& 63)) ||| ((xs (iv + (3 : Int32)).toNatClampNeg).toInt64 &&& (4294967295 : Int64)))]) (rest := []) C X (hh l D hT aT yT aT_2 yT_2 aT_3 yT_3 hT_8 aT_8 yT_8 gT gT_2 gT_3 gT_8 (xs (iv + (1 : Int32)).toNatClampNeg) (((xs (iv + (2 : Int32)).toNatClampNeg).toInt64 <<< ((32 : Int32).toInt64 &&& 63)) ||| ((xs (iv + (3 : Int32)).toNatClampNeg).toInt64 &&& (4294967295 : Int64))) (r, gT_3') f1 _) (cwV 2 C.2.2.2.2.2.1 (good_V q5_200 q5_201 q5_202 q1_1 q5_203) rfl rfl rfl (by decide +kernel) ⟨Nat.le_of_ble_eq_true rfl, Nat.le_of_ble_eq_true rfl⟩) (va_recv X.1 X.2.1 (ci := 11) (q0 := 0) rfl rfl) (fun q hq => hty q (by
    simp only [List.mem_append] at hq ⊢
    (repeat' (refine Or.elim hq ?_ ?_ <;> intro hq)) <;> simp [hq])) hl.1 rfl rfl (Nat.le_of_ble_eq_true rfl) dL_law_409 ⟨by show _ ≤ 218358; omega, by show _ ≤ 8447176; omega⟩ (fun H locs X => ?_)
  refine lv_aload_n hx hb dL_law_412 rfl (lv_at hl 2 rfl) ?_
  refine lv_aload_n hx hb dL_law_413 rfl (lv_at hl 0 rfl) ?_
  refine lv_iload_n hx hb dL_law_414 rfl (lv_at hl 3 rfl) ?_
  refine lv_iconst (v := (1 : Int32)) hx hb dL_law_415 (by decide) ?_
  refine lv_iadd hx hb dL_law_416 ?_
  refine va_sld hx hb hX hbl hbA X.2.2.2.1 (hin 1 (by decide)) dL_law_417 ?_
  refine lv_aload_n hx hb dL_law_418 rfl (lv_at hl 0 rfl) ?_
  refine lv_iload_n hx hb dL_law_419 rfl (lv_at hl 3 rfl) ?_
  refine lv_iconst (v := (2 : Int32)) hx hb dL_law_420 (by decide) ?_
  refine lv_iadd hx hb dL_law_421 ?_
  refine va_sld hx hb hX hbl hbA X.2.2.2.1 (hin 2 (by decide)) dL_law_422 ?_
  refine lv_i2l hx hb dL_law_423 rfl ?_
  refine lv_bipush (v := (32 : Int32)) hx hb dL_law_424 (by decide) ?_
  refine lv_lshl hx hb dL_law_426 rfl ?_
  refine lv_aload_n hx hb dL_law_427 rfl (lv_at hl 0 rfl) ?_
  refine lv_iload_n hx hb dL_law_428 rfl (lv_at hl 3 rfl) ?_
  refine lv_iconst (v := (3 : Int32)) hx hb dL_law_429 (by decide) ?_
  refine lv_iadd hx hb dL_law_430 ?_
  refine va_sld hx hb hX hbl hbA X.2.2.2.1 (hin 3 (by decide)) dL_law_431 ?_
  refine lv_i2l hx hb dL_law_432 rfl ?_
  refine lv_ldc2 hx hb hown (hts _ (lw_all_tbl q10_51)) dL_law_433 ?_
  refine lv_land hx hb dL_law_436 ?_
  refine lv_lor hx hb dL_law_437 ?_
  have X : Hx D tys (fun q : Nat => s.heap.size ≤ q) s H locs ((wX12 hM aM yM gM) ++ (wX11 hT aT yT gT ++ (wTP (aT 0) aT_0 yT_0 gT_0 ++ (wKP (aT 4) aT_4 yT_4 gT_4 ++ (wX6 (aT 2) aT_2 yT_2 gT_2 ++ (wX9 (aT 3) aT_3 yT_3 gT_3' ++ (wX1 (aT 5) (va_up (va_up aT_5 0 (aT 2)) 1 (aT 3)) yT_5 gT_5 ++ (wX3 (aT 6) (va_up aT_6 0 (aT 2)) yT_6 gT_6 ++ (wX10 (aT 7) aT_7 yT_7 gT_7 ++ (wX4 hT_8 aT_8 yT_8 gT_8 ++ (wX0 (aT_8 0) aT_8_0 yT_8_0 gT_8_0 ++ (oW wPl sp ++ (oW wCo ak ++ (oW (wRd (aT 0) (aT 2)) rd ++ (oW wSt k0 ++ (oW wSt k1 ++ (oW wSt k2 ++ (oW wSt k3)))))))))))))))))) := Hx_perm X (pm_2721_12 _ _ _ _ _ _ _ _ _ _ _ _ _ _ _ _ _ _) (fun _ h => h)
  refine hc_i (As := [.int (xs (iv + (1 : Int32)).toNatClampNeg), .long (((xs (iv + (2 : Int32)).toNatClampNeg).toInt64 <<< ((32 : Int32).toInt64 &&& 63)) ||| ((xs (iv + (3 : Int32)).toNatClampNeg).toInt64 &&& (4294967295 : Int64)))]) (rest := [.int r]) C X (hm l D hM aM yM gM (xs (iv + (1 : Int32)).toNatClampNeg) (((xs (iv + (2 : Int32)).toNatClampNeg).toInt64 <<< ((32 : Int32).toInt64 &&& 63)) ||| ((xs (iv + (3 : Int32)).toNatClampNeg).toInt64 &&& (4294967295 : Int64))) (r, gM') f2 _) (cwV 2 C.2.2.2.2.2.1 (good_V q9_208 q9_209 q9_210 q1_9 q9_211) rfl rfl rfl (by decide +kernel) ⟨Nat.le_of_ble_eq_true rfl, Nat.le_of_ble_eq_true rfl⟩) (va_recv X.1 X.2.1 (ci := 12) (q0 := 0) rfl rfl) (fun q hq => hty q (by
    simp only [List.mem_append] at hq ⊢
    (repeat' (refine Or.elim hq ?_ ?_ <;> intro hq)) <;> simp [hq])) hl.1 rfl rfl (Nat.le_of_ble_eq_true rfl) dL_law_438 ⟨by show _ ≤ 218358; omega, by show _ ≤ 8447176; omega⟩ (fun H locs X => ?_)
  refine lv_icmp_eq (tgt := 1150) hx hb dL_law_441 (by decide) (fun _ => ?_) (fun c => absurd rfl c)
  refine W.widen (k := (200 + 36 * (N + 1))) (n := (120000 + 10367 * (N + 1))) (by omega) (by omega) ?_
  have X : Hx D tys (fun q : Nat => s.heap.size ≤ q) s H locs (wX11 hT aT yT gT ++ (wTP (aT 0) aT_0 yT_0 gT_0 ++ (wKP (aT 4) aT_4 yT_4 gT_4 ++ (wX6 (aT 2) aT_2 yT_2 gT_2 ++ (wX9 (aT 3) aT_3 yT_3 gT_3' ++ (wX1 (aT 5) (va_up (va_up aT_5 0 (aT 2)) 1 (aT 3)) yT_5 gT_5 ++ (wX3 (aT 6) (va_up aT_6 0 (aT 2)) yT_6 gT_6 ++ (wX10 (aT 7) aT_7 yT_7 gT_7 ++ (wX4 hT_8 aT_8 yT_8 gT_8 ++ (wX0 (aT_8 0) aT_8_0 yT_8_0 gT_8_0 ++ (oW wPl sp ++ (oW wCo ak ++ (oW (wRd (aT 0) (aT 2)) rd ++ (oW wSt k0 ++ (oW wSt k1 ++ (oW wSt k2 ++ (oW wSt k3 ++ (wX12 hM aM yM gM')))))))))))))))))) := Hx_perm X (pm_2721_2 _ _ _ _ _ _ _ _ _ _ _ _ _ _ _ _ _ _) (fun _ h => h)
  exact cont H locs ⟨aT, yT, aT_0, yT_0, aT_2, yT_2, aT_3, yT_3, aT_4, yT_4, aT_5, yT_5, aT_6, yT_6, aT_7, yT_7, hT_8, aT_8, yT_8, aT_8_0, yT_8_0, gT, gT_0, gT_2, gT_3', gT_4, gT_5, gT_6, gT_7, gT_8, gT_8_0, sp, ak, rd, k0, k1, k2, k3, kk, aM, yM, gM', tys, X, hty, hw', h9, h10, h11, hk0, hk1, hk2, hk3⟩
theorem cs_9 (hh : T_c_X11_step) (hm : T_c_X12_step) {p : Program} {l : Launch} {e : Env} {s : State} {m : MethodId} {below : List Frame} {meth : Method} {c : Code} {D : Dx} {b L : Nat} {xs : Nat → Int32} {Z : State → Prop} (hL : L ≤ 3072) (C : Cx p s m #[Value.ref b] meth c cL_law ret 4 RL lw_all) (hts : ∀ w ∈ lw_tbl, w.before #[Value.ref b] s = true) (hX : va_X b L xs s s.heap) (hbl : b < s.heap.size) {hT hM N i : Nat} (hN : N < 512) (hi : i + 5 < L) {H : Heap} {locs : List Loc} (hI : LI D (fun q : Nat => s.heap.size ≤ q) s hT hM N H locs) {ls : Array Slot} {iv : Int32} (hiv : iv = nI i) (hl : lv_has ls 4 [(0, .ref b), (1, .ref hT), (2, .ref hM), (3, .int iv)]) (cont : ∀ (H1 : Heap) (locs1 : List Loc), LI D (fun q : Nat => s.heap.size ≤ q) s hT hM (N + 1) H1 locs1 → W p l e room_1 s m #[Value.ref b] below meth c H1 locs1 (200 + 36 * (N + 1)) (120000 + 10367 * (N + 1)) Z (F0 m 1150 ls [])) : W p l e room_1 s m #[Value.ref b] below meth c H locs (200 + 36 * N) (120000 + 10367 * N) Z (F0 m 446 ls []) := by
  obtain ⟨hx, hb, hr, hml, hown, -, hlk⟩ := id C
  have hbA : ¬ (fun q : Nat => s.heap.size ≤ q) b := Nat.not_le.mpr hbl
  have hin0 : vp_in iv L := by rw [hiv]; exact vp_in_nI (by omega) (by omega)
  have hin : ∀ k : Nat, k ≤ 5 → vp_in (iv + nI k) L := fun k hk => vp_in_add hiv (by omega) hL
  obtain ⟨aT, yT, aT_0, yT_0, aT_2, yT_2, aT_3, yT_3, aT_4, yT_4, aT_5, yT_5, aT_6, yT_6, aT_7, yT_7, hT_8, aT_8, yT_8, aT_8_0, yT_8_0, gT, gT_0, gT_2, gT_3, gT_4, gT_5, gT_6, gT_7, gT_8, gT_8_0, sp, ak, rd, k0, k1, k2, k3, kk, aM, yM, gM, tys, X, hty, hw, h9, h10, h11, hk0, hk1, hk2, hk3⟩ := hI
  have hn : 2000000 ≤ 2000000 := Nat.le_refl _
  obtain ⟨r, gM', gT_3', f2, f1, hw'⟩ := st_step hw (((xs (iv + (1 : Int32)).toNatClampNeg).toInt64 <<< ((32 : Int32).toInt64 &&& 63)) ||| ((xs (iv + (2 : Int32)).toNatClampNeg).toInt64 &&& (4294967295 : Int64)))
  refine lv_aload_n hx hb dL_law_446 rfl (lv_at hl 1 rfl) ?_
  refine lv_aload_n hx hb dL_law_447 rfl (lv_at hl 0 rfl) ?_
  refine lv_iload_n hx hb dL_law_448 rfl (lv_at hl 3 rfl) ?_
  refine lv_iconst (v := (1 : Int32)) hx hb dL_law_449 (by decide) ?_
  refine lv_iadd hx hb dL_law_450 ?_
  refine va_sld hx hb hX hbl hbA X.2.2.2.1 (hin 1 (by decide)) dL_law_451 ?_
  refine lv_i2l hx hb dL_law_452 rfl ?_
  refine lv_bipush (v := (32 : Int32)) hx hb dL_law_453 (by decide) ?_
  refine lv_lshl hx hb dL_law_455 rfl ?_
  refine lv_aload_n hx hb dL_law_456 rfl (lv_at hl 0 rfl) ?_
  refine lv_iload_n hx hb dL_law_457 rfl (lv_at hl 3 rfl) ?_
  refine lv_iconst (v := (2 : Int32)) hx hb dL_law_458 (by decide) ?_
  refine lv_iadd hx hb dL_law_459 ?_
  refine va_sld hx hb hX hbl hbA X.2.2.2.1 (hin 2 (by decide)) dL_law_460 ?_
  refine lv_i2l hx hb dL_law_461 rfl ?_
  refine lv_ldc2 hx hb hown (hts _ (lw_all_tbl q10_51)) dL_law_462 ?_
  refine lv_land hx hb dL_law_465 ?_
  refine lv_lor hx hb dL_law_466 ?_
  have X : Hx D tys (fun q : Nat => s.heap.size ≤ q) s H locs ((wX11 hT aT yT gT ++ (wX6 (aT 2) aT_2 yT_2 gT_2 ++ (wX9 (aT 3) aT_3 yT_3 gT_3))) ++ (wTP (aT 0) aT_0 yT_0 gT_0 ++ (wKP (aT 4) aT_4 yT_4 gT_4 ++ (wX1 (aT 5) (va_up (va_up aT_5 0 (aT 2)) 1 (aT 3)) yT_5 gT_5 ++ (wX3 (aT 6) (va_up aT_6 0 (aT 2)) yT_6 gT_6 ++ (wX10 (aT 7) aT_7 yT_7 gT_7 ++ (wX4 hT_8 aT_8 yT_8 gT_8 ++ (wX0 (aT_8 0) aT_8_0 yT_8_0 gT_8_0 ++ (oW wPl sp ++ (oW wCo ak ++ (oW (wRd (aT 0) (aT 2)) rd ++ (oW wSt k0 ++ (oW wSt k1 ++ (oW wSt k2 ++ (oW wSt k3 ++ (wX12 hM aM yM gM)))))))))))))))) := Hx_perm X (pm_2721_13 _ _ _ _ _ _ _ _ _ _ _ _ _ _ _ _ _ _) (fun _ h => h)
  refine hc_i (As := [.long (((xs (iv + (1 : Int32)).toNatClampNeg).toInt64 <<< ((32 : Int32).toInt64 &&& 63)) ||| ((xs (iv + (2 : Int32)).toNatClampNeg).toInt64 &&& (4294967295 : Int64)))]) (rest := []) C X (hh l D hT aT yT aT_2 yT_2 aT_3 yT_3 gT gT_2 gT_3 (((xs (iv + (1 : Int32)).toNatClampNeg).toInt64 <<< ((32 : Int32).toInt64 &&& 63)) ||| ((xs (iv + (2 : Int32)).toNatClampNeg).toInt64 &&& (4294967295 : Int64))) (r, gT_3') f1 _) (cwV 1 C.2.2.2.2.2.1 (good_V q5_223 q5_224 q5_225 q1_1 q5_226) rfl rfl rfl (by decide +kernel) ⟨Nat.le_of_ble_eq_true rfl, Nat.le_of_ble_eq_true rfl⟩) (va_recv X.1 X.2.1 (ci := 11) (q0 := 0) rfl rfl) (fun q hq => hty q (by
    simp only [List.mem_append] at hq ⊢
    (repeat' (refine Or.elim hq ?_ ?_ <;> intro hq)) <;> simp [hq])) hl.1 rfl rfl (Nat.le_of_ble_eq_true rfl) dL_law_467 ⟨by show _ ≤ 218358; omega, by show _ ≤ 8447176; omega⟩ (fun H locs X => ?_)
  refine lv_aload_n hx hb dL_law_470 rfl (lv_at hl 2 rfl) ?_
  refine lv_aload_n hx hb dL_law_471 rfl (lv_at hl 0 rfl) ?_
  refine lv_iload_n hx hb dL_law_472 rfl (lv_at hl 3 rfl) ?_
  refine lv_iconst (v := (1 : Int32)) hx hb dL_law_473 (by decide) ?_
  refine lv_iadd hx hb dL_law_474 ?_
  refine va_sld hx hb hX hbl hbA X.2.2.2.1 (hin 1 (by decide)) dL_law_475 ?_
  refine lv_i2l hx hb dL_law_476 rfl ?_
  refine lv_bipush (v := (32 : Int32)) hx hb dL_law_477 (by decide) ?_
  refine lv_lshl hx hb dL_law_479 rfl ?_
  refine lv_aload_n hx hb dL_law_480 rfl (lv_at hl 0 rfl) ?_
  refine lv_iload_n hx hb dL_law_481 rfl (lv_at hl 3 rfl) ?_
  refine lv_iconst (v := (2 : Int32)) hx hb dL_law_482 (by decide) ?_
  refine lv_iadd hx hb dL_law_483 ?_
  refine va_sld hx hb hX hbl hbA X.2.2.2.1 (hin 2 (by decide)) dL_law_484 ?_
  refine lv_i2l hx hb dL_law_485 rfl ?_
  refine lv_ldc2 hx hb hown (hts _ (lw_all_tbl q10_51)) dL_law_486 ?_
  refine lv_land hx hb dL_law_489 ?_
  refine lv_lor hx hb dL_law_490 ?_
  have X : Hx D tys (fun q : Nat => s.heap.size ≤ q) s H locs ((wX12 hM aM yM gM) ++ (wX11 hT aT yT gT ++ (wTP (aT 0) aT_0 yT_0 gT_0 ++ (wKP (aT 4) aT_4 yT_4 gT_4 ++ (wX6 (aT 2) aT_2 yT_2 gT_2 ++ (wX9 (aT 3) aT_3 yT_3 gT_3' ++ (wX1 (aT 5) (va_up (va_up aT_5 0 (aT 2)) 1 (aT 3)) yT_5 gT_5 ++ (wX3 (aT 6) (va_up aT_6 0 (aT 2)) yT_6 gT_6 ++ (wX10 (aT 7) aT_7 yT_7 gT_7 ++ (wX4 hT_8 aT_8 yT_8 gT_8 ++ (wX0 (aT_8 0) aT_8_0 yT_8_0 gT_8_0 ++ (oW wPl sp ++ (oW wCo ak ++ (oW (wRd (aT 0) (aT 2)) rd ++ (oW wSt k0 ++ (oW wSt k1 ++ (oW wSt k2 ++ (oW wSt k3)))))))))))))))))) := Hx_perm X (pm_2721_14 _ _ _ _ _ _ _ _ _ _ _ _ _ _ _ _ _ _) (fun _ h => h)
  refine hc_i (As := [.long (((xs (iv + (1 : Int32)).toNatClampNeg).toInt64 <<< ((32 : Int32).toInt64 &&& 63)) ||| ((xs (iv + (2 : Int32)).toNatClampNeg).toInt64 &&& (4294967295 : Int64)))]) (rest := [.int r]) C X (hm l D hM aM yM gM (((xs (iv + (1 : Int32)).toNatClampNeg).toInt64 <<< ((32 : Int32).toInt64 &&& 63)) ||| ((xs (iv + (2 : Int32)).toNatClampNeg).toInt64 &&& (4294967295 : Int64))) (r, gM') f2 _) (cwV 1 C.2.2.2.2.2.1 (good_V q9_212 q9_213 q9_214 q1_9 q9_215) rfl rfl rfl (by decide +kernel) ⟨Nat.le_of_ble_eq_true rfl, Nat.le_of_ble_eq_true rfl⟩) (va_recv X.1 X.2.1 (ci := 12) (q0 := 0) rfl rfl) (fun q hq => hty q (by
    simp only [List.mem_append] at hq ⊢
    (repeat' (refine Or.elim hq ?_ ?_ <;> intro hq)) <;> simp [hq])) hl.1 rfl rfl (Nat.le_of_ble_eq_true rfl) dL_law_491 ⟨by show _ ≤ 218358; omega, by show _ ≤ 8447176; omega⟩ (fun H locs X => ?_)
  refine lv_icmp_eq (tgt := 1150) hx hb dL_law_494 (by decide) (fun _ => ?_) (fun c => absurd rfl c)
  refine W.widen (k := (200 + 36 * (N + 1))) (n := (120000 + 10367 * (N + 1))) (by omega) (by omega) ?_
  have X : Hx D tys (fun q : Nat => s.heap.size ≤ q) s H locs (wX11 hT aT yT gT ++ (wTP (aT 0) aT_0 yT_0 gT_0 ++ (wKP (aT 4) aT_4 yT_4 gT_4 ++ (wX6 (aT 2) aT_2 yT_2 gT_2 ++ (wX9 (aT 3) aT_3 yT_3 gT_3' ++ (wX1 (aT 5) (va_up (va_up aT_5 0 (aT 2)) 1 (aT 3)) yT_5 gT_5 ++ (wX3 (aT 6) (va_up aT_6 0 (aT 2)) yT_6 gT_6 ++ (wX10 (aT 7) aT_7 yT_7 gT_7 ++ (wX4 hT_8 aT_8 yT_8 gT_8 ++ (wX0 (aT_8 0) aT_8_0 yT_8_0 gT_8_0 ++ (oW wPl sp ++ (oW wCo ak ++ (oW (wRd (aT 0) (aT 2)) rd ++ (oW wSt k0 ++ (oW wSt k1 ++ (oW wSt k2 ++ (oW wSt k3 ++ (wX12 hM aM yM gM')))))))))))))))))) := Hx_perm X (pm_2721_2 _ _ _ _ _ _ _ _ _ _ _ _ _ _ _ _ _ _) (fun _ h => h)
  exact cont H locs ⟨aT, yT, aT_0, yT_0, aT_2, yT_2, aT_3, yT_3, aT_4, yT_4, aT_5, yT_5, aT_6, yT_6, aT_7, yT_7, hT_8, aT_8, yT_8, aT_8_0, yT_8_0, gT, gT_0, gT_2, gT_3', gT_4, gT_5, gT_6, gT_7, gT_8, gT_8_0, sp, ak, rd, k0, k1, k2, k3, kk, aM, yM, gM', tys, X, hty, hw', h9, h10, h11, hk0, hk1, hk2, hk3⟩
theorem cs_10 (hh : T_c_X11_tick) (hm : T_c_X12_tick) {p : Program} {l : Launch} {e : Env} {s : State} {m : MethodId} {below : List Frame} {meth : Method} {c : Code} {D : Dx} {b L : Nat} {xs : Nat → Int32} {Z : State → Prop} (hL : L ≤ 3072) (C : Cx p s m #[Value.ref b] meth c cL_law ret 4 RL lw_all) (hts : ∀ w ∈ lw_tbl, w.before #[Value.ref b] s = true) (hX : va_X b L xs s s.heap) (hbl : b < s.heap.size) {hT hM N i : Nat} (hN : N < 512) (hi : i + 5 < L) {H : Heap} {locs : List Loc} (hI : LI D (fun q : Nat => s.heap.size ≤ q) s hT hM N H locs) {ls : Array Slot} {iv : Int32} (hiv : iv = nI i) (hl : lv_has ls 4 [(0, .ref b), (1, .ref hT), (2, .ref hM), (3, .int iv)]) (cont : ∀ (H1 : Heap) (locs1 : List Loc), LI D (fun q : Nat => s.heap.size ≤ q) s hT hM (N + 1) H1 locs1 → W p l e room_1 s m #[Value.ref b] below meth c H1 locs1 (200 + 36 * (N + 1)) (120000 + 10367 * (N + 1)) Z (F0 m 1150 ls [])) : W p l e room_1 s m #[Value.ref b] below meth c H locs (200 + 36 * N) (120000 + 10367 * N) Z (F0 m 499 ls []) := by
  obtain ⟨hx, hb, hr, hml, hown, -, hlk⟩ := id C
  have hbA : ¬ (fun q : Nat => s.heap.size ≤ q) b := Nat.not_le.mpr hbl
  have hin0 : vp_in iv L := by rw [hiv]; exact vp_in_nI (by omega) (by omega)
  have hin : ∀ k : Nat, k ≤ 5 → vp_in (iv + nI k) L := fun k hk => vp_in_add hiv (by omega) hL
  obtain ⟨aT, yT, aT_0, yT_0, aT_2, yT_2, aT_3, yT_3, aT_4, yT_4, aT_5, yT_5, aT_6, yT_6, aT_7, yT_7, hT_8, aT_8, yT_8, aT_8_0, yT_8_0, gT, gT_0, gT_2, gT_3, gT_4, gT_5, gT_6, gT_7, gT_8, gT_8_0, sp, ak, rd, k0, k1, k2, k3, kk, aM, yM, gM, tys, X, hty, hw, h9, h10, h11, hk0, hk1, hk2, hk3⟩ := hI
  have hn : 2000000 ≤ 2000000 := Nat.le_refl _
  obtain ⟨r, gM', gT_3', gT_5', f2, f1, hw'⟩ := st_tick hn (by omega) gT_5 hw (xs (iv + (1 : Int32)).toNatClampNeg)
  refine lv_aload_n hx hb dL_law_499 rfl (lv_at hl 1 rfl) ?_
  refine lv_aload_n hx hb dL_law_500 rfl (lv_at hl 0 rfl) ?_
  refine lv_iload_n hx hb dL_law_501 rfl (lv_at hl 3 rfl) ?_
  refine lv_iconst (v := (1 : Int32)) hx hb dL_law_502 (by decide) ?_
  refine lv_iadd hx hb dL_law_503 ?_
  refine va_sld hx hb hX hbl hbA X.2.2.2.1 (hin 1 (by decide)) dL_law_504 ?_
  have X : Hx D tys (fun q : Nat => s.heap.size ≤ q) s H locs ((wX11 hT aT yT gT ++ (wX6 (aT 2) aT_2 yT_2 gT_2 ++ (wX9 (aT 3) aT_3 yT_3 gT_3 ++ (wX1 (aT 5) (va_up (va_up aT_5 0 (aT 2)) 1 (aT 3)) yT_5 gT_5 ++ (wX4 hT_8 aT_8 yT_8 gT_8 ++ (wX0 (aT_8 0) aT_8_0 yT_8_0 gT_8_0)))))) ++ (wTP (aT 0) aT_0 yT_0 gT_0 ++ (wKP (aT 4) aT_4 yT_4 gT_4 ++ (wX3 (aT 6) (va_up aT_6 0 (aT 2)) yT_6 gT_6 ++ (wX10 (aT 7) aT_7 yT_7 gT_7 ++ (oW wPl sp ++ (oW wCo ak ++ (oW (wRd (aT 0) (aT 2)) rd ++ (oW wSt k0 ++ (oW wSt k1 ++ (oW wSt k2 ++ (oW wSt k3 ++ (wX12 hM aM yM gM))))))))))))) := Hx_perm X (pm_2721_15 _ _ _ _ _ _ _ _ _ _ _ _ _ _ _ _ _ _) (fun _ h => h)
  refine hc_l (As := [.int (xs (iv + (1 : Int32)).toNatClampNeg)]) (rest := []) C X (hh l D hT aT yT aT_2 yT_2 aT_3 yT_3 aT_5 yT_5 hT_8 aT_8 yT_8 aT_8_0 yT_8_0 2000000 gT gT_2 gT_3 gT_5 gT_8 gT_8_0 (xs (iv + (1 : Int32)).toNatClampNeg) (r, gT_3', gT_5') f1 _) (cwV 1 C.2.2.2.2.2.1 (good_V q5_227 q5_228 q5_229 q1_1 q5_230) rfl rfl rfl (by decide +kernel) ⟨Nat.le_of_ble_eq_true rfl, Nat.le_of_ble_eq_true rfl⟩) (va_recv X.1 X.2.1 (ci := 11) (q0 := 0) rfl rfl) (fun q hq => hty q (by
    simp only [List.mem_append] at hq ⊢
    (repeat' (refine Or.elim hq ?_ ?_ <;> intro hq)) <;> simp [hq])) hl.1 rfl rfl (Nat.le_of_ble_eq_true rfl) dL_law_505 ⟨by show _ ≤ 218358; omega, by show _ ≤ 8447176; omega⟩ (fun H locs X => ?_)
  refine lv_aload_n hx hb dL_law_508 rfl (lv_at hl 2 rfl) ?_
  refine lv_aload_n hx hb dL_law_509 rfl (lv_at hl 0 rfl) ?_
  refine lv_iload_n hx hb dL_law_510 rfl (lv_at hl 3 rfl) ?_
  refine lv_iconst (v := (1 : Int32)) hx hb dL_law_511 (by decide) ?_
  refine lv_iadd hx hb dL_law_512 ?_
  refine va_sld hx hb hX hbl hbA X.2.2.2.1 (hin 1 (by decide)) dL_law_513 ?_
  have X : Hx D tys (fun q : Nat => s.heap.size ≤ q) s H locs ((wX12 hM aM yM gM) ++ (wX11 hT aT yT gT ++ (wTP (aT 0) aT_0 yT_0 gT_0 ++ (wKP (aT 4) aT_4 yT_4 gT_4 ++ (wX6 (aT 2) aT_2 yT_2 gT_2 ++ (wX9 (aT 3) aT_3 yT_3 gT_3' ++ (wX1 (aT 5) (va_up (va_up aT_5 0 (aT 2)) 1 (aT 3)) yT_5 gT_5' ++ (wX3 (aT 6) (va_up aT_6 0 (aT 2)) yT_6 gT_6 ++ (wX10 (aT 7) aT_7 yT_7 gT_7 ++ (wX4 hT_8 aT_8 yT_8 gT_8 ++ (wX0 (aT_8 0) aT_8_0 yT_8_0 gT_8_0 ++ (oW wPl sp ++ (oW wCo ak ++ (oW (wRd (aT 0) (aT 2)) rd ++ (oW wSt k0 ++ (oW wSt k1 ++ (oW wSt k2 ++ (oW wSt k3)))))))))))))))))) := Hx_perm X (pm_2721_16 _ _ _ _ _ _ _ _ _ _ _ _ _ _ _ _ _ _) (fun _ h => h)
  refine hc_l (As := [.int (xs (iv + (1 : Int32)).toNatClampNeg)]) (rest := [.long r]) C X (hm l D hM aM yM 2000000 gM (xs (iv + (1 : Int32)).toNatClampNeg) (r, gM') f2 _) (cwV 1 C.2.2.2.2.2.1 (good_V q9_180 q9_181 q9_182 q1_9 q9_183) rfl rfl rfl (by decide +kernel) ⟨Nat.le_of_ble_eq_true rfl, Nat.le_of_ble_eq_true rfl⟩) (va_recv X.1 X.2.1 (ci := 12) (q0 := 0) rfl rfl) (fun q hq => hty q (by
    simp only [List.mem_append] at hq ⊢
    (repeat' (refine Or.elim hq ?_ ?_ <;> intro hq)) <;> simp [hq])) hl.1 rfl rfl (Nat.le_of_ble_eq_true rfl) dL_law_514 ⟨by show _ ≤ 218358; omega, by show _ ≤ 8447176; omega⟩ (fun H locs X => ?_)
  refine W.lcmp hx hb dL_law_517 ?_
  refine lv_if_eq (tgt := 1150) hx hb dL_law_518 (by decide) (fun _ => ?_) (fun c => absurd ((lg_cmp_eq _ _).mpr rfl) c)
  refine W.widen (k := (200 + 36 * (N + 1))) (n := (120000 + 10367 * (N + 1))) (by omega) (by omega) ?_
  have X : Hx D tys (fun q : Nat => s.heap.size ≤ q) s H locs (wX11 hT aT yT gT ++ (wTP (aT 0) aT_0 yT_0 gT_0 ++ (wKP (aT 4) aT_4 yT_4 gT_4 ++ (wX6 (aT 2) aT_2 yT_2 gT_2 ++ (wX9 (aT 3) aT_3 yT_3 gT_3' ++ (wX1 (aT 5) (va_up (va_up aT_5 0 (aT 2)) 1 (aT 3)) yT_5 gT_5' ++ (wX3 (aT 6) (va_up aT_6 0 (aT 2)) yT_6 gT_6 ++ (wX10 (aT 7) aT_7 yT_7 gT_7 ++ (wX4 hT_8 aT_8 yT_8 gT_8 ++ (wX0 (aT_8 0) aT_8_0 yT_8_0 gT_8_0 ++ (oW wPl sp ++ (oW wCo ak ++ (oW (wRd (aT 0) (aT 2)) rd ++ (oW wSt k0 ++ (oW wSt k1 ++ (oW wSt k2 ++ (oW wSt k3 ++ (wX12 hM aM yM gM')))))))))))))))))) := Hx_perm X (pm_2721_2 _ _ _ _ _ _ _ _ _ _ _ _ _ _ _ _ _ _) (fun _ h => h)
  exact cont H locs ⟨aT, yT, aT_0, yT_0, aT_2, yT_2, aT_3, yT_3, aT_4, yT_4, aT_5, yT_5, aT_6, yT_6, aT_7, yT_7, hT_8, aT_8, yT_8, aT_8_0, yT_8_0, gT, gT_0, gT_2, gT_3', gT_4, gT_5', gT_6, gT_7, gT_8, gT_8_0, sp, ak, rd, k0, k1, k2, k3, kk, aM, yM, gM', tys, X, hty, hw', h9, h10, h11, hk0, hk1, hk2, hk3⟩
theorem cs_11 (hh : T_c_X11_strike) (hm : T_c_X12_strike) {p : Program} {l : Launch} {e : Env} {s : State} {m : MethodId} {below : List Frame} {meth : Method} {c : Code} {D : Dx} {b L : Nat} {xs : Nat → Int32} {Z : State → Prop} (hL : L ≤ 3072) (C : Cx p s m #[Value.ref b] meth c cL_law ret 4 RL lw_all) (hts : ∀ w ∈ lw_tbl, w.before #[Value.ref b] s = true) (hX : va_X b L xs s s.heap) (hbl : b < s.heap.size) {hT hM N i : Nat} (hN : N < 512) (hi : i + 5 < L) {H : Heap} {locs : List Loc} (hI : LI D (fun q : Nat => s.heap.size ≤ q) s hT hM N H locs) {ls : Array Slot} {iv : Int32} (hiv : iv = nI i) (hl : lv_has ls 4 [(0, .ref b), (1, .ref hT), (2, .ref hM), (3, .int iv)]) (cont : ∀ (H1 : Heap) (locs1 : List Loc), LI D (fun q : Nat => s.heap.size ≤ q) s hT hM (N + 1) H1 locs1 → W p l e room_1 s m #[Value.ref b] below meth c H1 locs1 (200 + 36 * (N + 1)) (120000 + 10367 * (N + 1)) Z (F0 m 1150 ls [])) : W p l e room_1 s m #[Value.ref b] below meth c H locs (200 + 36 * N) (120000 + 10367 * N) Z (F0 m 523 ls []) := by
  obtain ⟨hx, hb, hr, hml, hown, -, hlk⟩ := id C
  have hbA : ¬ (fun q : Nat => s.heap.size ≤ q) b := Nat.not_le.mpr hbl
  have hin0 : vp_in iv L := by rw [hiv]; exact vp_in_nI (by omega) (by omega)
  have hin : ∀ k : Nat, k ≤ 5 → vp_in (iv + nI k) L := fun k hk => vp_in_add hiv (by omega) hL
  obtain ⟨aT, yT, aT_0, yT_0, aT_2, yT_2, aT_3, yT_3, aT_4, yT_4, aT_5, yT_5, aT_6, yT_6, aT_7, yT_7, hT_8, aT_8, yT_8, aT_8_0, yT_8_0, gT, gT_0, gT_2, gT_3, gT_4, gT_5, gT_6, gT_7, gT_8, gT_8_0, sp, ak, rd, k0, k1, k2, k3, kk, aM, yM, gM, tys, X, hty, hw, h9, h10, h11, hk0, hk1, hk2, hk3⟩ := hI
  have hn : 2000000 ≤ 2000000 := Nat.le_refl _
  obtain ⟨r, f2, f1⟩ := st_strike (by omega) hw (xs (iv + (1 : Int32)).toNatClampNeg) (xs (iv + (2 : Int32)).toNatClampNeg)
  refine lv_aload_n hx hb dL_law_523 rfl (lv_at hl 1 rfl) ?_
  refine lv_aload_n hx hb dL_law_524 rfl (lv_at hl 0 rfl) ?_
  refine lv_iload_n hx hb dL_law_525 rfl (lv_at hl 3 rfl) ?_
  refine lv_iconst (v := (1 : Int32)) hx hb dL_law_526 (by decide) ?_
  refine lv_iadd hx hb dL_law_527 ?_
  refine va_sld hx hb hX hbl hbA X.2.2.2.1 (hin 1 (by decide)) dL_law_528 ?_
  refine lv_aload_n hx hb dL_law_529 rfl (lv_at hl 0 rfl) ?_
  refine lv_iload_n hx hb dL_law_530 rfl (lv_at hl 3 rfl) ?_
  refine lv_iconst (v := (2 : Int32)) hx hb dL_law_531 (by decide) ?_
  refine lv_iadd hx hb dL_law_532 ?_
  refine va_sld hx hb hX hbl hbA X.2.2.2.1 (hin 2 (by decide)) dL_law_533 ?_
  have X : Hx D tys (fun q : Nat => s.heap.size ≤ q) s H locs ((wX11 hT aT yT gT ++ (wX9 (aT 3) aT_3 yT_3 gT_3)) ++ (wTP (aT 0) aT_0 yT_0 gT_0 ++ (wKP (aT 4) aT_4 yT_4 gT_4 ++ (wX6 (aT 2) aT_2 yT_2 gT_2 ++ (wX1 (aT 5) (va_up (va_up aT_5 0 (aT 2)) 1 (aT 3)) yT_5 gT_5 ++ (wX3 (aT 6) (va_up aT_6 0 (aT 2)) yT_6 gT_6 ++ (wX10 (aT 7) aT_7 yT_7 gT_7 ++ (wX4 hT_8 aT_8 yT_8 gT_8 ++ (wX0 (aT_8 0) aT_8_0 yT_8_0 gT_8_0 ++ (oW wPl sp ++ (oW wCo ak ++ (oW (wRd (aT 0) (aT 2)) rd ++ (oW wSt k0 ++ (oW wSt k1 ++ (oW wSt k2 ++ (oW wSt k3 ++ (wX12 hM aM yM gM))))))))))))))))) := Hx_perm X (pm_2721_17 _ _ _ _ _ _ _ _ _ _ _ _ _ _ _ _ _ _) (fun _ h => h)
  refine hc_l (As := [.int (xs (iv + (1 : Int32)).toNatClampNeg), .int (xs (iv + (2 : Int32)).toNatClampNeg)]) (rest := []) C X (hh l D hT aT yT aT_3 yT_3 gT gT_3 (xs (iv + (1 : Int32)).toNatClampNeg) (xs (iv + (2 : Int32)).toNatClampNeg) r f1 _) (cwV 2 C.2.2.2.2.2.1 (good_V q6_7 q6_8 q6_9 q1_1 q6_10) rfl rfl rfl (by decide +kernel) ⟨Nat.le_of_ble_eq_true rfl, Nat.le_of_ble_eq_true rfl⟩) (va_recv X.1 X.2.1 (ci := 11) (q0 := 0) rfl rfl) (fun q hq => hty q (by
    simp only [List.mem_append] at hq ⊢
    (repeat' (refine Or.elim hq ?_ ?_ <;> intro hq)) <;> simp [hq])) hl.1 rfl rfl (Nat.le_of_ble_eq_true rfl) dL_law_534 ⟨by show _ ≤ 218358; omega, by show _ ≤ 8447176; omega⟩ (fun H locs X => ?_)
  refine lv_aload_n hx hb dL_law_537 rfl (lv_at hl 2 rfl) ?_
  refine lv_aload_n hx hb dL_law_538 rfl (lv_at hl 0 rfl) ?_
  refine lv_iload_n hx hb dL_law_539 rfl (lv_at hl 3 rfl) ?_
  refine lv_iconst (v := (1 : Int32)) hx hb dL_law_540 (by decide) ?_
  refine lv_iadd hx hb dL_law_541 ?_
  refine va_sld hx hb hX hbl hbA X.2.2.2.1 (hin 1 (by decide)) dL_law_542 ?_
  refine lv_aload_n hx hb dL_law_543 rfl (lv_at hl 0 rfl) ?_
  refine lv_iload_n hx hb dL_law_544 rfl (lv_at hl 3 rfl) ?_
  refine lv_iconst (v := (2 : Int32)) hx hb dL_law_545 (by decide) ?_
  refine lv_iadd hx hb dL_law_546 ?_
  refine va_sld hx hb hX hbl hbA X.2.2.2.1 (hin 2 (by decide)) dL_law_547 ?_
  have X : Hx D tys (fun q : Nat => s.heap.size ≤ q) s H locs ((wX12 hM aM yM gM) ++ (wX11 hT aT yT gT ++ (wTP (aT 0) aT_0 yT_0 gT_0 ++ (wKP (aT 4) aT_4 yT_4 gT_4 ++ (wX6 (aT 2) aT_2 yT_2 gT_2 ++ (wX9 (aT 3) aT_3 yT_3 gT_3 ++ (wX1 (aT 5) (va_up (va_up aT_5 0 (aT 2)) 1 (aT 3)) yT_5 gT_5 ++ (wX3 (aT 6) (va_up aT_6 0 (aT 2)) yT_6 gT_6 ++ (wX10 (aT 7) aT_7 yT_7 gT_7 ++ (wX4 hT_8 aT_8 yT_8 gT_8 ++ (wX0 (aT_8 0) aT_8_0 yT_8_0 gT_8_0 ++ (oW wPl sp ++ (oW wCo ak ++ (oW (wRd (aT 0) (aT 2)) rd ++ (oW wSt k0 ++ (oW wSt k1 ++ (oW wSt k2 ++ (oW wSt k3)))))))))))))))))) := Hx_perm X (pm_2721_18 _ _ _ _ _ _ _ _ _ _ _ _ _ _ _ _ _ _) (fun _ h => h)
  refine hc_l (As := [.int (xs (iv + (1 : Int32)).toNatClampNeg), .int (xs (iv + (2 : Int32)).toNatClampNeg)]) (rest := [.long r]) C X (hm l D hM aM yM gM (xs (iv + (1 : Int32)).toNatClampNeg) (xs (iv + (2 : Int32)).toNatClampNeg) r f2 _) (cwV 2 C.2.2.2.2.2.1 (good_V q9_184 q9_185 q9_186 q1_9 q9_187) rfl rfl rfl (by decide +kernel) ⟨Nat.le_of_ble_eq_true rfl, Nat.le_of_ble_eq_true rfl⟩) (va_recv X.1 X.2.1 (ci := 12) (q0 := 0) rfl rfl) (fun q hq => hty q (by
    simp only [List.mem_append] at hq ⊢
    (repeat' (refine Or.elim hq ?_ ?_ <;> intro hq)) <;> simp [hq])) hl.1 rfl rfl (Nat.le_of_ble_eq_true rfl) dL_law_548 ⟨by show _ ≤ 218358; omega, by show _ ≤ 8447176; omega⟩ (fun H locs X => ?_)
  refine W.lcmp hx hb dL_law_551 ?_
  refine lv_if_eq (tgt := 1150) hx hb dL_law_552 (by decide) (fun _ => ?_) (fun c => absurd ((lg_cmp_eq _ _).mpr rfl) c)
  refine W.widen (k := (200 + 36 * (N + 1))) (n := (120000 + 10367 * (N + 1))) (by omega) (by omega) ?_
  have X : Hx D tys (fun q : Nat => s.heap.size ≤ q) s H locs (wX11 hT aT yT gT ++ (wTP (aT 0) aT_0 yT_0 gT_0 ++ (wKP (aT 4) aT_4 yT_4 gT_4 ++ (wX6 (aT 2) aT_2 yT_2 gT_2 ++ (wX9 (aT 3) aT_3 yT_3 gT_3 ++ (wX1 (aT 5) (va_up (va_up aT_5 0 (aT 2)) 1 (aT 3)) yT_5 gT_5 ++ (wX3 (aT 6) (va_up aT_6 0 (aT 2)) yT_6 gT_6 ++ (wX10 (aT 7) aT_7 yT_7 gT_7 ++ (wX4 hT_8 aT_8 yT_8 gT_8 ++ (wX0 (aT_8 0) aT_8_0 yT_8_0 gT_8_0 ++ (oW wPl sp ++ (oW wCo ak ++ (oW (wRd (aT 0) (aT 2)) rd ++ (oW wSt k0 ++ (oW wSt k1 ++ (oW wSt k2 ++ (oW wSt k3 ++ (wX12 hM aM yM gM)))))))))))))))))) := Hx_perm X (pm_2721_2 _ _ _ _ _ _ _ _ _ _ _ _ _ _ _ _ _ _) (fun _ h => h)
  exact cont H locs ⟨aT, yT, aT_0, yT_0, aT_2, yT_2, aT_3, yT_3, aT_4, yT_4, aT_5, yT_5, aT_6, yT_6, aT_7, yT_7, hT_8, aT_8, yT_8, aT_8_0, yT_8_0, gT, gT_0, gT_2, gT_3, gT_4, gT_5, gT_6, gT_7, gT_8, gT_8_0, sp, ak, rd, k0, k1, k2, k3, kk, aM, yM, gM, tys, X, hty, hw.idle, h9, h10, h11, hk0, hk1, hk2, hk3⟩
theorem cs_13 (hh : T_c_X11_told) (hm : T_c_X12_told_) {p : Program} {l : Launch} {e : Env} {s : State} {m : MethodId} {below : List Frame} {meth : Method} {c : Code} {D : Dx} {b L : Nat} {xs : Nat → Int32} {Z : State → Prop} (hL : L ≤ 3072) (C : Cx p s m #[Value.ref b] meth c cL_law ret 4 RL lw_all) (hts : ∀ w ∈ lw_tbl, w.before #[Value.ref b] s = true) (hX : va_X b L xs s s.heap) (hbl : b < s.heap.size) {hT hM N i : Nat} (hN : N < 512) (hi : i + 5 < L) {H : Heap} {locs : List Loc} (hI : LI D (fun q : Nat => s.heap.size ≤ q) s hT hM N H locs) {ls : Array Slot} {iv : Int32} (hiv : iv = nI i) (hl : lv_has ls 4 [(0, .ref b), (1, .ref hT), (2, .ref hM), (3, .int iv)]) (cont : ∀ (H1 : Heap) (locs1 : List Loc), LI D (fun q : Nat => s.heap.size ≤ q) s hT hM (N + 1) H1 locs1 → W p l e room_1 s m #[Value.ref b] below meth c H1 locs1 (200 + 36 * (N + 1)) (120000 + 10367 * (N + 1)) Z (F0 m 1150 ls [])) : W p l e room_1 s m #[Value.ref b] below meth c H locs (200 + 36 * N) (120000 + 10367 * N) Z (F0 m 570 ls []) := by
  obtain ⟨hx, hb, hr, hml, hown, -, hlk⟩ := id C
  have hbA : ¬ (fun q : Nat => s.heap.size ≤ q) b := Nat.not_le.mpr hbl
  have hin0 : vp_in iv L := by rw [hiv]; exact vp_in_nI (by omega) (by omega)
  have hin : ∀ k : Nat, k ≤ 5 → vp_in (iv + nI k) L := fun k hk => vp_in_add hiv (by omega) hL
  obtain ⟨aT, yT, aT_0, yT_0, aT_2, yT_2, aT_3, yT_3, aT_4, yT_4, aT_5, yT_5, aT_6, yT_6, aT_7, yT_7, hT_8, aT_8, yT_8, aT_8_0, yT_8_0, gT, gT_0, gT_2, gT_3, gT_4, gT_5, gT_6, gT_7, gT_8, gT_8_0, sp, ak, rd, k0, k1, k2, k3, kk, aM, yM, gM, tys, X, hty, hw, h9, h10, h11, hk0, hk1, hk2, hk3⟩ := hI
  have hn : 2000000 ≤ 2000000 := Nat.le_refl _
  obtain ⟨r, f2, f1⟩ := st_told hw 
  refine lv_aload_n hx hb dL_law_570 rfl (lv_at hl 1 rfl) ?_
  have X : Hx D tys (fun q : Nat => s.heap.size ≤ q) s H locs ((wX11 hT aT yT gT) ++ (wTP (aT 0) aT_0 yT_0 gT_0 ++ (wKP (aT 4) aT_4 yT_4 gT_4 ++ (wX6 (aT 2) aT_2 yT_2 gT_2 ++ (wX9 (aT 3) aT_3 yT_3 gT_3 ++ (wX1 (aT 5) (va_up (va_up aT_5 0 (aT 2)) 1 (aT 3)) yT_5 gT_5 ++ (wX3 (aT 6) (va_up aT_6 0 (aT 2)) yT_6 gT_6 ++ (wX10 (aT 7) aT_7 yT_7 gT_7 ++ (wX4 hT_8 aT_8 yT_8 gT_8 ++ (wX0 (aT_8 0) aT_8_0 yT_8_0 gT_8_0 ++ (oW wPl sp ++ (oW wCo ak ++ (oW (wRd (aT 0) (aT 2)) rd ++ (oW wSt k0 ++ (oW wSt k1 ++ (oW wSt k2 ++ (oW wSt k3 ++ (wX12 hM aM yM gM)))))))))))))))))) := Hx_perm X (pm_2721_3 _ _ _ _ _ _ _ _ _ _ _ _ _ _ _ _ _ _) (fun _ h => h)
  refine hc_l (As := []) (rest := []) C X (hh l D hT aT yT gT r f1 _) (cwV 0 C.2.2.2.2.2.1 (good_V q6_34 q6_35 q6_36 q1_1 q6_37) rfl rfl rfl (by decide +kernel) ⟨Nat.le_of_ble_eq_true rfl, Nat.le_of_ble_eq_true rfl⟩) (va_recv X.1 X.2.1 (ci := 11) (q0 := 0) rfl rfl) (fun q hq => hty q (by
    simp only [List.mem_append] at hq ⊢
    (repeat' (refine Or.elim hq ?_ ?_ <;> intro hq)) <;> simp [hq])) hl.1 rfl rfl (Nat.le_of_ble_eq_true rfl) dL_law_571 ⟨by show _ ≤ 218358; omega, by show _ ≤ 8447176; omega⟩ (fun H locs X => ?_)
  refine lv_aload_n hx hb dL_law_574 rfl (lv_at hl 2 rfl) ?_
  have X : Hx D tys (fun q : Nat => s.heap.size ≤ q) s H locs ((wX12 hM aM yM gM) ++ (wX11 hT aT yT gT ++ (wTP (aT 0) aT_0 yT_0 gT_0 ++ (wKP (aT 4) aT_4 yT_4 gT_4 ++ (wX6 (aT 2) aT_2 yT_2 gT_2 ++ (wX9 (aT 3) aT_3 yT_3 gT_3 ++ (wX1 (aT 5) (va_up (va_up aT_5 0 (aT 2)) 1 (aT 3)) yT_5 gT_5 ++ (wX3 (aT 6) (va_up aT_6 0 (aT 2)) yT_6 gT_6 ++ (wX10 (aT 7) aT_7 yT_7 gT_7 ++ (wX4 hT_8 aT_8 yT_8 gT_8 ++ (wX0 (aT_8 0) aT_8_0 yT_8_0 gT_8_0 ++ (oW wPl sp ++ (oW wCo ak ++ (oW (wRd (aT 0) (aT 2)) rd ++ (oW wSt k0 ++ (oW wSt k1 ++ (oW wSt k2 ++ (oW wSt k3)))))))))))))))))) := Hx_perm X (pm_2721_4 _ _ _ _ _ _ _ _ _ _ _ _ _ _ _ _ _ _) (fun _ h => h)
  refine hc_l (As := []) (rest := [.long r]) C X (hm l D hM aM yM gM r f2 _) (cwV 0 C.2.2.2.2.2.1 (good_V q9_159 q9_160 q9_161 q1_9 q9_162) rfl rfl rfl (by decide +kernel) ⟨Nat.le_of_ble_eq_true rfl, Nat.le_of_ble_eq_true rfl⟩) (va_recv X.1 X.2.1 (ci := 12) (q0 := 0) rfl rfl) (fun q hq => hty q (by
    simp only [List.mem_append] at hq ⊢
    (repeat' (refine Or.elim hq ?_ ?_ <;> intro hq)) <;> simp [hq])) hl.1 rfl rfl (Nat.le_of_ble_eq_true rfl) dL_law_575 ⟨by show _ ≤ 218358; omega, by show _ ≤ 8447176; omega⟩ (fun H locs X => ?_)
  refine W.lcmp hx hb dL_law_578 ?_
  refine lv_if_eq (tgt := 1150) hx hb dL_law_579 (by decide) (fun _ => ?_) (fun c => absurd ((lg_cmp_eq _ _).mpr rfl) c)
  refine W.widen (k := (200 + 36 * (N + 1))) (n := (120000 + 10367 * (N + 1))) (by omega) (by omega) ?_
  have X : Hx D tys (fun q : Nat => s.heap.size ≤ q) s H locs (wX11 hT aT yT gT ++ (wTP (aT 0) aT_0 yT_0 gT_0 ++ (wKP (aT 4) aT_4 yT_4 gT_4 ++ (wX6 (aT 2) aT_2 yT_2 gT_2 ++ (wX9 (aT 3) aT_3 yT_3 gT_3 ++ (wX1 (aT 5) (va_up (va_up aT_5 0 (aT 2)) 1 (aT 3)) yT_5 gT_5 ++ (wX3 (aT 6) (va_up aT_6 0 (aT 2)) yT_6 gT_6 ++ (wX10 (aT 7) aT_7 yT_7 gT_7 ++ (wX4 hT_8 aT_8 yT_8 gT_8 ++ (wX0 (aT_8 0) aT_8_0 yT_8_0 gT_8_0 ++ (oW wPl sp ++ (oW wCo ak ++ (oW (wRd (aT 0) (aT 2)) rd ++ (oW wSt k0 ++ (oW wSt k1 ++ (oW wSt k2 ++ (oW wSt k3 ++ (wX12 hM aM yM gM)))))))))))))))))) := Hx_perm X (pm_2721_2 _ _ _ _ _ _ _ _ _ _ _ _ _ _ _ _ _ _) (fun _ h => h)
  exact cont H locs ⟨aT, yT, aT_0, yT_0, aT_2, yT_2, aT_3, yT_3, aT_4, yT_4, aT_5, yT_5, aT_6, yT_6, aT_7, yT_7, hT_8, aT_8, yT_8, aT_8_0, yT_8_0, gT, gT_0, gT_2, gT_3, gT_4, gT_5, gT_6, gT_7, gT_8, gT_8_0, sp, ak, rd, k0, k1, k2, k3, kk, aM, yM, gM, tys, X, hty, hw.idle, h9, h10, h11, hk0, hk1, hk2, hk3⟩
theorem cs_15 (hh : T_c_X11_dial) (hm : T_c_X12_dial) {p : Program} {l : Launch} {e : Env} {s : State} {m : MethodId} {below : List Frame} {meth : Method} {c : Code} {D : Dx} {b L : Nat} {xs : Nat → Int32} {Z : State → Prop} (hL : L ≤ 3072) (C : Cx p s m #[Value.ref b] meth c cL_law ret 4 RL lw_all) (hts : ∀ w ∈ lw_tbl, w.before #[Value.ref b] s = true) (hX : va_X b L xs s s.heap) (hbl : b < s.heap.size) {hT hM N i : Nat} (hN : N < 512) (hi : i + 5 < L) {H : Heap} {locs : List Loc} (hI : LI D (fun q : Nat => s.heap.size ≤ q) s hT hM N H locs) {ls : Array Slot} {iv : Int32} (hiv : iv = nI i) (hl : lv_has ls 4 [(0, .ref b), (1, .ref hT), (2, .ref hM), (3, .int iv)]) (cont : ∀ (H1 : Heap) (locs1 : List Loc), LI D (fun q : Nat => s.heap.size ≤ q) s hT hM (N + 1) H1 locs1 → W p l e room_1 s m #[Value.ref b] below meth c H1 locs1 (200 + 36 * (N + 1)) (120000 + 10367 * (N + 1)) Z (F0 m 1150 ls [])) : W p l e room_1 s m #[Value.ref b] below meth c H locs (200 + 36 * N) (120000 + 10367 * N) Z (F0 m 607 ls []) := by
  obtain ⟨hx, hb, hr, hml, hown, -, hlk⟩ := id C
  have hbA : ¬ (fun q : Nat => s.heap.size ≤ q) b := Nat.not_le.mpr hbl
  have hin0 : vp_in iv L := by rw [hiv]; exact vp_in_nI (by omega) (by omega)
  have hin : ∀ k : Nat, k ≤ 5 → vp_in (iv + nI k) L := fun k hk => vp_in_add hiv (by omega) hL
  obtain ⟨aT, yT, aT_0, yT_0, aT_2, yT_2, aT_3, yT_3, aT_4, yT_4, aT_5, yT_5, aT_6, yT_6, aT_7, yT_7, hT_8, aT_8, yT_8, aT_8_0, yT_8_0, gT, gT_0, gT_2, gT_3, gT_4, gT_5, gT_6, gT_7, gT_8, gT_8_0, sp, ak, rd, k0, k1, k2, k3, kk, aM, yM, gM, tys, X, hty, hw, h9, h10, h11, hk0, hk1, hk2, hk3⟩ := hI
  have hn : 2000000 ≤ 2000000 := Nat.le_refl _
  obtain ⟨r, gM', gT_6', f1, f2, hw'⟩ := st_dial hn hw (((xs (iv + (1 : Int32)).toNatClampNeg).toInt64 <<< ((32 : Int32).toInt64 &&& 63)) ||| ((xs (iv + (2 : Int32)).toNatClampNeg).toInt64 &&& (4294967295 : Int64))) (xs (iv + (3 : Int32)).toNatClampNeg)
  refine lv_aload_n hx hb dL_law_607 rfl (lv_at hl 1 rfl) ?_
  refine lv_aload_n hx hb dL_law_608 rfl (lv_at hl 0 rfl) ?_
  refine lv_iload_n hx hb dL_law_609 rfl (lv_at hl 3 rfl) ?_
  refine lv_iconst (v := (1 : Int32)) hx hb dL_law_610 (by decide) ?_
  refine lv_iadd hx hb dL_law_611 ?_
  refine va_sld hx hb hX hbl hbA X.2.2.2.1 (hin 1 (by decide)) dL_law_612 ?_
  refine lv_i2l hx hb dL_law_613 rfl ?_
  refine lv_bipush (v := (32 : Int32)) hx hb dL_law_614 (by decide) ?_
  refine lv_lshl hx hb dL_law_616 rfl ?_
  refine lv_aload_n hx hb dL_law_617 rfl (lv_at hl 0 rfl) ?_
  refine lv_iload_n hx hb dL_law_618 rfl (lv_at hl 3 rfl) ?_
  refine lv_iconst (v := (2 : Int32)) hx hb dL_law_619 (by decide) ?_
  refine lv_iadd hx hb dL_law_620 ?_
  refine va_sld hx hb hX hbl hbA X.2.2.2.1 (hin 2 (by decide)) dL_law_621 ?_
  refine lv_i2l hx hb dL_law_622 rfl ?_
  refine lv_ldc2 hx hb hown (hts _ (lw_all_tbl q10_51)) dL_law_623 ?_
  refine lv_land hx hb dL_law_626 ?_
  refine lv_lor hx hb dL_law_627 ?_
  refine lv_aload_n hx hb dL_law_628 rfl (lv_at hl 0 rfl) ?_
  refine lv_iload_n hx hb dL_law_629 rfl (lv_at hl 3 rfl) ?_
  refine lv_iconst (v := (3 : Int32)) hx hb dL_law_630 (by decide) ?_
  refine lv_iadd hx hb dL_law_631 ?_
  refine va_sld hx hb hX hbl hbA X.2.2.2.1 (hin 3 (by decide)) dL_law_632 ?_
  have X : Hx D tys (fun q : Nat => s.heap.size ≤ q) s H locs ((wX11 hT aT yT gT ++ (wX6 (aT 2) aT_2 yT_2 gT_2 ++ (wX3 (aT 6) (va_up aT_6 0 (aT 2)) yT_6 gT_6))) ++ (wTP (aT 0) aT_0 yT_0 gT_0 ++ (wKP (aT 4) aT_4 yT_4 gT_4 ++ (wX9 (aT 3) aT_3 yT_3 gT_3 ++ (wX1 (aT 5) (va_up (va_up aT_5 0 (aT 2)) 1 (aT 3)) yT_5 gT_5 ++ (wX10 (aT 7) aT_7 yT_7 gT_7 ++ (wX4 hT_8 aT_8 yT_8 gT_8 ++ (wX0 (aT_8 0) aT_8_0 yT_8_0 gT_8_0 ++ (oW wPl sp ++ (oW wCo ak ++ (oW (wRd (aT 0) (aT 2)) rd ++ (oW wSt k0 ++ (oW wSt k1 ++ (oW wSt k2 ++ (oW wSt k3 ++ (wX12 hM aM yM gM)))))))))))))))) := Hx_perm X (pm_2721_19 _ _ _ _ _ _ _ _ _ _ _ _ _ _ _ _ _ _) (fun _ h => h)
  refine hc_i (As := [.long (((xs (iv + (1 : Int32)).toNatClampNeg).toInt64 <<< ((32 : Int32).toInt64 &&& 63)) ||| ((xs (iv + (2 : Int32)).toNatClampNeg).toInt64 &&& (4294967295 : Int64))), .int (xs (iv + (3 : Int32)).toNatClampNeg)]) (rest := []) C X (hh l D hT aT yT aT_2 yT_2 aT_6 yT_6 2000000 gT gT_2 gT_6 (((xs (iv + (1 : Int32)).toNatClampNeg).toInt64 <<< ((32 : Int32).toInt64 &&& 63)) ||| ((xs (iv + (2 : Int32)).toNatClampNeg).toInt64 &&& (4294967295 : Int64))) (xs (iv + (3 : Int32)).toNatClampNeg) (r, gT_6') f1 _) (cwV 2 C.2.2.2.2.2.1 (good_V q6_42 q6_43 q6_44 q1_1 q6_45) rfl rfl rfl (by decide +kernel) ⟨Nat.le_of_ble_eq_true rfl, Nat.le_of_ble_eq_true rfl⟩) (va_recv X.1 X.2.1 (ci := 11) (q0 := 0) rfl rfl) (fun q hq => hty q (by
    simp only [List.mem_append] at hq ⊢
    (repeat' (refine Or.elim hq ?_ ?_ <;> intro hq)) <;> simp [hq])) hl.1 rfl rfl (Nat.le_of_ble_eq_true rfl) dL_law_633 ⟨by show _ ≤ 218358; omega, by show _ ≤ 8447176; omega⟩ (fun H locs X => ?_)
  refine lv_aload_n hx hb dL_law_636 rfl (lv_at hl 2 rfl) ?_
  refine lv_aload_n hx hb dL_law_637 rfl (lv_at hl 0 rfl) ?_
  refine lv_iload_n hx hb dL_law_638 rfl (lv_at hl 3 rfl) ?_
  refine lv_iconst (v := (1 : Int32)) hx hb dL_law_639 (by decide) ?_
  refine lv_iadd hx hb dL_law_640 ?_
  refine va_sld hx hb hX hbl hbA X.2.2.2.1 (hin 1 (by decide)) dL_law_641 ?_
  refine lv_i2l hx hb dL_law_642 rfl ?_
  refine lv_bipush (v := (32 : Int32)) hx hb dL_law_643 (by decide) ?_
  refine lv_lshl hx hb dL_law_645 rfl ?_
  refine lv_aload_n hx hb dL_law_646 rfl (lv_at hl 0 rfl) ?_
  refine lv_iload_n hx hb dL_law_647 rfl (lv_at hl 3 rfl) ?_
  refine lv_iconst (v := (2 : Int32)) hx hb dL_law_648 (by decide) ?_
  refine lv_iadd hx hb dL_law_649 ?_
  refine va_sld hx hb hX hbl hbA X.2.2.2.1 (hin 2 (by decide)) dL_law_650 ?_
  refine lv_i2l hx hb dL_law_651 rfl ?_
  refine lv_ldc2 hx hb hown (hts _ (lw_all_tbl q10_51)) dL_law_652 ?_
  refine lv_land hx hb dL_law_655 ?_
  refine lv_lor hx hb dL_law_656 ?_
  refine lv_aload_n hx hb dL_law_657 rfl (lv_at hl 0 rfl) ?_
  refine lv_iload_n hx hb dL_law_658 rfl (lv_at hl 3 rfl) ?_
  refine lv_iconst (v := (3 : Int32)) hx hb dL_law_659 (by decide) ?_
  refine lv_iadd hx hb dL_law_660 ?_
  refine va_sld hx hb hX hbl hbA X.2.2.2.1 (hin 3 (by decide)) dL_law_661 ?_
  have X : Hx D tys (fun q : Nat => s.heap.size ≤ q) s H locs ((wX12 hM aM yM gM) ++ (wX11 hT aT yT gT ++ (wTP (aT 0) aT_0 yT_0 gT_0 ++ (wKP (aT 4) aT_4 yT_4 gT_4 ++ (wX6 (aT 2) aT_2 yT_2 gT_2 ++ (wX9 (aT 3) aT_3 yT_3 gT_3 ++ (wX1 (aT 5) (va_up (va_up aT_5 0 (aT 2)) 1 (aT 3)) yT_5 gT_5 ++ (wX3 (aT 6) (va_up aT_6 0 (aT 2)) yT_6 gT_6' ++ (wX10 (aT 7) aT_7 yT_7 gT_7 ++ (wX4 hT_8 aT_8 yT_8 gT_8 ++ (wX0 (aT_8 0) aT_8_0 yT_8_0 gT_8_0 ++ (oW wPl sp ++ (oW wCo ak ++ (oW (wRd (aT 0) (aT 2)) rd ++ (oW wSt k0 ++ (oW wSt k1 ++ (oW wSt k2 ++ (oW wSt k3)))))))))))))))))) := Hx_perm X (pm_2721_20 _ _ _ _ _ _ _ _ _ _ _ _ _ _ _ _ _ _) (fun _ h => h)
  refine hc_i (As := [.long (((xs (iv + (1 : Int32)).toNatClampNeg).toInt64 <<< ((32 : Int32).toInt64 &&& 63)) ||| ((xs (iv + (2 : Int32)).toNatClampNeg).toInt64 &&& (4294967295 : Int64))), .int (xs (iv + (3 : Int32)).toNatClampNeg)]) (rest := [.int r]) C X (hm l D hM aM yM 2000000 gM (((xs (iv + (1 : Int32)).toNatClampNeg).toInt64 <<< ((32 : Int32).toInt64 &&& 63)) ||| ((xs (iv + (2 : Int32)).toNatClampNeg).toInt64 &&& (4294967295 : Int64))) (xs (iv + (3 : Int32)).toNatClampNeg) (r, gM') f2 _) (cwV 2 C.2.2.2.2.2.1 (good_V q9_216 q9_217 q9_218 q1_9 q9_219) rfl rfl rfl (by decide +kernel) ⟨Nat.le_of_ble_eq_true rfl, Nat.le_of_ble_eq_true rfl⟩) (va_recv X.1 X.2.1 (ci := 12) (q0 := 0) rfl rfl) (fun q hq => hty q (by
    simp only [List.mem_append] at hq ⊢
    (repeat' (refine Or.elim hq ?_ ?_ <;> intro hq)) <;> simp [hq])) hl.1 rfl rfl (Nat.le_of_ble_eq_true rfl) dL_law_662 ⟨by show _ ≤ 218358; omega, by show _ ≤ 8447176; omega⟩ (fun H locs X => ?_)
  refine lv_icmp_eq (tgt := 1150) hx hb dL_law_665 (by decide) (fun _ => ?_) (fun c => absurd rfl c)
  refine W.widen (k := (200 + 36 * (N + 1))) (n := (120000 + 10367 * (N + 1))) (by omega) (by omega) ?_
  have X : Hx D tys (fun q : Nat => s.heap.size ≤ q) s H locs (wX11 hT aT yT gT ++ (wTP (aT 0) aT_0 yT_0 gT_0 ++ (wKP (aT 4) aT_4 yT_4 gT_4 ++ (wX6 (aT 2) aT_2 yT_2 gT_2 ++ (wX9 (aT 3) aT_3 yT_3 gT_3 ++ (wX1 (aT 5) (va_up (va_up aT_5 0 (aT 2)) 1 (aT 3)) yT_5 gT_5 ++ (wX3 (aT 6) (va_up aT_6 0 (aT 2)) yT_6 gT_6' ++ (wX10 (aT 7) aT_7 yT_7 gT_7 ++ (wX4 hT_8 aT_8 yT_8 gT_8 ++ (wX0 (aT_8 0) aT_8_0 yT_8_0 gT_8_0 ++ (oW wPl sp ++ (oW wCo ak ++ (oW (wRd (aT 0) (aT 2)) rd ++ (oW wSt k0 ++ (oW wSt k1 ++ (oW wSt k2 ++ (oW wSt k3 ++ (wX12 hM aM yM gM')))))))))))))))))) := Hx_perm X (pm_2721_2 _ _ _ _ _ _ _ _ _ _ _ _ _ _ _ _ _ _) (fun _ h => h)
  exact cont H locs ⟨aT, yT, aT_0, yT_0, aT_2, yT_2, aT_3, yT_3, aT_4, yT_4, aT_5, yT_5, aT_6, yT_6, aT_7, yT_7, hT_8, aT_8, yT_8, aT_8_0, yT_8_0, gT, gT_0, gT_2, gT_3, gT_4, gT_5, gT_6', gT_7, gT_8, gT_8_0, sp, ak, rd, k0, k1, k2, k3, kk, aM, yM, gM', tys, X, hty, hw', h9, h10, h11, hk0, hk1, hk2, hk3⟩
theorem cs_16 (hh : T_c_X11_clock) (hm : T_c_X12_clock) {p : Program} {l : Launch} {e : Env} {s : State} {m : MethodId} {below : List Frame} {meth : Method} {c : Code} {D : Dx} {b L : Nat} {xs : Nat → Int32} {Z : State → Prop} (hL : L ≤ 3072) (C : Cx p s m #[Value.ref b] meth c cL_law ret 4 RL lw_all) (hts : ∀ w ∈ lw_tbl, w.before #[Value.ref b] s = true) (hX : va_X b L xs s s.heap) (hbl : b < s.heap.size) {hT hM N i : Nat} (hN : N < 512) (hi : i + 5 < L) {H : Heap} {locs : List Loc} (hI : LI D (fun q : Nat => s.heap.size ≤ q) s hT hM N H locs) {ls : Array Slot} {iv : Int32} (hiv : iv = nI i) (hl : lv_has ls 4 [(0, .ref b), (1, .ref hT), (2, .ref hM), (3, .int iv)]) (cont : ∀ (H1 : Heap) (locs1 : List Loc), LI D (fun q : Nat => s.heap.size ≤ q) s hT hM (N + 1) H1 locs1 → W p l e room_1 s m #[Value.ref b] below meth c H1 locs1 (200 + 36 * (N + 1)) (120000 + 10367 * (N + 1)) Z (F0 m 1150 ls [])) : W p l e room_1 s m #[Value.ref b] below meth c H locs (200 + 36 * N) (120000 + 10367 * N) Z (F0 m 670 ls []) := by
  obtain ⟨hx, hb, hr, hml, hown, -, hlk⟩ := id C
  have hbA : ¬ (fun q : Nat => s.heap.size ≤ q) b := Nat.not_le.mpr hbl
  have hin0 : vp_in iv L := by rw [hiv]; exact vp_in_nI (by omega) (by omega)
  have hin : ∀ k : Nat, k ≤ 5 → vp_in (iv + nI k) L := fun k hk => vp_in_add hiv (by omega) hL
  obtain ⟨aT, yT, aT_0, yT_0, aT_2, yT_2, aT_3, yT_3, aT_4, yT_4, aT_5, yT_5, aT_6, yT_6, aT_7, yT_7, hT_8, aT_8, yT_8, aT_8_0, yT_8_0, gT, gT_0, gT_2, gT_3, gT_4, gT_5, gT_6, gT_7, gT_8, gT_8_0, sp, ak, rd, k0, k1, k2, k3, kk, aM, yM, gM, tys, X, hty, hw, h9, h10, h11, hk0, hk1, hk2, hk3⟩ := hI
  have hn : 2000000 ≤ 2000000 := Nat.le_refl _
  obtain ⟨r, gM', gT_6', f1, f2, hw'⟩ := st_clock hn hw (((xs (iv + (1 : Int32)).toNatClampNeg).toInt64 <<< ((32 : Int32).toInt64 &&& 63)) ||| ((xs (iv + (2 : Int32)).toNatClampNeg).toInt64 &&& (4294967295 : Int64)))
  refine lv_aload_n hx hb dL_law_670 rfl (lv_at hl 1 rfl) ?_
  refine lv_aload_n hx hb dL_law_671 rfl (lv_at hl 0 rfl) ?_
  refine lv_iload_n hx hb dL_law_672 rfl (lv_at hl 3 rfl) ?_
  refine lv_iconst (v := (1 : Int32)) hx hb dL_law_673 (by decide) ?_
  refine lv_iadd hx hb dL_law_674 ?_
  refine va_sld hx hb hX hbl hbA X.2.2.2.1 (hin 1 (by decide)) dL_law_675 ?_
  refine lv_i2l hx hb dL_law_676 rfl ?_
  refine lv_bipush (v := (32 : Int32)) hx hb dL_law_677 (by decide) ?_
  refine lv_lshl hx hb dL_law_679 rfl ?_
  refine lv_aload_n hx hb dL_law_680 rfl (lv_at hl 0 rfl) ?_
  refine lv_iload_n hx hb dL_law_681 rfl (lv_at hl 3 rfl) ?_
  refine lv_iconst (v := (2 : Int32)) hx hb dL_law_682 (by decide) ?_
  refine lv_iadd hx hb dL_law_683 ?_
  refine va_sld hx hb hX hbl hbA X.2.2.2.1 (hin 2 (by decide)) dL_law_684 ?_
  refine lv_i2l hx hb dL_law_685 rfl ?_
  refine lv_ldc2 hx hb hown (hts _ (lw_all_tbl q10_51)) dL_law_686 ?_
  refine lv_land hx hb dL_law_689 ?_
  refine lv_lor hx hb dL_law_690 ?_
  have X : Hx D tys (fun q : Nat => s.heap.size ≤ q) s H locs ((wX11 hT aT yT gT ++ (wX6 (aT 2) aT_2 yT_2 gT_2 ++ (wX3 (aT 6) (va_up aT_6 0 (aT 2)) yT_6 gT_6))) ++ (wTP (aT 0) aT_0 yT_0 gT_0 ++ (wKP (aT 4) aT_4 yT_4 gT_4 ++ (wX9 (aT 3) aT_3 yT_3 gT_3 ++ (wX1 (aT 5) (va_up (va_up aT_5 0 (aT 2)) 1 (aT 3)) yT_5 gT_5 ++ (wX10 (aT 7) aT_7 yT_7 gT_7 ++ (wX4 hT_8 aT_8 yT_8 gT_8 ++ (wX0 (aT_8 0) aT_8_0 yT_8_0 gT_8_0 ++ (oW wPl sp ++ (oW wCo ak ++ (oW (wRd (aT 0) (aT 2)) rd ++ (oW wSt k0 ++ (oW wSt k1 ++ (oW wSt k2 ++ (oW wSt k3 ++ (wX12 hM aM yM gM)))))))))))))))) := Hx_perm X (pm_2721_19 _ _ _ _ _ _ _ _ _ _ _ _ _ _ _ _ _ _) (fun _ h => h)
  refine hc_i (As := [.long (((xs (iv + (1 : Int32)).toNatClampNeg).toInt64 <<< ((32 : Int32).toInt64 &&& 63)) ||| ((xs (iv + (2 : Int32)).toNatClampNeg).toInt64 &&& (4294967295 : Int64)))]) (rest := []) C X (hh l D hT aT yT aT_2 yT_2 aT_6 yT_6 2000000 gT gT_2 gT_6 (((xs (iv + (1 : Int32)).toNatClampNeg).toInt64 <<< ((32 : Int32).toInt64 &&& 63)) ||| ((xs (iv + (2 : Int32)).toNatClampNeg).toInt64 &&& (4294967295 : Int64))) (r, gT_6') f1 _) (cwV 1 C.2.2.2.2.2.1 (good_V q6_62 q6_63 q6_64 q1_1 q6_65) rfl rfl rfl (by decide +kernel) ⟨Nat.le_of_ble_eq_true rfl, Nat.le_of_ble_eq_true rfl⟩) (va_recv X.1 X.2.1 (ci := 11) (q0 := 0) rfl rfl) (fun q hq => hty q (by
    simp only [List.mem_append] at hq ⊢
    (repeat' (refine Or.elim hq ?_ ?_ <;> intro hq)) <;> simp [hq])) hl.1 rfl rfl (Nat.le_of_ble_eq_true rfl) dL_law_691 ⟨by show _ ≤ 218358; omega, by show _ ≤ 8447176; omega⟩ (fun H locs X => ?_)
  refine lv_aload_n hx hb dL_law_694 rfl (lv_at hl 2 rfl) ?_
  refine lv_aload_n hx hb dL_law_695 rfl (lv_at hl 0 rfl) ?_
  refine lv_iload_n hx hb dL_law_696 rfl (lv_at hl 3 rfl) ?_
  refine lv_iconst (v := (1 : Int32)) hx hb dL_law_697 (by decide) ?_
  refine lv_iadd hx hb dL_law_698 ?_
  refine va_sld hx hb hX hbl hbA X.2.2.2.1 (hin 1 (by decide)) dL_law_699 ?_
  refine lv_i2l hx hb dL_law_700 rfl ?_
  refine lv_bipush (v := (32 : Int32)) hx hb dL_law_701 (by decide) ?_
  refine lv_lshl hx hb dL_law_703 rfl ?_
  refine lv_aload_n hx hb dL_law_704 rfl (lv_at hl 0 rfl) ?_
  refine lv_iload_n hx hb dL_law_705 rfl (lv_at hl 3 rfl) ?_
  refine lv_iconst (v := (2 : Int32)) hx hb dL_law_706 (by decide) ?_
  refine lv_iadd hx hb dL_law_707 ?_
  refine va_sld hx hb hX hbl hbA X.2.2.2.1 (hin 2 (by decide)) dL_law_708 ?_
  refine lv_i2l hx hb dL_law_709 rfl ?_
  refine lv_ldc2 hx hb hown (hts _ (lw_all_tbl q10_51)) dL_law_710 ?_
  refine lv_land hx hb dL_law_713 ?_
  refine lv_lor hx hb dL_law_714 ?_
  have X : Hx D tys (fun q : Nat => s.heap.size ≤ q) s H locs ((wX12 hM aM yM gM) ++ (wX11 hT aT yT gT ++ (wTP (aT 0) aT_0 yT_0 gT_0 ++ (wKP (aT 4) aT_4 yT_4 gT_4 ++ (wX6 (aT 2) aT_2 yT_2 gT_2 ++ (wX9 (aT 3) aT_3 yT_3 gT_3 ++ (wX1 (aT 5) (va_up (va_up aT_5 0 (aT 2)) 1 (aT 3)) yT_5 gT_5 ++ (wX3 (aT 6) (va_up aT_6 0 (aT 2)) yT_6 gT_6' ++ (wX10 (aT 7) aT_7 yT_7 gT_7 ++ (wX4 hT_8 aT_8 yT_8 gT_8 ++ (wX0 (aT_8 0) aT_8_0 yT_8_0 gT_8_0 ++ (oW wPl sp ++ (oW wCo ak ++ (oW (wRd (aT 0) (aT 2)) rd ++ (oW wSt k0 ++ (oW wSt k1 ++ (oW wSt k2 ++ (oW wSt k3)))))))))))))))))) := Hx_perm X (pm_2721_20 _ _ _ _ _ _ _ _ _ _ _ _ _ _ _ _ _ _) (fun _ h => h)
  refine hc_i (As := [.long (((xs (iv + (1 : Int32)).toNatClampNeg).toInt64 <<< ((32 : Int32).toInt64 &&& 63)) ||| ((xs (iv + (2 : Int32)).toNatClampNeg).toInt64 &&& (4294967295 : Int64)))]) (rest := [.int r]) C X (hm l D hM aM yM 2000000 gM (((xs (iv + (1 : Int32)).toNatClampNeg).toInt64 <<< ((32 : Int32).toInt64 &&& 63)) ||| ((xs (iv + (2 : Int32)).toNatClampNeg).toInt64 &&& (4294967295 : Int64))) (r, gM') f2 _) (cwV 1 C.2.2.2.2.2.1 (good_V q9_232 q9_233 q9_234 q1_9 q9_235) rfl rfl rfl (by decide +kernel) ⟨Nat.le_of_ble_eq_true rfl, Nat.le_of_ble_eq_true rfl⟩) (va_recv X.1 X.2.1 (ci := 12) (q0 := 0) rfl rfl) (fun q hq => hty q (by
    simp only [List.mem_append] at hq ⊢
    (repeat' (refine Or.elim hq ?_ ?_ <;> intro hq)) <;> simp [hq])) hl.1 rfl rfl (Nat.le_of_ble_eq_true rfl) dL_law_715 ⟨by show _ ≤ 218358; omega, by show _ ≤ 8447176; omega⟩ (fun H locs X => ?_)
  refine lv_icmp_eq (tgt := 1150) hx hb dL_law_718 (by decide) (fun _ => ?_) (fun c => absurd rfl c)
  refine W.widen (k := (200 + 36 * (N + 1))) (n := (120000 + 10367 * (N + 1))) (by omega) (by omega) ?_
  have X : Hx D tys (fun q : Nat => s.heap.size ≤ q) s H locs (wX11 hT aT yT gT ++ (wTP (aT 0) aT_0 yT_0 gT_0 ++ (wKP (aT 4) aT_4 yT_4 gT_4 ++ (wX6 (aT 2) aT_2 yT_2 gT_2 ++ (wX9 (aT 3) aT_3 yT_3 gT_3 ++ (wX1 (aT 5) (va_up (va_up aT_5 0 (aT 2)) 1 (aT 3)) yT_5 gT_5 ++ (wX3 (aT 6) (va_up aT_6 0 (aT 2)) yT_6 gT_6' ++ (wX10 (aT 7) aT_7 yT_7 gT_7 ++ (wX4 hT_8 aT_8 yT_8 gT_8 ++ (wX0 (aT_8 0) aT_8_0 yT_8_0 gT_8_0 ++ (oW wPl sp ++ (oW wCo ak ++ (oW (wRd (aT 0) (aT 2)) rd ++ (oW wSt k0 ++ (oW wSt k1 ++ (oW wSt k2 ++ (oW wSt k3 ++ (wX12 hM aM yM gM')))))))))))))))))) := Hx_perm X (pm_2721_2 _ _ _ _ _ _ _ _ _ _ _ _ _ _ _ _ _ _) (fun _ h => h)
  exact cont H locs ⟨aT, yT, aT_0, yT_0, aT_2, yT_2, aT_3, yT_3, aT_4, yT_4, aT_5, yT_5, aT_6, yT_6, aT_7, yT_7, hT_8, aT_8, yT_8, aT_8_0, yT_8_0, gT, gT_0, gT_2, gT_3, gT_4, gT_5, gT_6', gT_7, gT_8, gT_8_0, sp, ak, rd, k0, k1, k2, k3, kk, aM, yM, gM', tys, X, hty, hw', h9, h10, h11, hk0, hk1, hk2, hk3⟩
theorem cs_17 (hh : T_c_X11_octet) (hm : T_c_X12_octet) {p : Program} {l : Launch} {e : Env} {s : State} {m : MethodId} {below : List Frame} {meth : Method} {c : Code} {D : Dx} {b L : Nat} {xs : Nat → Int32} {Z : State → Prop} (hL : L ≤ 3072) (C : Cx p s m #[Value.ref b] meth c cL_law ret 4 RL lw_all) (hts : ∀ w ∈ lw_tbl, w.before #[Value.ref b] s = true) (hX : va_X b L xs s s.heap) (hbl : b < s.heap.size) {hT hM N i : Nat} (hN : N < 512) (hi : i + 5 < L) {H : Heap} {locs : List Loc} (hI : LI D (fun q : Nat => s.heap.size ≤ q) s hT hM N H locs) {ls : Array Slot} {iv : Int32} (hiv : iv = nI i) (hl : lv_has ls 4 [(0, .ref b), (1, .ref hT), (2, .ref hM), (3, .int iv)]) (cont : ∀ (H1 : Heap) (locs1 : List Loc), LI D (fun q : Nat => s.heap.size ≤ q) s hT hM (N + 1) H1 locs1 → W p l e room_1 s m #[Value.ref b] below meth c H1 locs1 (200 + 36 * (N + 1)) (120000 + 10367 * (N + 1)) Z (F0 m 1150 ls [])) : W p l e room_1 s m #[Value.ref b] below meth c H locs (200 + 36 * N) (120000 + 10367 * N) Z (F0 m 723 ls []) := by
  obtain ⟨hx, hb, hr, hml, hown, -, hlk⟩ := id C
  have hbA : ¬ (fun q : Nat => s.heap.size ≤ q) b := Nat.not_le.mpr hbl
  have hin0 : vp_in iv L := by rw [hiv]; exact vp_in_nI (by omega) (by omega)
  have hin : ∀ k : Nat, k ≤ 5 → vp_in (iv + nI k) L := fun k hk => vp_in_add hiv (by omega) hL
  obtain ⟨aT, yT, aT_0, yT_0, aT_2, yT_2, aT_3, yT_3, aT_4, yT_4, aT_5, yT_5, aT_6, yT_6, aT_7, yT_7, hT_8, aT_8, yT_8, aT_8_0, yT_8_0, gT, gT_0, gT_2, gT_3, gT_4, gT_5, gT_6, gT_7, gT_8, gT_8_0, sp, ak, rd, k0, k1, k2, k3, kk, aM, yM, gM, tys, X, hty, hw, h9, h10, h11, hk0, hk1, hk2, hk3⟩ := hI
  have hn : 2000000 ≤ 2000000 := Nat.le_refl _
  obtain ⟨r, f1, f2⟩ := st_octet hw (xs (iv + (1 : Int32)).toNatClampNeg)
  refine lv_aload_n hx hb dL_law_723 rfl (lv_at hl 1 rfl) ?_
  refine lv_aload_n hx hb dL_law_724 rfl (lv_at hl 0 rfl) ?_
  refine lv_iload_n hx hb dL_law_725 rfl (lv_at hl 3 rfl) ?_
  refine lv_iconst (v := (1 : Int32)) hx hb dL_law_726 (by decide) ?_
  refine lv_iadd hx hb dL_law_727 ?_
  refine va_sld hx hb hX hbl hbA X.2.2.2.1 (hin 1 (by decide)) dL_law_728 ?_
  have X : Hx D tys (fun q : Nat => s.heap.size ≤ q) s H locs ((wX11 hT aT yT gT ++ (wX3 (aT 6) (va_up aT_6 0 (aT 2)) yT_6 gT_6)) ++ (wTP (aT 0) aT_0 yT_0 gT_0 ++ (wKP (aT 4) aT_4 yT_4 gT_4 ++ (wX6 (aT 2) aT_2 yT_2 gT_2 ++ (wX9 (aT 3) aT_3 yT_3 gT_3 ++ (wX1 (aT 5) (va_up (va_up aT_5 0 (aT 2)) 1 (aT 3)) yT_5 gT_5 ++ (wX10 (aT 7) aT_7 yT_7 gT_7 ++ (wX4 hT_8 aT_8 yT_8 gT_8 ++ (wX0 (aT_8 0) aT_8_0 yT_8_0 gT_8_0 ++ (oW wPl sp ++ (oW wCo ak ++ (oW (wRd (aT 0) (aT 2)) rd ++ (oW wSt k0 ++ (oW wSt k1 ++ (oW wSt k2 ++ (oW wSt k3 ++ (wX12 hM aM yM gM))))))))))))))))) := Hx_perm X (pm_2721_21 _ _ _ _ _ _ _ _ _ _ _ _ _ _ _ _ _ _) (fun _ h => h)
  refine hc_i (As := [.int (xs (iv + (1 : Int32)).toNatClampNeg)]) (rest := []) C X (hh l D hT aT yT (va_up aT_6 0 (aT 2)) yT_6 gT gT_6 (xs (iv + (1 : Int32)).toNatClampNeg) r f1 _) (cwV 1 C.2.2.2.2.2.1 (good_V q6_74 q6_75 q6_76 q1_1 q6_77) rfl rfl rfl (by decide +kernel) ⟨Nat.le_of_ble_eq_true rfl, Nat.le_of_ble_eq_true rfl⟩) (va_recv X.1 X.2.1 (ci := 11) (q0 := 0) rfl rfl) (fun q hq => hty q (by
    simp only [List.mem_append] at hq ⊢
    (repeat' (refine Or.elim hq ?_ ?_ <;> intro hq)) <;> simp [hq])) hl.1 rfl rfl (Nat.le_of_ble_eq_true rfl) dL_law_729 ⟨by show _ ≤ 218358; omega, by show _ ≤ 8447176; omega⟩ (fun H locs X => ?_)
  refine lv_aload_n hx hb dL_law_732 rfl (lv_at hl 2 rfl) ?_
  refine lv_aload_n hx hb dL_law_733 rfl (lv_at hl 0 rfl) ?_
  refine lv_iload_n hx hb dL_law_734 rfl (lv_at hl 3 rfl) ?_
  refine lv_iconst (v := (1 : Int32)) hx hb dL_law_735 (by decide) ?_
  refine lv_iadd hx hb dL_law_736 ?_
  refine va_sld hx hb hX hbl hbA X.2.2.2.1 (hin 1 (by decide)) dL_law_737 ?_
  have X : Hx D tys (fun q : Nat => s.heap.size ≤ q) s H locs ((wX12 hM aM yM gM) ++ (wX11 hT aT yT gT ++ (wTP (aT 0) aT_0 yT_0 gT_0 ++ (wKP (aT 4) aT_4 yT_4 gT_4 ++ (wX6 (aT 2) aT_2 yT_2 gT_2 ++ (wX9 (aT 3) aT_3 yT_3 gT_3 ++ (wX1 (aT 5) (va_up (va_up aT_5 0 (aT 2)) 1 (aT 3)) yT_5 gT_5 ++ (wX3 (aT 6) (va_up aT_6 0 (aT 2)) yT_6 gT_6 ++ (wX10 (aT 7) aT_7 yT_7 gT_7 ++ (wX4 hT_8 aT_8 yT_8 gT_8 ++ (wX0 (aT_8 0) aT_8_0 yT_8_0 gT_8_0 ++ (oW wPl sp ++ (oW wCo ak ++ (oW (wRd (aT 0) (aT 2)) rd ++ (oW wSt k0 ++ (oW wSt k1 ++ (oW wSt k2 ++ (oW wSt k3)))))))))))))))))) := Hx_perm X (pm_2721_22 _ _ _ _ _ _ _ _ _ _ _ _ _ _ _ _ _ _) (fun _ h => h)
  refine hc_i (As := [.int (xs (iv + (1 : Int32)).toNatClampNeg)]) (rest := [.int r]) C X (hm l D hM aM yM gM (xs (iv + (1 : Int32)).toNatClampNeg) r f2 _) (cwV 1 C.2.2.2.2.2.1 (good_V q10_1 q10_2 q10_3 q1_9 q10_4) rfl rfl rfl (by decide +kernel) ⟨Nat.le_of_ble_eq_true rfl, Nat.le_of_ble_eq_true rfl⟩) (va_recv X.1 X.2.1 (ci := 12) (q0 := 0) rfl rfl) (fun q hq => hty q (by
    simp only [List.mem_append] at hq ⊢
    (repeat' (refine Or.elim hq ?_ ?_ <;> intro hq)) <;> simp [hq])) hl.1 rfl rfl (Nat.le_of_ble_eq_true rfl) dL_law_738 ⟨by show _ ≤ 218358; omega, by show _ ≤ 8447176; omega⟩ (fun H locs X => ?_)
  refine lv_icmp_eq (tgt := 1150) hx hb dL_law_741 (by decide) (fun _ => ?_) (fun c => absurd rfl c)
  refine W.widen (k := (200 + 36 * (N + 1))) (n := (120000 + 10367 * (N + 1))) (by omega) (by omega) ?_
  have X : Hx D tys (fun q : Nat => s.heap.size ≤ q) s H locs (wX11 hT aT yT gT ++ (wTP (aT 0) aT_0 yT_0 gT_0 ++ (wKP (aT 4) aT_4 yT_4 gT_4 ++ (wX6 (aT 2) aT_2 yT_2 gT_2 ++ (wX9 (aT 3) aT_3 yT_3 gT_3 ++ (wX1 (aT 5) (va_up (va_up aT_5 0 (aT 2)) 1 (aT 3)) yT_5 gT_5 ++ (wX3 (aT 6) (va_up aT_6 0 (aT 2)) yT_6 gT_6 ++ (wX10 (aT 7) aT_7 yT_7 gT_7 ++ (wX4 hT_8 aT_8 yT_8 gT_8 ++ (wX0 (aT_8 0) aT_8_0 yT_8_0 gT_8_0 ++ (oW wPl sp ++ (oW wCo ak ++ (oW (wRd (aT 0) (aT 2)) rd ++ (oW wSt k0 ++ (oW wSt k1 ++ (oW wSt k2 ++ (oW wSt k3 ++ (wX12 hM aM yM gM)))))))))))))))))) := Hx_perm X (pm_2721_2 _ _ _ _ _ _ _ _ _ _ _ _ _ _ _ _ _ _) (fun _ h => h)
  exact cont H locs ⟨aT, yT, aT_0, yT_0, aT_2, yT_2, aT_3, yT_3, aT_4, yT_4, aT_5, yT_5, aT_6, yT_6, aT_7, yT_7, hT_8, aT_8, yT_8, aT_8_0, yT_8_0, gT, gT_0, gT_2, gT_3, gT_4, gT_5, gT_6, gT_7, gT_8, gT_8_0, sp, ak, rd, k0, k1, k2, k3, kk, aM, yM, gM, tys, X, hty, hw.idle, h9, h10, h11, hk0, hk1, hk2, hk3⟩
theorem cs_18 (hh : T_c_X11_measure) (hm : T_c_X12_measure) {p : Program} {l : Launch} {e : Env} {s : State} {m : MethodId} {below : List Frame} {meth : Method} {c : Code} {D : Dx} {b L : Nat} {xs : Nat → Int32} {Z : State → Prop} (hL : L ≤ 3072) (C : Cx p s m #[Value.ref b] meth c cL_law ret 4 RL lw_all) (hts : ∀ w ∈ lw_tbl, w.before #[Value.ref b] s = true) (hX : va_X b L xs s s.heap) (hbl : b < s.heap.size) {hT hM N i : Nat} (hN : N < 512) (hi : i + 5 < L) {H : Heap} {locs : List Loc} (hI : LI D (fun q : Nat => s.heap.size ≤ q) s hT hM N H locs) {ls : Array Slot} {iv : Int32} (hiv : iv = nI i) (hl : lv_has ls 4 [(0, .ref b), (1, .ref hT), (2, .ref hM), (3, .int iv)]) (cont : ∀ (H1 : Heap) (locs1 : List Loc), LI D (fun q : Nat => s.heap.size ≤ q) s hT hM (N + 1) H1 locs1 → W p l e room_1 s m #[Value.ref b] below meth c H1 locs1 (200 + 36 * (N + 1)) (120000 + 10367 * (N + 1)) Z (F0 m 1150 ls [])) : W p l e room_1 s m #[Value.ref b] below meth c H locs (200 + 36 * N) (120000 + 10367 * N) Z (F0 m 746 ls []) := by
  obtain ⟨hx, hb, hr, hml, hown, -, hlk⟩ := id C
  have hbA : ¬ (fun q : Nat => s.heap.size ≤ q) b := Nat.not_le.mpr hbl
  have hin0 : vp_in iv L := by rw [hiv]; exact vp_in_nI (by omega) (by omega)
  have hin : ∀ k : Nat, k ≤ 5 → vp_in (iv + nI k) L := fun k hk => vp_in_add hiv (by omega) hL
  obtain ⟨aT, yT, aT_0, yT_0, aT_2, yT_2, aT_3, yT_3, aT_4, yT_4, aT_5, yT_5, aT_6, yT_6, aT_7, yT_7, hT_8, aT_8, yT_8, aT_8_0, yT_8_0, gT, gT_0, gT_2, gT_3, gT_4, gT_5, gT_6, gT_7, gT_8, gT_8_0, sp, ak, rd, k0, k1, k2, k3, kk, aM, yM, gM, tys, X, hty, hw, h9, h10, h11, hk0, hk1, hk2, hk3⟩ := hI
  have hn : 2000000 ≤ 2000000 := Nat.le_refl _
  obtain ⟨r, gM', f1, f2, hw'⟩ := st_measure hn hw (((xs (iv + (1 : Int32)).toNatClampNeg).toInt64 <<< ((32 : Int32).toInt64 &&& 63)) ||| ((xs (iv + (2 : Int32)).toNatClampNeg).toInt64 &&& (4294967295 : Int64))) (((xs (iv + (3 : Int32)).toNatClampNeg).toInt64 <<< ((32 : Int32).toInt64 &&& 63)) ||| ((xs (iv + (4 : Int32)).toNatClampNeg).toInt64 &&& (4294967295 : Int64)))
  refine lv_aload_n hx hb dL_law_746 rfl (lv_at hl 1 rfl) ?_
  refine lv_aload_n hx hb dL_law_747 rfl (lv_at hl 0 rfl) ?_
  refine lv_iload_n hx hb dL_law_748 rfl (lv_at hl 3 rfl) ?_
  refine lv_iconst (v := (1 : Int32)) hx hb dL_law_749 (by decide) ?_
  refine lv_iadd hx hb dL_law_750 ?_
  refine va_sld hx hb hX hbl hbA X.2.2.2.1 (hin 1 (by decide)) dL_law_751 ?_
  refine lv_i2l hx hb dL_law_752 rfl ?_
  refine lv_bipush (v := (32 : Int32)) hx hb dL_law_753 (by decide) ?_
  refine lv_lshl hx hb dL_law_755 rfl ?_
  refine lv_aload_n hx hb dL_law_756 rfl (lv_at hl 0 rfl) ?_
  refine lv_iload_n hx hb dL_law_757 rfl (lv_at hl 3 rfl) ?_
  refine lv_iconst (v := (2 : Int32)) hx hb dL_law_758 (by decide) ?_
  refine lv_iadd hx hb dL_law_759 ?_
  refine va_sld hx hb hX hbl hbA X.2.2.2.1 (hin 2 (by decide)) dL_law_760 ?_
  refine lv_i2l hx hb dL_law_761 rfl ?_
  refine lv_ldc2 hx hb hown (hts _ (lw_all_tbl q10_51)) dL_law_762 ?_
  refine lv_land hx hb dL_law_765 ?_
  refine lv_lor hx hb dL_law_766 ?_
  refine lv_aload_n hx hb dL_law_767 rfl (lv_at hl 0 rfl) ?_
  refine lv_iload_n hx hb dL_law_768 rfl (lv_at hl 3 rfl) ?_
  refine lv_iconst (v := (3 : Int32)) hx hb dL_law_769 (by decide) ?_
  refine lv_iadd hx hb dL_law_770 ?_
  refine va_sld hx hb hX hbl hbA X.2.2.2.1 (hin 3 (by decide)) dL_law_771 ?_
  refine lv_i2l hx hb dL_law_772 rfl ?_
  refine lv_bipush (v := (32 : Int32)) hx hb dL_law_773 (by decide) ?_
  refine lv_lshl hx hb dL_law_775 rfl ?_
  refine lv_aload_n hx hb dL_law_776 rfl (lv_at hl 0 rfl) ?_
  refine lv_iload_n hx hb dL_law_777 rfl (lv_at hl 3 rfl) ?_
  refine lv_iconst (v := (4 : Int32)) hx hb dL_law_778 (by decide) ?_
  refine lv_iadd hx hb dL_law_779 ?_
  refine va_sld hx hb hX hbl hbA X.2.2.2.1 (hin 4 (by decide)) dL_law_780 ?_
  refine lv_i2l hx hb dL_law_781 rfl ?_
  refine lv_ldc2 hx hb hown (hts _ (lw_all_tbl q10_51)) dL_law_782 ?_
  refine lv_land hx hb dL_law_785 ?_
  refine lv_lor hx hb dL_law_786 ?_
  have X : Hx D tys (fun q : Nat => s.heap.size ≤ q) s H locs ((wX11 hT aT yT gT ++ (wX6 (aT 2) aT_2 yT_2 gT_2)) ++ (wTP (aT 0) aT_0 yT_0 gT_0 ++ (wKP (aT 4) aT_4 yT_4 gT_4 ++ (wX9 (aT 3) aT_3 yT_3 gT_3 ++ (wX1 (aT 5) (va_up (va_up aT_5 0 (aT 2)) 1 (aT 3)) yT_5 gT_5 ++ (wX3 (aT 6) (va_up aT_6 0 (aT 2)) yT_6 gT_6 ++ (wX10 (aT 7) aT_7 yT_7 gT_7 ++ (wX4 hT_8 aT_8 yT_8 gT_8 ++ (wX0 (aT_8 0) aT_8_0 yT_8_0 gT_8_0 ++ (oW wPl sp ++ (oW wCo ak ++ (oW (wRd (aT 0) (aT 2)) rd ++ (oW wSt k0 ++ (oW wSt k1 ++ (oW wSt k2 ++ (oW wSt k3 ++ (wX12 hM aM yM gM))))))))))))))))) := Hx_perm X (pm_2721_23 _ _ _ _ _ _ _ _ _ _ _ _ _ _ _ _ _ _) (fun _ h => h)
  refine hc_l (As := [.long (((xs (iv + (1 : Int32)).toNatClampNeg).toInt64 <<< ((32 : Int32).toInt64 &&& 63)) ||| ((xs (iv + (2 : Int32)).toNatClampNeg).toInt64 &&& (4294967295 : Int64))), .long (((xs (iv + (3 : Int32)).toNatClampNeg).toInt64 <<< ((32 : Int32).toInt64 &&& 63)) ||| ((xs (iv + (4 : Int32)).toNatClampNeg).toInt64 &&& (4294967295 : Int64)))]) (rest := []) C X (hh l D hT aT yT aT_2 yT_2 2000000 gT gT_2 (((xs (iv + (1 : Int32)).toNatClampNeg).toInt64 <<< ((32 : Int32).toInt64 &&& 63)) ||| ((xs (iv + (2 : Int32)).toNatClampNeg).toInt64 &&& (4294967295 : Int64))) (((xs (iv + (3 : Int32)).toNatClampNeg).toInt64 <<< ((32 : Int32).toInt64 &&& 63)) ||| ((xs (iv + (4 : Int32)).toNatClampNeg).toInt64 &&& (4294967295 : Int64))) r f1 _) (cwV 2 C.2.2.2.2.2.1 (good_V q6_78 q6_79 q6_80 q1_1 q6_81) rfl rfl rfl (by decide +kernel) ⟨Nat.le_of_ble_eq_true rfl, Nat.le_of_ble_eq_true rfl⟩) (va_recv X.1 X.2.1 (ci := 11) (q0 := 0) rfl rfl) (fun q hq => hty q (by
    simp only [List.mem_append] at hq ⊢
    (repeat' (refine Or.elim hq ?_ ?_ <;> intro hq)) <;> simp [hq])) hl.1 rfl rfl (Nat.le_of_ble_eq_true rfl) dL_law_787 ⟨by show _ ≤ 218358; omega, by show _ ≤ 8447176; omega⟩ (fun H locs X => ?_)
  refine lv_aload_n hx hb dL_law_790 rfl (lv_at hl 2 rfl) ?_
  refine lv_aload_n hx hb dL_law_791 rfl (lv_at hl 0 rfl) ?_
  refine lv_iload_n hx hb dL_law_792 rfl (lv_at hl 3 rfl) ?_
  refine lv_iconst (v := (1 : Int32)) hx hb dL_law_793 (by decide) ?_
  refine lv_iadd hx hb dL_law_794 ?_
  refine va_sld hx hb hX hbl hbA X.2.2.2.1 (hin 1 (by decide)) dL_law_795 ?_
  refine lv_i2l hx hb dL_law_796 rfl ?_
  refine lv_bipush (v := (32 : Int32)) hx hb dL_law_797 (by decide) ?_
  refine lv_lshl hx hb dL_law_799 rfl ?_
  refine lv_aload_n hx hb dL_law_800 rfl (lv_at hl 0 rfl) ?_
  refine lv_iload_n hx hb dL_law_801 rfl (lv_at hl 3 rfl) ?_
  refine lv_iconst (v := (2 : Int32)) hx hb dL_law_802 (by decide) ?_
  refine lv_iadd hx hb dL_law_803 ?_
  refine va_sld hx hb hX hbl hbA X.2.2.2.1 (hin 2 (by decide)) dL_law_804 ?_
  refine lv_i2l hx hb dL_law_805 rfl ?_
  refine lv_ldc2 hx hb hown (hts _ (lw_all_tbl q10_51)) dL_law_806 ?_
  refine lv_land hx hb dL_law_809 ?_
  refine lv_lor hx hb dL_law_810 ?_
  refine lv_aload_n hx hb dL_law_811 rfl (lv_at hl 0 rfl) ?_
  refine lv_iload_n hx hb dL_law_812 rfl (lv_at hl 3 rfl) ?_
  refine lv_iconst (v := (3 : Int32)) hx hb dL_law_813 (by decide) ?_
  refine lv_iadd hx hb dL_law_814 ?_
  refine va_sld hx hb hX hbl hbA X.2.2.2.1 (hin 3 (by decide)) dL_law_815 ?_
  refine lv_i2l hx hb dL_law_816 rfl ?_
  refine lv_bipush (v := (32 : Int32)) hx hb dL_law_817 (by decide) ?_
  refine lv_lshl hx hb dL_law_819 rfl ?_
  refine lv_aload_n hx hb dL_law_820 rfl (lv_at hl 0 rfl) ?_
  refine lv_iload_n hx hb dL_law_821 rfl (lv_at hl 3 rfl) ?_
  refine lv_iconst (v := (4 : Int32)) hx hb dL_law_822 (by decide) ?_
  refine lv_iadd hx hb dL_law_823 ?_
  refine va_sld hx hb hX hbl hbA X.2.2.2.1 (hin 4 (by decide)) dL_law_824 ?_
  refine lv_i2l hx hb dL_law_825 rfl ?_
  refine lv_ldc2 hx hb hown (hts _ (lw_all_tbl q10_51)) dL_law_826 ?_
  refine lv_land hx hb dL_law_829 ?_
  refine lv_lor hx hb dL_law_830 ?_
  have X : Hx D tys (fun q : Nat => s.heap.size ≤ q) s H locs ((wX12 hM aM yM gM) ++ (wX11 hT aT yT gT ++ (wTP (aT 0) aT_0 yT_0 gT_0 ++ (wKP (aT 4) aT_4 yT_4 gT_4 ++ (wX6 (aT 2) aT_2 yT_2 gT_2 ++ (wX9 (aT 3) aT_3 yT_3 gT_3 ++ (wX1 (aT 5) (va_up (va_up aT_5 0 (aT 2)) 1 (aT 3)) yT_5 gT_5 ++ (wX3 (aT 6) (va_up aT_6 0 (aT 2)) yT_6 gT_6 ++ (wX10 (aT 7) aT_7 yT_7 gT_7 ++ (wX4 hT_8 aT_8 yT_8 gT_8 ++ (wX0 (aT_8 0) aT_8_0 yT_8_0 gT_8_0 ++ (oW wPl sp ++ (oW wCo ak ++ (oW (wRd (aT 0) (aT 2)) rd ++ (oW wSt k0 ++ (oW wSt k1 ++ (oW wSt k2 ++ (oW wSt k3)))))))))))))))))) := Hx_perm X (pm_2721_24 _ _ _ _ _ _ _ _ _ _ _ _ _ _ _ _ _ _) (fun _ h => h)
  refine hc_l (As := [.long (((xs (iv + (1 : Int32)).toNatClampNeg).toInt64 <<< ((32 : Int32).toInt64 &&& 63)) ||| ((xs (iv + (2 : Int32)).toNatClampNeg).toInt64 &&& (4294967295 : Int64))), .long (((xs (iv + (3 : Int32)).toNatClampNeg).toInt64 <<< ((32 : Int32).toInt64 &&& 63)) ||| ((xs (iv + (4 : Int32)).toNatClampNeg).toInt64 &&& (4294967295 : Int64)))]) (rest := [.long r]) C X (hm l D hM aM yM 2000000 gM (((xs (iv + (1 : Int32)).toNatClampNeg).toInt64 <<< ((32 : Int32).toInt64 &&& 63)) ||| ((xs (iv + (2 : Int32)).toNatClampNeg).toInt64 &&& (4294967295 : Int64))) (((xs (iv + (3 : Int32)).toNatClampNeg).toInt64 <<< ((32 : Int32).toInt64 &&& 63)) ||| ((xs (iv + (4 : Int32)).toNatClampNeg).toInt64 &&& (4294967295 : Int64))) (r, gM') f2 _) (cwV 2 C.2.2.2.2.2.1 (good_V q10_5 q10_6 q10_7 q1_9 q10_8) rfl rfl rfl (by decide +kernel) ⟨Nat.le_of_ble_eq_true rfl, Nat.le_of_ble_eq_true rfl⟩) (va_recv X.1 X.2.1 (ci := 12) (q0 := 0) rfl rfl) (fun q hq => hty q (by
    simp only [List.mem_append] at hq ⊢
    (repeat' (refine Or.elim hq ?_ ?_ <;> intro hq)) <;> simp [hq])) hl.1 rfl rfl (Nat.le_of_ble_eq_true rfl) dL_law_831 ⟨by show _ ≤ 218358; omega, by show _ ≤ 8447176; omega⟩ (fun H locs X => ?_)
  refine W.lcmp hx hb dL_law_834 ?_
  refine lv_if_eq (tgt := 1150) hx hb dL_law_835 (by decide) (fun _ => ?_) (fun c => absurd ((lg_cmp_eq _ _).mpr rfl) c)
  refine W.widen (k := (200 + 36 * (N + 1))) (n := (120000 + 10367 * (N + 1))) (by omega) (by omega) ?_
  have X : Hx D tys (fun q : Nat => s.heap.size ≤ q) s H locs (wX11 hT aT yT gT ++ (wTP (aT 0) aT_0 yT_0 gT_0 ++ (wKP (aT 4) aT_4 yT_4 gT_4 ++ (wX6 (aT 2) aT_2 yT_2 gT_2 ++ (wX9 (aT 3) aT_3 yT_3 gT_3 ++ (wX1 (aT 5) (va_up (va_up aT_5 0 (aT 2)) 1 (aT 3)) yT_5 gT_5 ++ (wX3 (aT 6) (va_up aT_6 0 (aT 2)) yT_6 gT_6 ++ (wX10 (aT 7) aT_7 yT_7 gT_7 ++ (wX4 hT_8 aT_8 yT_8 gT_8 ++ (wX0 (aT_8 0) aT_8_0 yT_8_0 gT_8_0 ++ (oW wPl sp ++ (oW wCo ak ++ (oW (wRd (aT 0) (aT 2)) rd ++ (oW wSt k0 ++ (oW wSt k1 ++ (oW wSt k2 ++ (oW wSt k3 ++ (wX12 hM aM yM gM')))))))))))))))))) := Hx_perm X (pm_2721_2 _ _ _ _ _ _ _ _ _ _ _ _ _ _ _ _ _ _) (fun _ h => h)
  exact cont H locs ⟨aT, yT, aT_0, yT_0, aT_2, yT_2, aT_3, yT_3, aT_4, yT_4, aT_5, yT_5, aT_6, yT_6, aT_7, yT_7, hT_8, aT_8, yT_8, aT_8_0, yT_8_0, gT, gT_0, gT_2, gT_3, gT_4, gT_5, gT_6, gT_7, gT_8, gT_8_0, sp, ak, rd, k0, k1, k2, k3, kk, aM, yM, gM', tys, X, hty, hw', h9, h10, h11, hk0, hk1, hk2, hk3⟩
theorem cs_19 (hh : T_c_X11_together) (hm : T_c_X12_together) {p : Program} {l : Launch} {e : Env} {s : State} {m : MethodId} {below : List Frame} {meth : Method} {c : Code} {D : Dx} {b L : Nat} {xs : Nat → Int32} {Z : State → Prop} (hL : L ≤ 3072) (C : Cx p s m #[Value.ref b] meth c cL_law ret 4 RL lw_all) (hts : ∀ w ∈ lw_tbl, w.before #[Value.ref b] s = true) (hX : va_X b L xs s s.heap) (hbl : b < s.heap.size) {hT hM N i : Nat} (hN : N < 512) (hi : i + 5 < L) {H : Heap} {locs : List Loc} (hI : LI D (fun q : Nat => s.heap.size ≤ q) s hT hM N H locs) {ls : Array Slot} {iv : Int32} (hiv : iv = nI i) (hl : lv_has ls 4 [(0, .ref b), (1, .ref hT), (2, .ref hM), (3, .int iv)]) (cont : ∀ (H1 : Heap) (locs1 : List Loc), LI D (fun q : Nat => s.heap.size ≤ q) s hT hM (N + 1) H1 locs1 → W p l e room_1 s m #[Value.ref b] below meth c H1 locs1 (200 + 36 * (N + 1)) (120000 + 10367 * (N + 1)) Z (F0 m 1150 ls [])) : W p l e room_1 s m #[Value.ref b] below meth c H locs (200 + 36 * N) (120000 + 10367 * N) Z (F0 m 840 ls []) := by
  obtain ⟨hx, hb, hr, hml, hown, -, hlk⟩ := id C
  have hbA : ¬ (fun q : Nat => s.heap.size ≤ q) b := Nat.not_le.mpr hbl
  have hin0 : vp_in iv L := by rw [hiv]; exact vp_in_nI (by omega) (by omega)
  have hin : ∀ k : Nat, k ≤ 5 → vp_in (iv + nI k) L := fun k hk => vp_in_add hiv (by omega) hL
  obtain ⟨aT, yT, aT_0, yT_0, aT_2, yT_2, aT_3, yT_3, aT_4, yT_4, aT_5, yT_5, aT_6, yT_6, aT_7, yT_7, hT_8, aT_8, yT_8, aT_8_0, yT_8_0, gT, gT_0, gT_2, gT_3, gT_4, gT_5, gT_6, gT_7, gT_8, gT_8_0, sp, ak, rd, k0, k1, k2, k3, kk, aM, yM, gM, tys, X, hty, hw, h9, h10, h11, hk0, hk1, hk2, hk3⟩ := hI
  have hn : 2000000 ≤ 2000000 := Nat.le_refl _
  obtain ⟨r, gM', f1, f2, hw'⟩ := st_together hn hw (((xs (iv + (1 : Int32)).toNatClampNeg).toInt64 <<< ((32 : Int32).toInt64 &&& 63)) ||| ((xs (iv + (2 : Int32)).toNatClampNeg).toInt64 &&& (4294967295 : Int64))) (((xs (iv + (3 : Int32)).toNatClampNeg).toInt64 <<< ((32 : Int32).toInt64 &&& 63)) ||| ((xs (iv + (4 : Int32)).toNatClampNeg).toInt64 &&& (4294967295 : Int64)))
  refine lv_aload_n hx hb dL_law_840 rfl (lv_at hl 1 rfl) ?_
  refine lv_aload_n hx hb dL_law_841 rfl (lv_at hl 0 rfl) ?_
  refine lv_iload_n hx hb dL_law_842 rfl (lv_at hl 3 rfl) ?_
  refine lv_iconst (v := (1 : Int32)) hx hb dL_law_843 (by decide) ?_
  refine lv_iadd hx hb dL_law_844 ?_
  refine va_sld hx hb hX hbl hbA X.2.2.2.1 (hin 1 (by decide)) dL_law_845 ?_
  refine lv_i2l hx hb dL_law_846 rfl ?_
  refine lv_bipush (v := (32 : Int32)) hx hb dL_law_847 (by decide) ?_
  refine lv_lshl hx hb dL_law_849 rfl ?_
  refine lv_aload_n hx hb dL_law_850 rfl (lv_at hl 0 rfl) ?_
  refine lv_iload_n hx hb dL_law_851 rfl (lv_at hl 3 rfl) ?_
  refine lv_iconst (v := (2 : Int32)) hx hb dL_law_852 (by decide) ?_
  refine lv_iadd hx hb dL_law_853 ?_
  refine va_sld hx hb hX hbl hbA X.2.2.2.1 (hin 2 (by decide)) dL_law_854 ?_
  refine lv_i2l hx hb dL_law_855 rfl ?_
  refine lv_ldc2 hx hb hown (hts _ (lw_all_tbl q10_51)) dL_law_856 ?_
  refine lv_land hx hb dL_law_859 ?_
  refine lv_lor hx hb dL_law_860 ?_
  refine lv_aload_n hx hb dL_law_861 rfl (lv_at hl 0 rfl) ?_
  refine lv_iload_n hx hb dL_law_862 rfl (lv_at hl 3 rfl) ?_
  refine lv_iconst (v := (3 : Int32)) hx hb dL_law_863 (by decide) ?_
  refine lv_iadd hx hb dL_law_864 ?_
  refine va_sld hx hb hX hbl hbA X.2.2.2.1 (hin 3 (by decide)) dL_law_865 ?_
  refine lv_i2l hx hb dL_law_866 rfl ?_
  refine lv_bipush (v := (32 : Int32)) hx hb dL_law_867 (by decide) ?_
  refine lv_lshl hx hb dL_law_869 rfl ?_
  refine lv_aload_n hx hb dL_law_870 rfl (lv_at hl 0 rfl) ?_
  refine lv_iload_n hx hb dL_law_871 rfl (lv_at hl 3 rfl) ?_
  refine lv_iconst (v := (4 : Int32)) hx hb dL_law_872 (by decide) ?_
  refine lv_iadd hx hb dL_law_873 ?_
  refine va_sld hx hb hX hbl hbA X.2.2.2.1 (hin 4 (by decide)) dL_law_874 ?_
  refine lv_i2l hx hb dL_law_875 rfl ?_
  refine lv_ldc2 hx hb hown (hts _ (lw_all_tbl q10_51)) dL_law_876 ?_
  refine lv_land hx hb dL_law_879 ?_
  refine lv_lor hx hb dL_law_880 ?_
  have X : Hx D tys (fun q : Nat => s.heap.size ≤ q) s H locs ((wX11 hT aT yT gT ++ (wX6 (aT 2) aT_2 yT_2 gT_2)) ++ (wTP (aT 0) aT_0 yT_0 gT_0 ++ (wKP (aT 4) aT_4 yT_4 gT_4 ++ (wX9 (aT 3) aT_3 yT_3 gT_3 ++ (wX1 (aT 5) (va_up (va_up aT_5 0 (aT 2)) 1 (aT 3)) yT_5 gT_5 ++ (wX3 (aT 6) (va_up aT_6 0 (aT 2)) yT_6 gT_6 ++ (wX10 (aT 7) aT_7 yT_7 gT_7 ++ (wX4 hT_8 aT_8 yT_8 gT_8 ++ (wX0 (aT_8 0) aT_8_0 yT_8_0 gT_8_0 ++ (oW wPl sp ++ (oW wCo ak ++ (oW (wRd (aT 0) (aT 2)) rd ++ (oW wSt k0 ++ (oW wSt k1 ++ (oW wSt k2 ++ (oW wSt k3 ++ (wX12 hM aM yM gM))))))))))))))))) := Hx_perm X (pm_2721_23 _ _ _ _ _ _ _ _ _ _ _ _ _ _ _ _ _ _) (fun _ h => h)
  refine hc_l (As := [.long (((xs (iv + (1 : Int32)).toNatClampNeg).toInt64 <<< ((32 : Int32).toInt64 &&& 63)) ||| ((xs (iv + (2 : Int32)).toNatClampNeg).toInt64 &&& (4294967295 : Int64))), .long (((xs (iv + (3 : Int32)).toNatClampNeg).toInt64 <<< ((32 : Int32).toInt64 &&& 63)) ||| ((xs (iv + (4 : Int32)).toNatClampNeg).toInt64 &&& (4294967295 : Int64)))]) (rest := []) C X (hh l D hT aT yT aT_2 yT_2 2000000 gT gT_2 (((xs (iv + (1 : Int32)).toNatClampNeg).toInt64 <<< ((32 : Int32).toInt64 &&& 63)) ||| ((xs (iv + (2 : Int32)).toNatClampNeg).toInt64 &&& (4294967295 : Int64))) (((xs (iv + (3 : Int32)).toNatClampNeg).toInt64 <<< ((32 : Int32).toInt64 &&& 63)) ||| ((xs (iv + (4 : Int32)).toNatClampNeg).toInt64 &&& (4294967295 : Int64))) r f1 _) (cwV 2 C.2.2.2.2.2.1 (good_V q6_84 q6_85 q6_86 q1_1 q6_87) rfl rfl rfl (by decide +kernel) ⟨Nat.le_of_ble_eq_true rfl, Nat.le_of_ble_eq_true rfl⟩) (va_recv X.1 X.2.1 (ci := 11) (q0 := 0) rfl rfl) (fun q hq => hty q (by
    simp only [List.mem_append] at hq ⊢
    (repeat' (refine Or.elim hq ?_ ?_ <;> intro hq)) <;> simp [hq])) hl.1 rfl rfl (Nat.le_of_ble_eq_true rfl) dL_law_881 ⟨by show _ ≤ 218358; omega, by show _ ≤ 8447176; omega⟩ (fun H locs X => ?_)
  refine lv_aload_n hx hb dL_law_884 rfl (lv_at hl 2 rfl) ?_
  refine lv_aload_n hx hb dL_law_885 rfl (lv_at hl 0 rfl) ?_
  refine lv_iload_n hx hb dL_law_886 rfl (lv_at hl 3 rfl) ?_
  refine lv_iconst (v := (1 : Int32)) hx hb dL_law_887 (by decide) ?_
  refine lv_iadd hx hb dL_law_888 ?_
  refine va_sld hx hb hX hbl hbA X.2.2.2.1 (hin 1 (by decide)) dL_law_889 ?_
  refine lv_i2l hx hb dL_law_890 rfl ?_
  refine lv_bipush (v := (32 : Int32)) hx hb dL_law_891 (by decide) ?_
  refine lv_lshl hx hb dL_law_893 rfl ?_
  refine lv_aload_n hx hb dL_law_894 rfl (lv_at hl 0 rfl) ?_
  refine lv_iload_n hx hb dL_law_895 rfl (lv_at hl 3 rfl) ?_
  refine lv_iconst (v := (2 : Int32)) hx hb dL_law_896 (by decide) ?_
  refine lv_iadd hx hb dL_law_897 ?_
  refine va_sld hx hb hX hbl hbA X.2.2.2.1 (hin 2 (by decide)) dL_law_898 ?_
  refine lv_i2l hx hb dL_law_899 rfl ?_
  refine lv_ldc2 hx hb hown (hts _ (lw_all_tbl q10_51)) dL_law_900 ?_
  refine lv_land hx hb dL_law_903 ?_
  refine lv_lor hx hb dL_law_904 ?_
  refine lv_aload_n hx hb dL_law_905 rfl (lv_at hl 0 rfl) ?_
  refine lv_iload_n hx hb dL_law_906 rfl (lv_at hl 3 rfl) ?_
  refine lv_iconst (v := (3 : Int32)) hx hb dL_law_907 (by decide) ?_
  refine lv_iadd hx hb dL_law_908 ?_
  refine va_sld hx hb hX hbl hbA X.2.2.2.1 (hin 3 (by decide)) dL_law_909 ?_
  refine lv_i2l hx hb dL_law_910 rfl ?_
  refine lv_bipush (v := (32 : Int32)) hx hb dL_law_911 (by decide) ?_
  refine lv_lshl hx hb dL_law_913 rfl ?_
  refine lv_aload_n hx hb dL_law_914 rfl (lv_at hl 0 rfl) ?_
  refine lv_iload_n hx hb dL_law_915 rfl (lv_at hl 3 rfl) ?_
  refine lv_iconst (v := (4 : Int32)) hx hb dL_law_916 (by decide) ?_
  refine lv_iadd hx hb dL_law_917 ?_
  refine va_sld hx hb hX hbl hbA X.2.2.2.1 (hin 4 (by decide)) dL_law_918 ?_
  refine lv_i2l hx hb dL_law_919 rfl ?_
  refine lv_ldc2 hx hb hown (hts _ (lw_all_tbl q10_51)) dL_law_920 ?_
  refine lv_land hx hb dL_law_923 ?_
  refine lv_lor hx hb dL_law_924 ?_
  have X : Hx D tys (fun q : Nat => s.heap.size ≤ q) s H locs ((wX12 hM aM yM gM) ++ (wX11 hT aT yT gT ++ (wTP (aT 0) aT_0 yT_0 gT_0 ++ (wKP (aT 4) aT_4 yT_4 gT_4 ++ (wX6 (aT 2) aT_2 yT_2 gT_2 ++ (wX9 (aT 3) aT_3 yT_3 gT_3 ++ (wX1 (aT 5) (va_up (va_up aT_5 0 (aT 2)) 1 (aT 3)) yT_5 gT_5 ++ (wX3 (aT 6) (va_up aT_6 0 (aT 2)) yT_6 gT_6 ++ (wX10 (aT 7) aT_7 yT_7 gT_7 ++ (wX4 hT_8 aT_8 yT_8 gT_8 ++ (wX0 (aT_8 0) aT_8_0 yT_8_0 gT_8_0 ++ (oW wPl sp ++ (oW wCo ak ++ (oW (wRd (aT 0) (aT 2)) rd ++ (oW wSt k0 ++ (oW wSt k1 ++ (oW wSt k2 ++ (oW wSt k3)))))))))))))))))) := Hx_perm X (pm_2721_24 _ _ _ _ _ _ _ _ _ _ _ _ _ _ _ _ _ _) (fun _ h => h)
  refine hc_l (As := [.long (((xs (iv + (1 : Int32)).toNatClampNeg).toInt64 <<< ((32 : Int32).toInt64 &&& 63)) ||| ((xs (iv + (2 : Int32)).toNatClampNeg).toInt64 &&& (4294967295 : Int64))), .long (((xs (iv + (3 : Int32)).toNatClampNeg).toInt64 <<< ((32 : Int32).toInt64 &&& 63)) ||| ((xs (iv + (4 : Int32)).toNatClampNeg).toInt64 &&& (4294967295 : Int64)))]) (rest := [.long r]) C X (hm l D hM aM yM 2000000 gM (((xs (iv + (1 : Int32)).toNatClampNeg).toInt64 <<< ((32 : Int32).toInt64 &&& 63)) ||| ((xs (iv + (2 : Int32)).toNatClampNeg).toInt64 &&& (4294967295 : Int64))) (((xs (iv + (3 : Int32)).toNatClampNeg).toInt64 <<< ((32 : Int32).toInt64 &&& 63)) ||| ((xs (iv + (4 : Int32)).toNatClampNeg).toInt64 &&& (4294967295 : Int64))) (r, gM') f2 _) (cwV 2 C.2.2.2.2.2.1 (good_V q10_9 q10_10 q10_11 q1_9 q10_12) rfl rfl rfl (by decide +kernel) ⟨Nat.le_of_ble_eq_true rfl, Nat.le_of_ble_eq_true rfl⟩) (va_recv X.1 X.2.1 (ci := 12) (q0 := 0) rfl rfl) (fun q hq => hty q (by
    simp only [List.mem_append] at hq ⊢
    (repeat' (refine Or.elim hq ?_ ?_ <;> intro hq)) <;> simp [hq])) hl.1 rfl rfl (Nat.le_of_ble_eq_true rfl) dL_law_925 ⟨by show _ ≤ 218358; omega, by show _ ≤ 8447176; omega⟩ (fun H locs X => ?_)
  refine W.lcmp hx hb dL_law_928 ?_
  refine lv_if_eq (tgt := 1150) hx hb dL_law_929 (by decide) (fun _ => ?_) (fun c => absurd ((lg_cmp_eq _ _).mpr rfl) c)
  refine W.widen (k := (200 + 36 * (N + 1))) (n := (120000 + 10367 * (N + 1))) (by omega) (by omega) ?_
  have X : Hx D tys (fun q : Nat => s.heap.size ≤ q) s H locs (wX11 hT aT yT gT ++ (wTP (aT 0) aT_0 yT_0 gT_0 ++ (wKP (aT 4) aT_4 yT_4 gT_4 ++ (wX6 (aT 2) aT_2 yT_2 gT_2 ++ (wX9 (aT 3) aT_3 yT_3 gT_3 ++ (wX1 (aT 5) (va_up (va_up aT_5 0 (aT 2)) 1 (aT 3)) yT_5 gT_5 ++ (wX3 (aT 6) (va_up aT_6 0 (aT 2)) yT_6 gT_6 ++ (wX10 (aT 7) aT_7 yT_7 gT_7 ++ (wX4 hT_8 aT_8 yT_8 gT_8 ++ (wX0 (aT_8 0) aT_8_0 yT_8_0 gT_8_0 ++ (oW wPl sp ++ (oW wCo ak ++ (oW (wRd (aT 0) (aT 2)) rd ++ (oW wSt k0 ++ (oW wSt k1 ++ (oW wSt k2 ++ (oW wSt k3 ++ (wX12 hM aM yM gM')))))))))))))))))) := Hx_perm X (pm_2721_2 _ _ _ _ _ _ _ _ _ _ _ _ _ _ _ _ _ _) (fun _ h => h)
  exact cont H locs ⟨aT, yT, aT_0, yT_0, aT_2, yT_2, aT_3, yT_3, aT_4, yT_4, aT_5, yT_5, aT_6, yT_6, aT_7, yT_7, hT_8, aT_8, yT_8, aT_8_0, yT_8_0, gT, gT_0, gT_2, gT_3, gT_4, gT_5, gT_6, gT_7, gT_8, gT_8_0, sp, ak, rd, k0, k1, k2, k3, kk, aM, yM, gM', tys, X, hty, hw', h9, h10, h11, hk0, hk1, hk2, hk3⟩
theorem cs_20 (hh : T_c_X11_train) (hm : T_c_X12_train) {p : Program} {l : Launch} {e : Env} {s : State} {m : MethodId} {below : List Frame} {meth : Method} {c : Code} {D : Dx} {b L : Nat} {xs : Nat → Int32} {Z : State → Prop} (hL : L ≤ 3072) (C : Cx p s m #[Value.ref b] meth c cL_law ret 4 RL lw_all) (hts : ∀ w ∈ lw_tbl, w.before #[Value.ref b] s = true) (hX : va_X b L xs s s.heap) (hbl : b < s.heap.size) {hT hM N i : Nat} (hN : N < 512) (hi : i + 5 < L) {H : Heap} {locs : List Loc} (hI : LI D (fun q : Nat => s.heap.size ≤ q) s hT hM N H locs) {ls : Array Slot} {iv : Int32} (hiv : iv = nI i) (hl : lv_has ls 4 [(0, .ref b), (1, .ref hT), (2, .ref hM), (3, .int iv)]) (cont : ∀ (H1 : Heap) (locs1 : List Loc), LI D (fun q : Nat => s.heap.size ≤ q) s hT hM (N + 1) H1 locs1 → W p l e room_1 s m #[Value.ref b] below meth c H1 locs1 (200 + 36 * (N + 1)) (120000 + 10367 * (N + 1)) Z (F0 m 1150 ls [])) : W p l e room_1 s m #[Value.ref b] below meth c H locs (200 + 36 * N) (120000 + 10367 * N) Z (F0 m 934 ls []) := by
  obtain ⟨hx, hb, hr, hml, hown, -, hlk⟩ := id C
  have hbA : ¬ (fun q : Nat => s.heap.size ≤ q) b := Nat.not_le.mpr hbl
  have hin0 : vp_in iv L := by rw [hiv]; exact vp_in_nI (by omega) (by omega)
  have hin : ∀ k : Nat, k ≤ 5 → vp_in (iv + nI k) L := fun k hk => vp_in_add hiv (by omega) hL
  obtain ⟨aT, yT, aT_0, yT_0, aT_2, yT_2, aT_3, yT_3, aT_4, yT_4, aT_5, yT_5, aT_6, yT_6, aT_7, yT_7, hT_8, aT_8, yT_8, aT_8_0, yT_8_0, gT, gT_0, gT_2, gT_3, gT_4, gT_5, gT_6, gT_7, gT_8, gT_8_0, sp, ak, rd, k0, k1, k2, k3, kk, aM, yM, gM, tys, X, hty, hw, h9, h10, h11, hk0, hk1, hk2, hk3⟩ := hI
  have hn : 2000000 ≤ 2000000 := Nat.le_refl _
  obtain ⟨r, gM', gT_7', f1, f2, hw'⟩ := st_train hn hw (((xs (iv + (1 : Int32)).toNatClampNeg).toInt64 <<< ((32 : Int32).toInt64 &&& 63)) ||| ((xs (iv + (2 : Int32)).toNatClampNeg).toInt64 &&& (4294967295 : Int64))) (xs (iv + (3 : Int32)).toNatClampNeg) (xs (iv + (4 : Int32)).toNatClampNeg) (xs (iv + (5 : Int32)).toNatClampNeg)
  refine lv_aload_n hx hb dL_law_934 rfl (lv_at hl 1 rfl) ?_
  refine lv_aload_n hx hb dL_law_935 rfl (lv_at hl 0 rfl) ?_
  refine lv_iload_n hx hb dL_law_936 rfl (lv_at hl 3 rfl) ?_
  refine lv_iconst (v := (1 : Int32)) hx hb dL_law_937 (by decide) ?_
  refine lv_iadd hx hb dL_law_938 ?_
  refine va_sld hx hb hX hbl hbA X.2.2.2.1 (hin 1 (by decide)) dL_law_939 ?_
  refine lv_i2l hx hb dL_law_940 rfl ?_
  refine lv_bipush (v := (32 : Int32)) hx hb dL_law_941 (by decide) ?_
  refine lv_lshl hx hb dL_law_943 rfl ?_
  refine lv_aload_n hx hb dL_law_944 rfl (lv_at hl 0 rfl) ?_
  refine lv_iload_n hx hb dL_law_945 rfl (lv_at hl 3 rfl) ?_
  refine lv_iconst (v := (2 : Int32)) hx hb dL_law_946 (by decide) ?_
  refine lv_iadd hx hb dL_law_947 ?_
  refine va_sld hx hb hX hbl hbA X.2.2.2.1 (hin 2 (by decide)) dL_law_948 ?_
  refine lv_i2l hx hb dL_law_949 rfl ?_
  refine lv_ldc2 hx hb hown (hts _ (lw_all_tbl q10_51)) dL_law_950 ?_
  refine lv_land hx hb dL_law_953 ?_
  refine lv_lor hx hb dL_law_954 ?_
  refine lv_aload_n hx hb dL_law_955 rfl (lv_at hl 0 rfl) ?_
  refine lv_iload_n hx hb dL_law_956 rfl (lv_at hl 3 rfl) ?_
  refine lv_iconst (v := (3 : Int32)) hx hb dL_law_957 (by decide) ?_
  refine lv_iadd hx hb dL_law_958 ?_
  refine va_sld hx hb hX hbl hbA X.2.2.2.1 (hin 3 (by decide)) dL_law_959 ?_
  refine lv_aload_n hx hb dL_law_960 rfl (lv_at hl 0 rfl) ?_
  refine lv_iload_n hx hb dL_law_961 rfl (lv_at hl 3 rfl) ?_
  refine lv_iconst (v := (4 : Int32)) hx hb dL_law_962 (by decide) ?_
  refine lv_iadd hx hb dL_law_963 ?_
  refine va_sld hx hb hX hbl hbA X.2.2.2.1 (hin 4 (by decide)) dL_law_964 ?_
  refine lv_aload_n hx hb dL_law_965 rfl (lv_at hl 0 rfl) ?_
  refine lv_iload_n hx hb dL_law_966 rfl (lv_at hl 3 rfl) ?_
  refine lv_iconst (v := (5 : Int32)) hx hb dL_law_967 (by decide) ?_
  refine lv_iadd hx hb dL_law_968 ?_
  refine va_sld hx hb hX hbl hbA X.2.2.2.1 (hin 5 (by decide)) dL_law_969 ?_
  have X : Hx D tys (fun q : Nat => s.heap.size ≤ q) s H locs ((wX11 hT aT yT gT ++ (wX6 (aT 2) aT_2 yT_2 gT_2 ++ (wX10 (aT 7) aT_7 yT_7 gT_7))) ++ (wTP (aT 0) aT_0 yT_0 gT_0 ++ (wKP (aT 4) aT_4 yT_4 gT_4 ++ (wX9 (aT 3) aT_3 yT_3 gT_3 ++ (wX1 (aT 5) (va_up (va_up aT_5 0 (aT 2)) 1 (aT 3)) yT_5 gT_5 ++ (wX3 (aT 6) (va_up aT_6 0 (aT 2)) yT_6 gT_6 ++ (wX4 hT_8 aT_8 yT_8 gT_8 ++ (wX0 (aT_8 0) aT_8_0 yT_8_0 gT_8_0 ++ (oW wPl sp ++ (oW wCo ak ++ (oW (wRd (aT 0) (aT 2)) rd ++ (oW wSt k0 ++ (oW wSt k1 ++ (oW wSt k2 ++ (oW wSt k3 ++ (wX12 hM aM yM gM)))))))))))))))) := Hx_perm X (pm_2721_25 _ _ _ _ _ _ _ _ _ _ _ _ _ _ _ _ _ _) (fun _ h => h)
  refine hc_l (As := [.long (((xs (iv + (1 : Int32)).toNatClampNeg).toInt64 <<< ((32 : Int32).toInt64 &&& 63)) ||| ((xs (iv + (2 : Int32)).toNatClampNeg).toInt64 &&& (4294967295 : Int64))), .int (xs (iv + (3 : Int32)).toNatClampNeg), .int (xs (iv + (4 : Int32)).toNatClampNeg), .int (xs (iv + (5 : Int32)).toNatClampNeg)]) (rest := []) C X (hh l D hT aT yT aT_2 yT_2 aT_7 yT_7 2000000 gT gT_2 gT_7 (((xs (iv + (1 : Int32)).toNatClampNeg).toInt64 <<< ((32 : Int32).toInt64 &&& 63)) ||| ((xs (iv + (2 : Int32)).toNatClampNeg).toInt64 &&& (4294967295 : Int64))) (xs (iv + (3 : Int32)).toNatClampNeg) (xs (iv + (4 : Int32)).toNatClampNeg) (xs (iv + (5 : Int32)).toNatClampNeg) (r, gT_7') f1 _) (cwV 4 C.2.2.2.2.2.1 (good_V q6_92 q6_93 q6_94 q1_1 q6_95) rfl rfl rfl (by decide +kernel) ⟨Nat.le_of_ble_eq_true rfl, Nat.le_of_ble_eq_true rfl⟩) (va_recv X.1 X.2.1 (ci := 11) (q0 := 0) rfl rfl) (fun q hq => hty q (by
    simp only [List.mem_append] at hq ⊢
    (repeat' (refine Or.elim hq ?_ ?_ <;> intro hq)) <;> simp [hq])) hl.1 rfl rfl (Nat.le_of_ble_eq_true rfl) dL_law_970 ⟨by show _ ≤ 218358; omega, by show _ ≤ 8447176; omega⟩ (fun H locs X => ?_)
  refine lv_aload_n hx hb dL_law_973 rfl (lv_at hl 2 rfl) ?_
  refine lv_aload_n hx hb dL_law_974 rfl (lv_at hl 0 rfl) ?_
  refine lv_iload_n hx hb dL_law_975 rfl (lv_at hl 3 rfl) ?_
  refine lv_iconst (v := (1 : Int32)) hx hb dL_law_976 (by decide) ?_
  refine lv_iadd hx hb dL_law_977 ?_
  refine va_sld hx hb hX hbl hbA X.2.2.2.1 (hin 1 (by decide)) dL_law_978 ?_
  refine lv_i2l hx hb dL_law_979 rfl ?_
  refine lv_bipush (v := (32 : Int32)) hx hb dL_law_980 (by decide) ?_
  refine lv_lshl hx hb dL_law_982 rfl ?_
  refine lv_aload_n hx hb dL_law_983 rfl (lv_at hl 0 rfl) ?_
  refine lv_iload_n hx hb dL_law_984 rfl (lv_at hl 3 rfl) ?_
  refine lv_iconst (v := (2 : Int32)) hx hb dL_law_985 (by decide) ?_
  refine lv_iadd hx hb dL_law_986 ?_
  refine va_sld hx hb hX hbl hbA X.2.2.2.1 (hin 2 (by decide)) dL_law_987 ?_
  refine lv_i2l hx hb dL_law_988 rfl ?_
  refine lv_ldc2 hx hb hown (hts _ (lw_all_tbl q10_51)) dL_law_989 ?_
  refine lv_land hx hb dL_law_992 ?_
  refine lv_lor hx hb dL_law_993 ?_
  refine lv_aload_n hx hb dL_law_994 rfl (lv_at hl 0 rfl) ?_
  refine lv_iload_n hx hb dL_law_995 rfl (lv_at hl 3 rfl) ?_
  refine lv_iconst (v := (3 : Int32)) hx hb dL_law_996 (by decide) ?_
  refine lv_iadd hx hb dL_law_997 ?_
  refine va_sld hx hb hX hbl hbA X.2.2.2.1 (hin 3 (by decide)) dL_law_998 ?_
  refine lv_aload_n hx hb dL_law_999 rfl (lv_at hl 0 rfl) ?_
  refine lv_iload_n hx hb dL_law_1000 rfl (lv_at hl 3 rfl) ?_
  refine lv_iconst (v := (4 : Int32)) hx hb dL_law_1001 (by decide) ?_
  refine lv_iadd hx hb dL_law_1002 ?_
  refine va_sld hx hb hX hbl hbA X.2.2.2.1 (hin 4 (by decide)) dL_law_1003 ?_
  refine lv_aload_n hx hb dL_law_1004 rfl (lv_at hl 0 rfl) ?_
  refine lv_iload_n hx hb dL_law_1005 rfl (lv_at hl 3 rfl) ?_
  refine lv_iconst (v := (5 : Int32)) hx hb dL_law_1006 (by decide) ?_
  refine lv_iadd hx hb dL_law_1007 ?_
  refine va_sld hx hb hX hbl hbA X.2.2.2.1 (hin 5 (by decide)) dL_law_1008 ?_
  have X : Hx D tys (fun q : Nat => s.heap.size ≤ q) s H locs ((wX12 hM aM yM gM) ++ (wX11 hT aT yT gT ++ (wTP (aT 0) aT_0 yT_0 gT_0 ++ (wKP (aT 4) aT_4 yT_4 gT_4 ++ (wX6 (aT 2) aT_2 yT_2 gT_2 ++ (wX9 (aT 3) aT_3 yT_3 gT_3 ++ (wX1 (aT 5) (va_up (va_up aT_5 0 (aT 2)) 1 (aT 3)) yT_5 gT_5 ++ (wX3 (aT 6) (va_up aT_6 0 (aT 2)) yT_6 gT_6 ++ (wX10 (aT 7) aT_7 yT_7 gT_7' ++ (wX4 hT_8 aT_8 yT_8 gT_8 ++ (wX0 (aT_8 0) aT_8_0 yT_8_0 gT_8_0 ++ (oW wPl sp ++ (oW wCo ak ++ (oW (wRd (aT 0) (aT 2)) rd ++ (oW wSt k0 ++ (oW wSt k1 ++ (oW wSt k2 ++ (oW wSt k3)))))))))))))))))) := Hx_perm X (pm_2721_26 _ _ _ _ _ _ _ _ _ _ _ _ _ _ _ _ _ _) (fun _ h => h)
  refine hc_l (As := [.long (((xs (iv + (1 : Int32)).toNatClampNeg).toInt64 <<< ((32 : Int32).toInt64 &&& 63)) ||| ((xs (iv + (2 : Int32)).toNatClampNeg).toInt64 &&& (4294967295 : Int64))), .int (xs (iv + (3 : Int32)).toNatClampNeg), .int (xs (iv + (4 : Int32)).toNatClampNeg), .int (xs (iv + (5 : Int32)).toNatClampNeg)]) (rest := [.long r]) C X (hm l D hM aM yM 2000000 gM (((xs (iv + (1 : Int32)).toNatClampNeg).toInt64 <<< ((32 : Int32).toInt64 &&& 63)) ||| ((xs (iv + (2 : Int32)).toNatClampNeg).toInt64 &&& (4294967295 : Int64))) (xs (iv + (3 : Int32)).toNatClampNeg) (xs (iv + (4 : Int32)).toNatClampNeg) (xs (iv + (5 : Int32)).toNatClampNeg) (r, gM') f2 _) (cwV 4 C.2.2.2.2.2.1 (good_V q10_16 q10_17 q10_18 q1_9 q10_19) rfl rfl rfl (by decide +kernel) ⟨Nat.le_of_ble_eq_true rfl, Nat.le_of_ble_eq_true rfl⟩) (va_recv X.1 X.2.1 (ci := 12) (q0 := 0) rfl rfl) (fun q hq => hty q (by
    simp only [List.mem_append] at hq ⊢
    (repeat' (refine Or.elim hq ?_ ?_ <;> intro hq)) <;> simp [hq])) hl.1 rfl rfl (Nat.le_of_ble_eq_true rfl) dL_law_1009 ⟨by show _ ≤ 218358; omega, by show _ ≤ 8447176; omega⟩ (fun H locs X => ?_)
  refine W.lcmp hx hb dL_law_1012 ?_
  refine lv_if_eq (tgt := 1150) hx hb dL_law_1013 (by decide) (fun _ => ?_) (fun c => absurd ((lg_cmp_eq _ _).mpr rfl) c)
  refine W.widen (k := (200 + 36 * (N + 1))) (n := (120000 + 10367 * (N + 1))) (by omega) (by omega) ?_
  have X : Hx D tys (fun q : Nat => s.heap.size ≤ q) s H locs (wX11 hT aT yT gT ++ (wTP (aT 0) aT_0 yT_0 gT_0 ++ (wKP (aT 4) aT_4 yT_4 gT_4 ++ (wX6 (aT 2) aT_2 yT_2 gT_2 ++ (wX9 (aT 3) aT_3 yT_3 gT_3 ++ (wX1 (aT 5) (va_up (va_up aT_5 0 (aT 2)) 1 (aT 3)) yT_5 gT_5 ++ (wX3 (aT 6) (va_up aT_6 0 (aT 2)) yT_6 gT_6 ++ (wX10 (aT 7) aT_7 yT_7 gT_7' ++ (wX4 hT_8 aT_8 yT_8 gT_8 ++ (wX0 (aT_8 0) aT_8_0 yT_8_0 gT_8_0 ++ (oW wPl sp ++ (oW wCo ak ++ (oW (wRd (aT 0) (aT 2)) rd ++ (oW wSt k0 ++ (oW wSt k1 ++ (oW wSt k2 ++ (oW wSt k3 ++ (wX12 hM aM yM gM')))))))))))))))))) := Hx_perm X (pm_2721_2 _ _ _ _ _ _ _ _ _ _ _ _ _ _ _ _ _ _) (fun _ h => h)
  exact cont H locs ⟨aT, yT, aT_0, yT_0, aT_2, yT_2, aT_3, yT_3, aT_4, yT_4, aT_5, yT_5, aT_6, yT_6, aT_7, yT_7, hT_8, aT_8, yT_8, aT_8_0, yT_8_0, gT, gT_0, gT_2, gT_3, gT_4, gT_5, gT_6, gT_7', gT_8, gT_8_0, sp, ak, rd, k0, k1, k2, k3, kk, aM, yM, gM', tys, X, hty, hw', h9, h10, h11, hk0, hk1, hk2, hk3⟩
theorem cs_21 (hh : T_c_X11_wheel) (hm : T_c_X12_wheel) {p : Program} {l : Launch} {e : Env} {s : State} {m : MethodId} {below : List Frame} {meth : Method} {c : Code} {D : Dx} {b L : Nat} {xs : Nat → Int32} {Z : State → Prop} (hL : L ≤ 3072) (C : Cx p s m #[Value.ref b] meth c cL_law ret 4 RL lw_all) (hts : ∀ w ∈ lw_tbl, w.before #[Value.ref b] s = true) (hX : va_X b L xs s s.heap) (hbl : b < s.heap.size) {hT hM N i : Nat} (hN : N < 512) (hi : i + 5 < L) {H : Heap} {locs : List Loc} (hI : LI D (fun q : Nat => s.heap.size ≤ q) s hT hM N H locs) {ls : Array Slot} {iv : Int32} (hiv : iv = nI i) (hl : lv_has ls 4 [(0, .ref b), (1, .ref hT), (2, .ref hM), (3, .int iv)]) (cont : ∀ (H1 : Heap) (locs1 : List Loc), LI D (fun q : Nat => s.heap.size ≤ q) s hT hM (N + 1) H1 locs1 → W p l e room_1 s m #[Value.ref b] below meth c H1 locs1 (200 + 36 * (N + 1)) (120000 + 10367 * (N + 1)) Z (F0 m 1150 ls [])) : W p l e room_1 s m #[Value.ref b] below meth c H locs (200 + 36 * N) (120000 + 10367 * N) Z (F0 m 1018 ls []) := by
  obtain ⟨hx, hb, hr, hml, hown, -, hlk⟩ := id C
  have hbA : ¬ (fun q : Nat => s.heap.size ≤ q) b := Nat.not_le.mpr hbl
  have hin0 : vp_in iv L := by rw [hiv]; exact vp_in_nI (by omega) (by omega)
  have hin : ∀ k : Nat, k ≤ 5 → vp_in (iv + nI k) L := fun k hk => vp_in_add hiv (by omega) hL
  obtain ⟨aT, yT, aT_0, yT_0, aT_2, yT_2, aT_3, yT_3, aT_4, yT_4, aT_5, yT_5, aT_6, yT_6, aT_7, yT_7, hT_8, aT_8, yT_8, aT_8_0, yT_8_0, gT, gT_0, gT_2, gT_3, gT_4, gT_5, gT_6, gT_7, gT_8, gT_8_0, sp, ak, rd, k0, k1, k2, k3, kk, aM, yM, gM, tys, X, hty, hw, h9, h10, h11, hk0, hk1, hk2, hk3⟩ := hI
  have hn : 2000000 ≤ 2000000 := Nat.le_refl _
  obtain ⟨r, f1, f2⟩ := st_wheel hw (xs (iv + (1 : Int32)).toNatClampNeg)
  refine lv_aload_n hx hb dL_law_1018 rfl (lv_at hl 1 rfl) ?_
  refine lv_aload_n hx hb dL_law_1019 rfl (lv_at hl 0 rfl) ?_
  refine lv_iload_n hx hb dL_law_1020 rfl (lv_at hl 3 rfl) ?_
  refine lv_iconst (v := (1 : Int32)) hx hb dL_law_1021 (by decide) ?_
  refine lv_iadd hx hb dL_law_1022 ?_
  refine va_sld hx hb hX hbl hbA X.2.2.2.1 (hin 1 (by decide)) dL_law_1023 ?_
  have X : Hx D tys (fun q : Nat => s.heap.size ≤ q) s H locs ((wX11 hT aT yT gT ++ (wX10 (aT 7) aT_7 yT_7 gT_7)) ++ (wTP (aT 0) aT_0 yT_0 gT_0 ++ (wKP (aT 4) aT_4 yT_4 gT_4 ++ (wX6 (aT 2) aT_2 yT_2 gT_2 ++ (wX9 (aT 3) aT_3 yT_3 gT_3 ++ (wX1 (aT 5) (va_up (va_up aT_5 0 (aT 2)) 1 (aT 3)) yT_5 gT_5 ++ (wX3 (aT 6) (va_up aT_6 0 (aT 2)) yT_6 gT_6 ++ (wX4 hT_8 aT_8 yT_8 gT_8 ++ (wX0 (aT_8 0) aT_8_0 yT_8_0 gT_8_0 ++ (oW wPl sp ++ (oW wCo ak ++ (oW (wRd (aT 0) (aT 2)) rd ++ (oW wSt k0 ++ (oW wSt k1 ++ (oW wSt k2 ++ (oW wSt k3 ++ (wX12 hM aM yM gM))))))))))))))))) := Hx_perm X (pm_2721_27 _ _ _ _ _ _ _ _ _ _ _ _ _ _ _ _ _ _) (fun _ h => h)
  refine hc_i (As := [.int (xs (iv + (1 : Int32)).toNatClampNeg)]) (rest := []) C X (hh l D hT aT yT aT_7 yT_7 gT gT_7 (xs (iv + (1 : Int32)).toNatClampNeg) r f1 _) (cwV 1 C.2.2.2.2.2.1 (good_V q6_118 q6_119 q6_120 q1_1 q6_121) rfl rfl rfl (by decide +kernel) ⟨Nat.le_of_ble_eq_true rfl, Nat.le_of_ble_eq_true rfl⟩) (va_recv X.1 X.2.1 (ci := 11) (q0 := 0) rfl rfl) (fun q hq => hty q (by
    simp only [List.mem_append] at hq ⊢
    (repeat' (refine Or.elim hq ?_ ?_ <;> intro hq)) <;> simp [hq])) hl.1 rfl rfl (Nat.le_of_ble_eq_true rfl) dL_law_1024 ⟨by show _ ≤ 218358; omega, by show _ ≤ 8447176; omega⟩ (fun H locs X => ?_)
  refine lv_aload_n hx hb dL_law_1027 rfl (lv_at hl 2 rfl) ?_
  refine lv_aload_n hx hb dL_law_1028 rfl (lv_at hl 0 rfl) ?_
  refine lv_iload_n hx hb dL_law_1029 rfl (lv_at hl 3 rfl) ?_
  refine lv_iconst (v := (1 : Int32)) hx hb dL_law_1030 (by decide) ?_
  refine lv_iadd hx hb dL_law_1031 ?_
  refine va_sld hx hb hX hbl hbA X.2.2.2.1 (hin 1 (by decide)) dL_law_1032 ?_
  have X : Hx D tys (fun q : Nat => s.heap.size ≤ q) s H locs ((wX12 hM aM yM gM) ++ (wX11 hT aT yT gT ++ (wTP (aT 0) aT_0 yT_0 gT_0 ++ (wKP (aT 4) aT_4 yT_4 gT_4 ++ (wX6 (aT 2) aT_2 yT_2 gT_2 ++ (wX9 (aT 3) aT_3 yT_3 gT_3 ++ (wX1 (aT 5) (va_up (va_up aT_5 0 (aT 2)) 1 (aT 3)) yT_5 gT_5 ++ (wX3 (aT 6) (va_up aT_6 0 (aT 2)) yT_6 gT_6 ++ (wX10 (aT 7) aT_7 yT_7 gT_7 ++ (wX4 hT_8 aT_8 yT_8 gT_8 ++ (wX0 (aT_8 0) aT_8_0 yT_8_0 gT_8_0 ++ (oW wPl sp ++ (oW wCo ak ++ (oW (wRd (aT 0) (aT 2)) rd ++ (oW wSt k0 ++ (oW wSt k1 ++ (oW wSt k2 ++ (oW wSt k3)))))))))))))))))) := Hx_perm X (pm_2721_28 _ _ _ _ _ _ _ _ _ _ _ _ _ _ _ _ _ _) (fun _ h => h)
  refine hc_i (As := [.int (xs (iv + (1 : Int32)).toNatClampNeg)]) (rest := [.int r]) C X (hm l D hM aM yM gM (xs (iv + (1 : Int32)).toNatClampNeg) r f2 _) (cwV 1 C.2.2.2.2.2.1 (good_V q10_21 q10_22 q10_23 q1_9 q10_24) rfl rfl rfl (by decide +kernel) ⟨Nat.le_of_ble_eq_true rfl, Nat.le_of_ble_eq_true rfl⟩) (va_recv X.1 X.2.1 (ci := 12) (q0 := 0) rfl rfl) (fun q hq => hty q (by
    simp only [List.mem_append] at hq ⊢
    (repeat' (refine Or.elim hq ?_ ?_ <;> intro hq)) <;> simp [hq])) hl.1 rfl rfl (Nat.le_of_ble_eq_true rfl) dL_law_1033 ⟨by show _ ≤ 218358; omega, by show _ ≤ 8447176; omega⟩ (fun H locs X => ?_)
  refine lv_icmp_eq (tgt := 1150) hx hb dL_law_1036 (by decide) (fun _ => ?_) (fun c => absurd rfl c)
  refine W.widen (k := (200 + 36 * (N + 1))) (n := (120000 + 10367 * (N + 1))) (by omega) (by omega) ?_
  have X : Hx D tys (fun q : Nat => s.heap.size ≤ q) s H locs (wX11 hT aT yT gT ++ (wTP (aT 0) aT_0 yT_0 gT_0 ++ (wKP (aT 4) aT_4 yT_4 gT_4 ++ (wX6 (aT 2) aT_2 yT_2 gT_2 ++ (wX9 (aT 3) aT_3 yT_3 gT_3 ++ (wX1 (aT 5) (va_up (va_up aT_5 0 (aT 2)) 1 (aT 3)) yT_5 gT_5 ++ (wX3 (aT 6) (va_up aT_6 0 (aT 2)) yT_6 gT_6 ++ (wX10 (aT 7) aT_7 yT_7 gT_7 ++ (wX4 hT_8 aT_8 yT_8 gT_8 ++ (wX0 (aT_8 0) aT_8_0 yT_8_0 gT_8_0 ++ (oW wPl sp ++ (oW wCo ak ++ (oW (wRd (aT 0) (aT 2)) rd ++ (oW wSt k0 ++ (oW wSt k1 ++ (oW wSt k2 ++ (oW wSt k3 ++ (wX12 hM aM yM gM)))))))))))))))))) := Hx_perm X (pm_2721_2 _ _ _ _ _ _ _ _ _ _ _ _ _ _ _ _ _ _) (fun _ h => h)
  exact cont H locs ⟨aT, yT, aT_0, yT_0, aT_2, yT_2, aT_3, yT_3, aT_4, yT_4, aT_5, yT_5, aT_6, yT_6, aT_7, yT_7, hT_8, aT_8, yT_8, aT_8_0, yT_8_0, gT, gT_0, gT_2, gT_3, gT_4, gT_5, gT_6, gT_7, gT_8, gT_8_0, sp, ak, rd, k0, k1, k2, k3, kk, aM, yM, gM, tys, X, hty, hw.idle, h9, h10, h11, hk0, hk1, hk2, hk3⟩
theorem cs_22 (hh : T_c_X11_date) (hm : T_c_X12_date) {p : Program} {l : Launch} {e : Env} {s : State} {m : MethodId} {below : List Frame} {meth : Method} {c : Code} {D : Dx} {b L : Nat} {xs : Nat → Int32} {Z : State → Prop} (hL : L ≤ 3072) (C : Cx p s m #[Value.ref b] meth c cL_law ret 4 RL lw_all) (hts : ∀ w ∈ lw_tbl, w.before #[Value.ref b] s = true) (hX : va_X b L xs s s.heap) (hbl : b < s.heap.size) {hT hM N i : Nat} (hN : N < 512) (hi : i + 5 < L) {H : Heap} {locs : List Loc} (hI : LI D (fun q : Nat => s.heap.size ≤ q) s hT hM N H locs) {ls : Array Slot} {iv : Int32} (hiv : iv = nI i) (hl : lv_has ls 4 [(0, .ref b), (1, .ref hT), (2, .ref hM), (3, .int iv)]) (cont : ∀ (H1 : Heap) (locs1 : List Loc), LI D (fun q : Nat => s.heap.size ≤ q) s hT hM (N + 1) H1 locs1 → W p l e room_1 s m #[Value.ref b] below meth c H1 locs1 (200 + 36 * (N + 1)) (120000 + 10367 * (N + 1)) Z (F0 m 1150 ls [])) : W p l e room_1 s m #[Value.ref b] below meth c H locs (200 + 36 * N) (120000 + 10367 * N) Z (F0 m 1041 ls []) := by
  obtain ⟨hx, hb, hr, hml, hown, -, hlk⟩ := id C
  have hbA : ¬ (fun q : Nat => s.heap.size ≤ q) b := Nat.not_le.mpr hbl
  have hin0 : vp_in iv L := by rw [hiv]; exact vp_in_nI (by omega) (by omega)
  have hin : ∀ k : Nat, k ≤ 5 → vp_in (iv + nI k) L := fun k hk => vp_in_add hiv (by omega) hL
  obtain ⟨aT, yT, aT_0, yT_0, aT_2, yT_2, aT_3, yT_3, aT_4, yT_4, aT_5, yT_5, aT_6, yT_6, aT_7, yT_7, hT_8, aT_8, yT_8, aT_8_0, yT_8_0, gT, gT_0, gT_2, gT_3, gT_4, gT_5, gT_6, gT_7, gT_8, gT_8_0, sp, ak, rd, k0, k1, k2, k3, kk, aM, yM, gM, tys, X, hty, hw, h9, h10, h11, hk0, hk1, hk2, hk3⟩ := hI
  have hn : 2000000 ≤ 2000000 := Nat.le_refl _
  obtain ⟨r, gM', f1, f2, hw'⟩ := st_date hn hw (((xs (iv + (1 : Int32)).toNatClampNeg).toInt64 <<< ((32 : Int32).toInt64 &&& 63)) ||| ((xs (iv + (2 : Int32)).toNatClampNeg).toInt64 &&& (4294967295 : Int64))) (xs (iv + (3 : Int32)).toNatClampNeg)
  refine lv_aload_n hx hb dL_law_1041 rfl (lv_at hl 1 rfl) ?_
  refine lv_aload_n hx hb dL_law_1042 rfl (lv_at hl 0 rfl) ?_
  refine lv_iload_n hx hb dL_law_1043 rfl (lv_at hl 3 rfl) ?_
  refine lv_iconst (v := (1 : Int32)) hx hb dL_law_1044 (by decide) ?_
  refine lv_iadd hx hb dL_law_1045 ?_
  refine va_sld hx hb hX hbl hbA X.2.2.2.1 (hin 1 (by decide)) dL_law_1046 ?_
  refine lv_i2l hx hb dL_law_1047 rfl ?_
  refine lv_bipush (v := (32 : Int32)) hx hb dL_law_1048 (by decide) ?_
  refine lv_lshl hx hb dL_law_1050 rfl ?_
  refine lv_aload_n hx hb dL_law_1051 rfl (lv_at hl 0 rfl) ?_
  refine lv_iload_n hx hb dL_law_1052 rfl (lv_at hl 3 rfl) ?_
  refine lv_iconst (v := (2 : Int32)) hx hb dL_law_1053 (by decide) ?_
  refine lv_iadd hx hb dL_law_1054 ?_
  refine va_sld hx hb hX hbl hbA X.2.2.2.1 (hin 2 (by decide)) dL_law_1055 ?_
  refine lv_i2l hx hb dL_law_1056 rfl ?_
  refine lv_ldc2 hx hb hown (hts _ (lw_all_tbl q10_51)) dL_law_1057 ?_
  refine lv_land hx hb dL_law_1060 ?_
  refine lv_lor hx hb dL_law_1061 ?_
  refine lv_aload_n hx hb dL_law_1062 rfl (lv_at hl 0 rfl) ?_
  refine lv_iload_n hx hb dL_law_1063 rfl (lv_at hl 3 rfl) ?_
  refine lv_iconst (v := (3 : Int32)) hx hb dL_law_1064 (by decide) ?_
  refine lv_iadd hx hb dL_law_1065 ?_
  refine va_sld hx hb hX hbl hbA X.2.2.2.1 (hin 3 (by decide)) dL_law_1066 ?_
  have X : Hx D tys (fun q : Nat => s.heap.size ≤ q) s H locs ((wX11 hT aT yT gT ++ (wX6 (aT 2) aT_2 yT_2 gT_2)) ++ (wTP (aT 0) aT_0 yT_0 gT_0 ++ (wKP (aT 4) aT_4 yT_4 gT_4 ++ (wX9 (aT 3) aT_3 yT_3 gT_3 ++ (wX1 (aT 5) (va_up (va_up aT_5 0 (aT 2)) 1 (aT 3)) yT_5 gT_5 ++ (wX3 (aT 6) (va_up aT_6 0 (aT 2)) yT_6 gT_6 ++ (wX10 (aT 7) aT_7 yT_7 gT_7 ++ (wX4 hT_8 aT_8 yT_8 gT_8 ++ (wX0 (aT_8 0) aT_8_0 yT_8_0 gT_8_0 ++ (oW wPl sp ++ (oW wCo ak ++ (oW (wRd (aT 0) (aT 2)) rd ++ (oW wSt k0 ++ (oW wSt k1 ++ (oW wSt k2 ++ (oW wSt k3 ++ (wX12 hM aM yM gM))))))))))))))))) := Hx_perm X (pm_2721_23 _ _ _ _ _ _ _ _ _ _ _ _ _ _ _ _ _ _) (fun _ h => h)
  refine hc_i (As := [.long (((xs (iv + (1 : Int32)).toNatClampNeg).toInt64 <<< ((32 : Int32).toInt64 &&& 63)) ||| ((xs (iv + (2 : Int32)).toNatClampNeg).toInt64 &&& (4294967295 : Int64))), .int (xs (iv + (3 : Int32)).toNatClampNeg)]) (rest := []) C X (hh l D hT aT yT aT_2 yT_2 gT gT_2 (((xs (iv + (1 : Int32)).toNatClampNeg).toInt64 <<< ((32 : Int32).toInt64 &&& 63)) ||| ((xs (iv + (2 : Int32)).toNatClampNeg).toInt64 &&& (4294967295 : Int64))) (xs (iv + (3 : Int32)).toNatClampNeg) r f1 _) (cwV 2 C.2.2.2.2.2.1 (good_V q6_122 q6_123 q6_124 q1_1 q6_125) rfl rfl rfl (by decide +kernel) ⟨Nat.le_of_ble_eq_true rfl, Nat.le_of_ble_eq_true rfl⟩) (va_recv X.1 X.2.1 (ci := 11) (q0 := 0) rfl rfl) (fun q hq => hty q (by
    simp only [List.mem_append] at hq ⊢
    (repeat' (refine Or.elim hq ?_ ?_ <;> intro hq)) <;> simp [hq])) hl.1 rfl rfl (Nat.le_of_ble_eq_true rfl) dL_law_1067 ⟨by show _ ≤ 218358; omega, by show _ ≤ 8447176; omega⟩ (fun H locs X => ?_)
  refine lv_aload_n hx hb dL_law_1070 rfl (lv_at hl 2 rfl) ?_
  refine lv_aload_n hx hb dL_law_1071 rfl (lv_at hl 0 rfl) ?_
  refine lv_iload_n hx hb dL_law_1072 rfl (lv_at hl 3 rfl) ?_
  refine lv_iconst (v := (1 : Int32)) hx hb dL_law_1073 (by decide) ?_
  refine lv_iadd hx hb dL_law_1074 ?_
  refine va_sld hx hb hX hbl hbA X.2.2.2.1 (hin 1 (by decide)) dL_law_1075 ?_
  refine lv_i2l hx hb dL_law_1076 rfl ?_
  refine lv_bipush (v := (32 : Int32)) hx hb dL_law_1077 (by decide) ?_
  refine lv_lshl hx hb dL_law_1079 rfl ?_
  refine lv_aload_n hx hb dL_law_1080 rfl (lv_at hl 0 rfl) ?_
  refine lv_iload_n hx hb dL_law_1081 rfl (lv_at hl 3 rfl) ?_
  refine lv_iconst (v := (2 : Int32)) hx hb dL_law_1082 (by decide) ?_
  refine lv_iadd hx hb dL_law_1083 ?_
  refine va_sld hx hb hX hbl hbA X.2.2.2.1 (hin 2 (by decide)) dL_law_1084 ?_
  refine lv_i2l hx hb dL_law_1085 rfl ?_
  refine lv_ldc2 hx hb hown (hts _ (lw_all_tbl q10_51)) dL_law_1086 ?_
  refine lv_land hx hb dL_law_1089 ?_
  refine lv_lor hx hb dL_law_1090 ?_
  refine lv_aload_n hx hb dL_law_1091 rfl (lv_at hl 0 rfl) ?_
  refine lv_iload_n hx hb dL_law_1092 rfl (lv_at hl 3 rfl) ?_
  refine lv_iconst (v := (3 : Int32)) hx hb dL_law_1093 (by decide) ?_
  refine lv_iadd hx hb dL_law_1094 ?_
  refine va_sld hx hb hX hbl hbA X.2.2.2.1 (hin 3 (by decide)) dL_law_1095 ?_
  have X : Hx D tys (fun q : Nat => s.heap.size ≤ q) s H locs ((wX12 hM aM yM gM) ++ (wX11 hT aT yT gT ++ (wTP (aT 0) aT_0 yT_0 gT_0 ++ (wKP (aT 4) aT_4 yT_4 gT_4 ++ (wX6 (aT 2) aT_2 yT_2 gT_2 ++ (wX9 (aT 3) aT_3 yT_3 gT_3 ++ (wX1 (aT 5) (va_up (va_up aT_5 0 (aT 2)) 1 (aT 3)) yT_5 gT_5 ++ (wX3 (aT 6) (va_up aT_6 0 (aT 2)) yT_6 gT_6 ++ (wX10 (aT 7) aT_7 yT_7 gT_7 ++ (wX4 hT_8 aT_8 yT_8 gT_8 ++ (wX0 (aT_8 0) aT_8_0 yT_8_0 gT_8_0 ++ (oW wPl sp ++ (oW wCo ak ++ (oW (wRd (aT 0) (aT 2)) rd ++ (oW wSt k0 ++ (oW wSt k1 ++ (oW wSt k2 ++ (oW wSt k3)))))))))))))))))) := Hx_perm X (pm_2721_24 _ _ _ _ _ _ _ _ _ _ _ _ _ _ _ _ _ _) (fun _ h => h)
  refine hc_i (As := [.long (((xs (iv + (1 : Int32)).toNatClampNeg).toInt64 <<< ((32 : Int32).toInt64 &&& 63)) ||| ((xs (iv + (2 : Int32)).toNatClampNeg).toInt64 &&& (4294967295 : Int64))), .int (xs (iv + (3 : Int32)).toNatClampNeg)]) (rest := [.int r]) C X (hm l D hM aM yM 2000000 gM (((xs (iv + (1 : Int32)).toNatClampNeg).toInt64 <<< ((32 : Int32).toInt64 &&& 63)) ||| ((xs (iv + (2 : Int32)).toNatClampNeg).toInt64 &&& (4294967295 : Int64))) (xs (iv + (3 : Int32)).toNatClampNeg) (r, gM') f2 _) (cwV 2 C.2.2.2.2.2.1 (good_V q10_25 q10_26 q10_27 q1_9 q10_28) rfl rfl rfl (by decide +kernel) ⟨Nat.le_of_ble_eq_true rfl, Nat.le_of_ble_eq_true rfl⟩) (va_recv X.1 X.2.1 (ci := 12) (q0 := 0) rfl rfl) (fun q hq => hty q (by
    simp only [List.mem_append] at hq ⊢
    (repeat' (refine Or.elim hq ?_ ?_ <;> intro hq)) <;> simp [hq])) hl.1 rfl rfl (Nat.le_of_ble_eq_true rfl) dL_law_1096 ⟨by show _ ≤ 218358; omega, by show _ ≤ 8447176; omega⟩ (fun H locs X => ?_)
  refine lv_icmp_eq (tgt := 1150) hx hb dL_law_1099 (by decide) (fun _ => ?_) (fun c => absurd rfl c)
  refine W.widen (k := (200 + 36 * (N + 1))) (n := (120000 + 10367 * (N + 1))) (by omega) (by omega) ?_
  have X : Hx D tys (fun q : Nat => s.heap.size ≤ q) s H locs (wX11 hT aT yT gT ++ (wTP (aT 0) aT_0 yT_0 gT_0 ++ (wKP (aT 4) aT_4 yT_4 gT_4 ++ (wX6 (aT 2) aT_2 yT_2 gT_2 ++ (wX9 (aT 3) aT_3 yT_3 gT_3 ++ (wX1 (aT 5) (va_up (va_up aT_5 0 (aT 2)) 1 (aT 3)) yT_5 gT_5 ++ (wX3 (aT 6) (va_up aT_6 0 (aT 2)) yT_6 gT_6 ++ (wX10 (aT 7) aT_7 yT_7 gT_7 ++ (wX4 hT_8 aT_8 yT_8 gT_8 ++ (wX0 (aT_8 0) aT_8_0 yT_8_0 gT_8_0 ++ (oW wPl sp ++ (oW wCo ak ++ (oW (wRd (aT 0) (aT 2)) rd ++ (oW wSt k0 ++ (oW wSt k1 ++ (oW wSt k2 ++ (oW wSt k3 ++ (wX12 hM aM yM gM')))))))))))))))))) := Hx_perm X (pm_2721_2 _ _ _ _ _ _ _ _ _ _ _ _ _ _ _ _ _ _) (fun _ h => h)
  exact cont H locs ⟨aT, yT, aT_0, yT_0, aT_2, yT_2, aT_3, yT_3, aT_4, yT_4, aT_5, yT_5, aT_6, yT_6, aT_7, yT_7, hT_8, aT_8, yT_8, aT_8_0, yT_8_0, gT, gT_0, gT_2, gT_3, gT_4, gT_5, gT_6, gT_7, gT_8, gT_8_0, sp, ak, rd, k0, k1, k2, k3, kk, aM, yM, gM', tys, X, hty, hw', h9, h10, h11, hk0, hk1, hk2, hk3⟩
