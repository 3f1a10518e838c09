theorem gw_5_37 : Cond.code yX11_limit cX11_limit 2 (some .int) ∈ GL := GL_5 (List.mem_of_getElem? (i := 37) rfl) rfl
theorem gw_5_34 : Cond.methodLink RL 7 yX11_limit ∈ GL := GL_5 (List.mem_of_getElem? (i := 34) rfl) rfl
theorem gw_5_35 : Cond.instanceMethod yX11_limit ∈ GL := GL_5 (List.mem_of_getElem? (i := 35) rfl) rfl
theorem gw_5_36 : Cond.selects RX11 yX11_limit yX11_limit ∈ GL := GL_5 (List.mem_of_getElem? (i := 36) rfl) rfl
theorem gw_5_33 : Cond.classLink RL 13 "java/util/NoSuchElementException" ∈ GL := GL_5 (List.mem_of_getElem? (i := 33) rfl) rfl
theorem gw_2_215 : Cond.code yX11_tell cX11_tell 3 (some .int) ∈ GL := GL_2 (List.mem_of_getElem? (i := 215) rfl) rfl
theorem gw_5_186 : Cond.code yX12_tell cX12_tell 5 (some .int) ∈ GL := GL_5 (List.mem_of_getElem? (i := 186) rfl) rfl
theorem gw_7_65 : Cond.constantLong RL 19 (4294967295) ∈ GL := GL_7 (List.mem_of_getElem? (i := 65) rfl) rfl
theorem gw_2_213 : Cond.instanceMethod yX11_tell ∈ GL := GL_2 (List.mem_of_getElem? (i := 213) rfl) rfl
theorem gw_5_184 : Cond.instanceMethod yX12_tell ∈ GL := GL_5 (List.mem_of_getElem? (i := 184) rfl) rfl
theorem gw_2_212 : Cond.methodLink RL 21 yX11_tell ∈ GL := GL_2 (List.mem_of_getElem? (i := 212) rfl) rfl
theorem gw_5_183 : Cond.methodLink RL 25 yX12_tell ∈ GL := GL_5 (List.mem_of_getElem? (i := 183) rfl) rfl
theorem gw_2_214 : Cond.selects RX11 yX11_tell yX11_tell ∈ GL := GL_2 (List.mem_of_getElem? (i := 214) rfl) rfl
theorem gw_5_185 : Cond.selects RX12 yX12_tell yX12_tell ∈ GL := GL_5 (List.mem_of_getElem? (i := 185) rfl) rfl
theorem gw_2_226 : Cond.code yX11_settings cX11_settings 1 (some .int) ∈ GL := GL_2 (List.mem_of_getElem? (i := 226) rfl) rfl
theorem gw_5_191 : Cond.code yX12_settings cX12_settings 2 (some .int) ∈ GL := GL_5 (List.mem_of_getElem? (i := 191) rfl) rfl
theorem gw_2_224 : Cond.instanceMethod yX11_settings ∈ GL := GL_2 (List.mem_of_getElem? (i := 224) rfl) rfl
theorem gw_5_189 : Cond.instanceMethod yX12_settings ∈ GL := GL_5 (List.mem_of_getElem? (i := 189) rfl) rfl
theorem gw_2_223 : Cond.methodLink RL 26 yX11_settings ∈ GL := GL_2 (List.mem_of_getElem? (i := 223) rfl) rfl
theorem gw_5_188 : Cond.methodLink RL 30 yX12_settings ∈ GL := GL_5 (List.mem_of_getElem? (i := 188) rfl) rfl
theorem gw_2_225 : Cond.selects RX11 yX11_settings yX11_settings ∈ GL := GL_2 (List.mem_of_getElem? (i := 225) rfl) rfl
theorem gw_5_190 : Cond.selects RX12 yX12_settings yX12_settings ∈ GL := GL_5 (List.mem_of_getElem? (i := 190) rfl) rfl
theorem gw_3_132 : Cond.code yX11_fault cX11_fault 2 (some .int) ∈ GL := GL_3 (List.mem_of_getElem? (i := 132) rfl) rfl
theorem gw_6_5 : Cond.code yX12_fault cX12_fault 2 (some .int) ∈ GL := GL_6 (List.mem_of_getElem? (i := 5) rfl) rfl
theorem gw_3_130 : Cond.instanceMethod yX11_fault ∈ GL := GL_3 (List.mem_of_getElem? (i := 130) rfl) rfl
theorem gw_6_3 : Cond.instanceMethod yX12_fault ∈ GL := GL_6 (List.mem_of_getElem? (i := 3) rfl) rfl
theorem gw_3_129 : Cond.methodLink RL 31 yX11_fault ∈ GL := GL_3 (List.mem_of_getElem? (i := 129) rfl) rfl
theorem gw_6_2 : Cond.methodLink RL 35 yX12_fault ∈ GL := GL_6 (List.mem_of_getElem? (i := 2) rfl) rfl
theorem gw_3_131 : Cond.selects RX11 yX11_fault yX11_fault ∈ GL := GL_3 (List.mem_of_getElem? (i := 131) rfl) rfl
theorem gw_6_4 : Cond.selects RX12 yX12_fault yX12_fault ∈ GL := GL_6 (List.mem_of_getElem? (i := 4) rfl) rfl
theorem gw_3_136 : Cond.code yX11_start cX11_start 1 (some .int) ∈ GL := GL_3 (List.mem_of_getElem? (i := 136) rfl) rfl
theorem gw_6_65 : Cond.code yX12_start cX12_start 1 (some .int) ∈ GL := GL_6 (List.mem_of_getElem? (i := 65) rfl) rfl
theorem gw_3_134 : Cond.instanceMethod yX11_start ∈ GL := GL_3 (List.mem_of_getElem? (i := 134) rfl) rfl
theorem gw_6_63 : Cond.instanceMethod yX12_start ∈ GL := GL_6 (List.mem_of_getElem? (i := 63) rfl) rfl
theorem gw_3_133 : Cond.methodLink RL 36 yX11_start ∈ GL := GL_3 (List.mem_of_getElem? (i := 133) rfl) rfl
theorem gw_6_62 : Cond.methodLink RL 39 yX12_start ∈ GL := GL_6 (List.mem_of_getElem? (i := 62) rfl) rfl
theorem gw_3_135 : Cond.selects RX11 yX11_start yX11_start ∈ GL := GL_3 (List.mem_of_getElem? (i := 135) rfl) rfl
theorem gw_6_64 : Cond.selects RX12 yX12_start yX12_start ∈ GL := GL_6 (List.mem_of_getElem? (i := 64) rfl) rfl
theorem gw_3_153 : Cond.code yX11_stop cX11_stop 1 (some .boolean) ∈ GL := GL_3 (List.mem_of_getElem? (i := 153) rfl) rfl
theorem gw_6_81 : Cond.code yX12_stop cX12_stop 1 (some .boolean) ∈ GL := GL_6 (List.mem_of_getElem? (i := 81) rfl) rfl
theorem gw_3_151 : Cond.instanceMethod yX11_stop ∈ GL := GL_3 (List.mem_of_getElem? (i := 151) rfl) rfl
theorem gw_6_79 : Cond.instanceMethod yX12_stop ∈ GL := GL_6 (List.mem_of_getElem? (i := 79) rfl) rfl
theorem gw_3_150 : Cond.methodLink RL 40 yX11_stop ∈ GL := GL_3 (List.mem_of_getElem? (i := 150) rfl) rfl
theorem gw_6_78 : Cond.methodLink RL 44 yX12_stop ∈ GL := GL_6 (List.mem_of_getElem? (i := 78) rfl) rfl
theorem gw_3_152 : Cond.selects RX11 yX11_stop yX11_stop ∈ GL := GL_3 (List.mem_of_getElem? (i := 152) rfl) rfl
theorem gw_6_80 : Cond.selects RX12 yX12_stop yX12_stop ∈ GL := GL_6 (List.mem_of_getElem? (i := 80) rfl) rfl
theorem gw_3_161 : Cond.code yX11_draw cX11_draw 2 (some .int) ∈ GL := GL_3 (List.mem_of_getElem? (i := 161) rfl) rfl
theorem gw_6_85 : Cond.code yX12_draw cX12_draw 2 (some .int) ∈ GL := GL_6 (List.mem_of_getElem? (i := 85) rfl) rfl
theorem gw_3_159 : Cond.instanceMethod yX11_draw ∈ GL := GL_3 (List.mem_of_getElem? (i := 159) rfl) rfl
theorem gw_6_83 : Cond.instanceMethod yX12_draw ∈ GL := GL_6 (List.mem_of_getElem? (i := 83) rfl) rfl
theorem gw_3_158 : Cond.methodLink RL 45 yX11_draw ∈ GL := GL_3 (List.mem_of_getElem? (i := 158) rfl) rfl
theorem gw_6_82 : Cond.methodLink RL 48 yX12_draw ∈ GL := GL_6 (List.mem_of_getElem? (i := 82) rfl) rfl
theorem gw_3_160 : Cond.selects RX11 yX11_draw yX11_draw ∈ GL := GL_3 (List.mem_of_getElem? (i := 160) rfl) rfl
theorem gw_6_84 : Cond.selects RX12 yX12_draw yX12_draw ∈ GL := GL_6 (List.mem_of_getElem? (i := 84) rfl) rfl
theorem gw_3_231 : Cond.code yX11_hand cX11_hand 5 (some .int) ∈ GL := GL_3 (List.mem_of_getElem? (i := 231) rfl) rfl
theorem gw_6_131 : Cond.code yX12_hand cX12_hand 5 (some .int) ∈ GL := GL_6 (List.mem_of_getElem? (i := 131) rfl) rfl
theorem gw_3_229 : Cond.instanceMethod yX11_hand ∈ GL := GL_3 (List.mem_of_getElem? (i := 229) rfl) rfl
theorem gw_6_129 : Cond.instanceMethod yX12_hand ∈ GL := GL_6 (List.mem_of_getElem? (i := 129) rfl) rfl
theorem gw_3_228 : Cond.methodLink RL 49 yX11_hand ∈ GL := GL_3 (List.mem_of_getElem? (i := 228) rfl) rfl
theorem gw_6_128 : Cond.methodLink RL 53 yX12_hand ∈ GL := GL_6 (List.mem_of_getElem? (i := 128) rfl) rfl
theorem gw_3_230 : Cond.selects RX11 yX11_hand yX11_hand ∈ GL := GL_3 (List.mem_of_getElem? (i := 230) rfl) rfl
theorem gw_6_130 : Cond.selects RX12 yX12_hand yX12_hand ∈ GL := GL_6 (List.mem_of_getElem? (i := 130) rfl) rfl
theorem gw_3_236 : Cond.code yX11_take cX11_take 2 (some .int) ∈ GL := GL_3 (List.mem_of_getElem? (i := 236) rfl) rfl
theorem gw_6_135 : Cond.code yX12_take cX12_take 4 (some .int) ∈ GL := GL_6 (List.mem_of_getElem? (i := 135) rfl) rfl
theorem gw_3_234 : Cond.instanceMethod yX11_take ∈ GL := GL_3 (List.mem_of_getElem? (i := 234) rfl) rfl
theorem gw_6_133 : Cond.instanceMethod yX12_take ∈ GL := GL_6 (List.mem_of_getElem? (i := 133) rfl) rfl
theorem gw_3_233 : Cond.methodLink RL 54 yX11_take ∈ GL := GL_3 (List.mem_of_getElem? (i := 233) rfl) rfl
theorem gw_6_132 : Cond.methodLink RL 57 yX12_take ∈ GL := GL_6 (List.mem_of_getElem? (i := 132) rfl) rfl
theorem gw_3_235 : Cond.selects RX11 yX11_take yX11_take ∈ GL := GL_3 (List.mem_of_getElem? (i := 235) rfl) rfl
theorem gw_6_134 : Cond.selects RX12 yX12_take yX12_take ∈ GL := GL_6 (List.mem_of_getElem? (i := 134) rfl) rfl
theorem gw_4_5 : Cond.code yX11_count cX11_count 2 (some .int) ∈ GL := GL_4 (List.mem_of_getElem? (i := 5) rfl) rfl
theorem gw_6_139 : Cond.code yX12_count cX12_count 2 (some .int) ∈ GL := GL_6 (List.mem_of_getElem? (i := 139) rfl) rfl
theorem gw_4_3 : Cond.instanceMethod yX11_count ∈ GL := GL_4 (List.mem_of_getElem? (i := 3) rfl) rfl
theorem gw_6_137 : Cond.instanceMethod yX12_count ∈ GL := GL_6 (List.mem_of_getElem? (i := 137) rfl) rfl
theorem gw_4_2 : Cond.methodLink RL 58 yX11_count ∈ GL := GL_4 (List.mem_of_getElem? (i := 2) rfl) rfl
theorem gw_6_136 : Cond.methodLink RL 61 yX12_count ∈ GL := GL_6 (List.mem_of_getElem? (i := 136) rfl) rfl
theorem gw_4_4 : Cond.selects RX11 yX11_count yX11_count ∈ GL := GL_4 (List.mem_of_getElem? (i := 4) rfl) rfl
theorem gw_6_138 : Cond.selects RX12 yX12_count yX12_count ∈ GL := GL_6 (List.mem_of_getElem? (i := 138) rfl) rfl
theorem gw_6_9 : Cond.code yX12_limit cX12_limit 2 (some .int) ∈ GL := GL_6 (List.mem_of_getElem? (i := 9) rfl) rfl
theorem gw_5_32 : Cond.codeWith yL_limit cL_limit 4 (some .int) [(0, 9, 12, 13)] ∈ GL := GL_5 (List.mem_of_getElem? (i := 32) rfl) rfl
theorem gw_1_0 : Cond.initialized RL ∈ GL := GL_1 (List.mem_of_getElem? (i := 0) rfl) rfl
theorem gw_6_7 : Cond.instanceMethod yX12_limit ∈ GL := GL_6 (List.mem_of_getElem? (i := 7) rfl) rfl
theorem gw_5_30 : Cond.methodLink RL 62 yL_limit ∈ GL := GL_5 (List.mem_of_getElem? (i := 30) rfl) rfl
theorem gw_6_6 : Cond.methodLink RL 67 yX12_limit ∈ GL := GL_6 (List.mem_of_getElem? (i := 6) rfl) rfl
theorem gw_6_8 : Cond.selects RX12 yX12_limit yX12_limit ∈ GL := GL_6 (List.mem_of_getElem? (i := 8) rfl) rfl
theorem gw_5_31 : Cond.static yL_limit ∈ GL := GL_5 (List.mem_of_getElem? (i := 31) rfl) rfl
theorem gw_4_17 : Cond.code yX11_odds cX11_odds 4 (some .long) ∈ GL := GL_4 (List.mem_of_getElem? (i := 17) rfl) rfl
theorem gw_6_57 : Cond.code yX12_odds cX12_odds 10 (some .long) ∈ GL := GL_6 (List.mem_of_getElem? (i := 57) rfl) rfl
theorem gw_4_15 : Cond.instanceMethod yX11_odds ∈ GL := GL_4 (List.mem_of_getElem? (i := 15) rfl) rfl
theorem gw_6_55 : Cond.instanceMethod yX12_odds ∈ GL := GL_6 (List.mem_of_getElem? (i := 55) rfl) rfl
theorem gw_4_14 : Cond.methodLink RL 68 yX11_odds ∈ GL := GL_4 (List.mem_of_getElem? (i := 14) rfl) rfl
theorem gw_6_54 : Cond.methodLink RL 72 yX12_odds ∈ GL := GL_6 (List.mem_of_getElem? (i := 54) rfl) rfl
theorem gw_4_16 : Cond.selects RX11 yX11_odds yX11_odds ∈ GL := GL_4 (List.mem_of_getElem? (i := 16) rfl) rfl
theorem gw_6_56 : Cond.selects RX12 yX12_odds yX12_odds ∈ GL := GL_6 (List.mem_of_getElem? (i := 56) rfl) rfl
theorem gw_4_28 : Cond.code yX11_history cX11_history 2 (some .int) ∈ GL := GL_4 (List.mem_of_getElem? (i := 28) rfl) rfl
theorem gw_6_147 : Cond.code yX12_history cX12_history 2 (some .int) ∈ GL := GL_6 (List.mem_of_getElem? (i := 147) rfl) rfl
theorem gw_4_26 : Cond.instanceMethod yX11_history ∈ GL := GL_4 (List.mem_of_getElem? (i := 26) rfl) rfl
theorem gw_6_145 : Cond.instanceMethod yX12_history ∈ GL := GL_6 (List.mem_of_getElem? (i := 145) rfl) rfl
theorem gw_4_25 : Cond.methodLink RL 73 yX11_history ∈ GL := GL_4 (List.mem_of_getElem? (i := 25) rfl) rfl
theorem gw_6_144 : Cond.methodLink RL 76 yX12_history ∈ GL := GL_6 (List.mem_of_getElem? (i := 144) rfl) rfl
theorem gw_4_27 : Cond.selects RX11 yX11_history yX11_history ∈ GL := GL_4 (List.mem_of_getElem? (i := 27) rfl) rfl
theorem gw_6_146 : Cond.selects RX12 yX12_history yX12_history ∈ GL := GL_6 (List.mem_of_getElem? (i := 146) rfl) rfl
theorem gw_4_36 : Cond.code yX11_pool cX11_pool 2 (some .int) ∈ GL := GL_4 (List.mem_of_getElem? (i := 36) rfl) rfl
theorem gw_6_151 : Cond.code yX12_pool cX12_pool 2 (some .int) ∈ GL := GL_6 (List.mem_of_getElem? (i := 151) rfl) rfl
theorem gw_4_34 : Cond.instanceMethod yX11_pool ∈ GL := GL_4 (List.mem_of_getElem? (i := 34) rfl) rfl
theorem gw_6_149 : Cond.instanceMethod yX12_pool ∈ GL := GL_6 (List.mem_of_getElem? (i := 149) rfl) rfl
theorem gw_4_33 : Cond.methodLink RL 77 yX11_pool ∈ GL := GL_4 (List.mem_of_getElem? (i := 33) rfl) rfl
theorem gw_6_148 : Cond.methodLink RL 80 yX12_pool ∈ GL := GL_6 (List.mem_of_getElem? (i := 148) rfl) rfl
theorem gw_4_35 : Cond.selects RX11 yX11_pool yX11_pool ∈ GL := GL_4 (List.mem_of_getElem? (i := 35) rfl) rfl
theorem gw_6_150 : Cond.selects RX12 yX12_pool yX12_pool ∈ GL := GL_6 (List.mem_of_getElem? (i := 150) rfl) rfl
theorem gw_4_40 : Cond.code yX11_row cX11_row 4 (some .int) ∈ GL := GL_4 (List.mem_of_getElem? (i := 40) rfl) rfl
theorem gw_6_155 : Cond.code yX12_row cX12_row 4 (some .int) ∈ GL := GL_6 (List.mem_of_getElem? (i := 155) rfl) rfl
theorem gw_4_38 : Cond.instanceMethod yX11_row ∈ GL := GL_4 (List.mem_of_getElem? (i := 38) rfl) rfl
theorem gw_6_153 : Cond.instanceMethod yX12_row ∈ GL := GL_6 (List.mem_of_getElem? (i := 153) rfl) rfl
theorem gw_4_37 : Cond.methodLink RL 81 yX11_row ∈ GL := GL_4 (List.mem_of_getElem? (i := 37) rfl) rfl
theorem gw_6_152 : Cond.methodLink RL 85 yX12_row ∈ GL := GL_6 (List.mem_of_getElem? (i := 152) rfl) rfl
theorem gw_4_39 : Cond.selects RX11 yX11_row yX11_row ∈ GL := GL_4 (List.mem_of_getElem? (i := 39) rfl) rfl
theorem gw_6_154 : Cond.selects RX12 yX12_row yX12_row ∈ GL := GL_6 (List.mem_of_getElem? (i := 154) rfl) rfl
theorem gw_4_56 : Cond.code yX11_bound cX11_bound 4 (some .int) ∈ GL := GL_4 (List.mem_of_getElem? (i := 56) rfl) rfl
theorem gw_6_163 : Cond.code yX12_bound cX12_bound 4 (some .int) ∈ GL := GL_6 (List.mem_of_getElem? (i := 163) rfl) rfl
theorem gw_4_54 : Cond.instanceMethod yX11_bound ∈ GL := GL_4 (List.mem_of_getElem? (i := 54) rfl) rfl
theorem gw_6_161 : Cond.instanceMethod yX12_bound ∈ GL := GL_6 (List.mem_of_getElem? (i := 161) rfl) rfl
theorem gw_4_53 : Cond.methodLink RL 86 yX11_bound ∈ GL := GL_4 (List.mem_of_getElem? (i := 53) rfl) rfl
theorem gw_6_160 : Cond.methodLink RL 89 yX12_bound ∈ GL := GL_6 (List.mem_of_getElem? (i := 160) rfl) rfl
theorem gw_4_55 : Cond.selects RX11 yX11_bound yX11_bound ∈ GL := GL_4 (List.mem_of_getElem? (i := 55) rfl) rfl
theorem gw_6_162 : Cond.selects RX12 yX12_bound yX12_bound ∈ GL := GL_6 (List.mem_of_getElem? (i := 162) rfl) rfl
theorem gw_4_87 : Cond.code yX11_holds cX11_holds 4 (some .int) ∈ GL := GL_4 (List.mem_of_getElem? (i := 87) rfl) rfl
theorem gw_6_198 : Cond.code yX12_holds cX12_holds 4 (some .int) ∈ GL := GL_6 (List.mem_of_getElem? (i := 198) rfl) rfl
theorem gw_4_85 : Cond.instanceMethod yX11_holds ∈ GL := GL_4 (List.mem_of_getElem? (i := 85) rfl) rfl
theorem gw_6_196 : Cond.instanceMethod yX12_holds ∈ GL := GL_6 (List.mem_of_getElem? (i := 196) rfl) rfl
theorem gw_4_84 : Cond.methodLink RL 90 yX11_holds ∈ GL := GL_4 (List.mem_of_getElem? (i := 84) rfl) rfl
theorem gw_6_195 : Cond.methodLink RL 93 yX12_holds ∈ GL := GL_6 (List.mem_of_getElem? (i := 195) rfl) rfl
theorem gw_4_86 : Cond.selects RX11 yX11_holds yX11_holds ∈ GL := GL_4 (List.mem_of_getElem? (i := 86) rfl) rfl
theorem gw_6_197 : Cond.selects RX12 yX12_holds yX12_holds ∈ GL := GL_6 (List.mem_of_getElem? (i := 197) rfl) rfl
theorem gw_4_95 : Cond.code yX11_claim cX11_claim 2 (some .int) ∈ GL := GL_4 (List.mem_of_getElem? (i := 95) rfl) rfl
theorem gw_6_208 : Cond.code yX12_claim cX12_claim 3 (some .int) ∈ GL := GL_6 (List.mem_of_getElem? (i := 208) rfl) rfl
theorem gw_4_93 : Cond.instanceMethod yX11_claim ∈ GL := GL_4 (List.mem_of_getElem? (i := 93) rfl) rfl
theorem gw_6_206 : Cond.instanceMethod yX12_claim ∈ GL := GL_6 (List.mem_of_getElem? (i := 206) rfl) rfl
theorem gw_4_92 : Cond.methodLink RL 94 yX11_claim ∈ GL := GL_4 (List.mem_of_getElem? (i := 92) rfl) rfl
theorem gw_6_205 : Cond.methodLink RL 97 yX12_claim ∈ GL := GL_6 (List.mem_of_getElem? (i := 205) rfl) rfl
theorem gw_4_94 : Cond.selects RX11 yX11_claim yX11_claim ∈ GL := GL_4 (List.mem_of_getElem? (i := 94) rfl) rfl
theorem gw_6_207 : Cond.selects RX12 yX12_claim yX12_claim ∈ GL := GL_6 (List.mem_of_getElem? (i := 207) rfl) rfl
theorem gw_4_104 : Cond.code yX11_tuple cX11_tuple 3 (some .int) ∈ GL := GL_4 (List.mem_of_getElem? (i := 104) rfl) rfl
theorem gw_6_212 : Cond.code yX12_tuple cX12_tuple 3 (some .int) ∈ GL := GL_6 (List.mem_of_getElem? (i := 212) rfl) rfl
theorem gw_4_102 : Cond.instanceMethod yX11_tuple ∈ GL := GL_4 (List.mem_of_getElem? (i := 102) rfl) rfl
theorem gw_6_210 : Cond.instanceMethod yX12_tuple ∈ GL := GL_6 (List.mem_of_getElem? (i := 210) rfl) rfl
theorem gw_6_209 : Cond.methodLink RL 101 yX12_tuple ∈ GL := GL_6 (List.mem_of_getElem? (i := 209) rfl) rfl
theorem gw_4_101 : Cond.methodLink RL 98 yX11_tuple ∈ GL := GL_4 (List.mem_of_getElem? (i := 101) rfl) rfl
theorem gw_4_103 : Cond.selects RX11 yX11_tuple yX11_tuple ∈ GL := GL_4 (List.mem_of_getElem? (i := 103) rfl) rfl
theorem gw_6_211 : Cond.selects RX12 yX12_tuple yX12_tuple ∈ GL := GL_6 (List.mem_of_getElem? (i := 211) rfl) rfl
theorem gw_4_119 : Cond.code yX11_spreads cX11_spreads 8 (some .boolean) ∈ GL := GL_4 (List.mem_of_getElem? (i := 119) rfl) rfl
theorem gw_6_224 : Cond.code yX12_spreads cX12_spreads 3 (some .boolean) ∈ GL := GL_6 (List.mem_of_getElem? (i := 224) rfl) rfl
theorem gw_4_117 : Cond.instanceMethod yX11_spreads ∈ GL := GL_4 (List.mem_of_getElem? (i := 117) rfl) rfl
theorem gw_6_222 : Cond.instanceMethod yX12_spreads ∈ GL := GL_6 (List.mem_of_getElem? (i := 222) rfl) rfl
theorem gw_4_116 : Cond.methodLink RL 102 yX11_spreads ∈ GL := GL_4 (List.mem_of_getElem? (i := 116) rfl) rfl
theorem gw_6_221 : Cond.methodLink RL 106 yX12_spreads ∈ GL := GL_6 (List.mem_of_getElem? (i := 221) rfl) rfl
theorem gw_4_118 : Cond.selects RX11 yX11_spreads yX11_spreads ∈ GL := GL_4 (List.mem_of_getElem? (i := 118) rfl) rfl
theorem gw_6_223 : Cond.selects RX12 yX12_spreads yX12_spreads ∈ GL := GL_6 (List.mem_of_getElem? (i := 223) rfl) rfl
theorem gw_4_124 : Cond.code yX11_lag cX11_lag 3 (some .int) ∈ GL := GL_4 (List.mem_of_getElem? (i := 124) rfl) rfl
theorem gw_6_228 : Cond.code yX12_lag cX12_lag 3 (some .int) ∈ GL := GL_6 (List.mem_of_getElem? (i := 228) rfl) rfl
theorem gw_4_122 : Cond.instanceMethod yX11_lag ∈ GL := GL_4 (List.mem_of_getElem? (i := 122) rfl) rfl
theorem gw_6_226 : Cond.instanceMethod yX12_lag ∈ GL := GL_6 (List.mem_of_getElem? (i := 226) rfl) rfl
theorem gw_4_121 : Cond.methodLink RL 107 yX11_lag ∈ GL := GL_4 (List.mem_of_getElem? (i := 121) rfl) rfl
theorem gw_6_225 : Cond.methodLink RL 110 yX12_lag ∈ GL := GL_6 (List.mem_of_getElem? (i := 225) rfl) rfl
theorem gw_4_123 : Cond.selects RX11 yX11_lag yX11_lag ∈ GL := GL_4 (List.mem_of_getElem? (i := 123) rfl) rfl
theorem gw_6_227 : Cond.selects RX12 yX12_lag yX12_lag ∈ GL := GL_6 (List.mem_of_getElem? (i := 227) rfl) rfl
theorem gw_4_132 : Cond.code yX11_echo cX11_echo 6 (some .int) ∈ GL := GL_4 (List.mem_of_getElem? (i := 132) rfl) rfl
theorem gw_6_236 : Cond.code yX12_echo cX12_echo 4 (some .int) ∈ GL := GL_6 (List.mem_of_getElem? (i := 236) rfl) rfl
theorem gw_4_130 : Cond.instanceMethod yX11_echo ∈ GL := GL_4 (List.mem_of_getElem? (i := 130) rfl) rfl
theorem gw_6_234 : Cond.instanceMethod yX12_echo ∈ GL := GL_6 (List.mem_of_getElem? (i := 234) rfl) rfl
theorem gw_4_129 : Cond.methodLink RL 111 yX11_echo ∈ GL := GL_4 (List.mem_of_getElem? (i := 129) rfl) rfl
theorem gw_6_233 : Cond.methodLink RL 114 yX12_echo ∈ GL := GL_6 (List.mem_of_getElem? (i := 233) rfl) rfl
theorem gw_4_131 : Cond.selects RX11 yX11_echo yX11_echo ∈ GL := GL_4 (List.mem_of_getElem? (i := 131) rfl) rfl
theorem gw_6_235 : Cond.selects RX12 yX12_echo yX12_echo ∈ GL := GL_6 (List.mem_of_getElem? (i := 235) rfl) rfl
theorem gw_4_136 : Cond.code yX11_compared cX11_compared 2 (some .int) ∈ GL := GL_4 (List.mem_of_getElem? (i := 136) rfl) rfl
theorem gw_7_0 : Cond.code yX12_compared cX12_compared 8 (some .int) ∈ GL := GL_7 (List.mem_of_getElem? (i := 0) rfl) rfl
theorem gw_4_134 : Cond.instanceMethod yX11_compared ∈ GL := GL_4 (List.mem_of_getElem? (i := 134) rfl) rfl
theorem gw_6_238 : Cond.instanceMethod yX12_compared ∈ GL := GL_6 (List.mem_of_getElem? (i := 238) rfl) rfl
theorem gw_4_133 : Cond.methodLink RL 115 yX11_compared ∈ GL := GL_4 (List.mem_of_getElem? (i := 133) rfl) rfl
theorem gw_6_237 : Cond.methodLink RL 118 yX12_compared ∈ GL := GL_6 (List.mem_of_getElem? (i := 237) rfl) rfl
theorem gw_4_135 : Cond.selects RX11 yX11_compared yX11_compared ∈ GL := GL_4 (List.mem_of_getElem? (i := 135) rfl) rfl
theorem gw_6_239 : Cond.selects RX12 yX12_compared yX12_compared ∈ GL := GL_6 (List.mem_of_getElem? (i := 239) rfl) rfl
theorem gw_4_186 : Cond.code yX11_longest cX11_longest 3 (some .int) ∈ GL := GL_4 (List.mem_of_getElem? (i := 186) rfl) rfl
theorem gw_7_20 : Cond.code yX12_longest cX12_longest 7 (some .int) ∈ GL := GL_7 (List.mem_of_getElem? (i := 20) rfl) rfl
theorem gw_4_184 : Cond.instanceMethod yX11_longest ∈ GL := GL_4 (List.mem_of_getElem? (i := 184) rfl) rfl
theorem gw_7_18 : Cond.instanceMethod yX12_longest ∈ GL := GL_7 (List.mem_of_getElem? (i := 18) rfl) rfl
theorem gw_4_183 : Cond.methodLink RL 119 yX11_longest ∈ GL := GL_4 (List.mem_of_getElem? (i := 183) rfl) rfl
theorem gw_7_17 : Cond.methodLink RL 123 yX12_longest ∈ GL := GL_7 (List.mem_of_getElem? (i := 17) rfl) rfl
theorem gw_4_185 : Cond.selects RX11 yX11_longest yX11_longest ∈ GL := GL_4 (List.mem_of_getElem? (i := 185) rfl) rfl
theorem gw_7_19 : Cond.selects RX12 yX12_longest yX12_longest ∈ GL := GL_7 (List.mem_of_getElem? (i := 19) rfl) rfl
theorem gw_4_194 : Cond.code yX11_ahead cX11_ahead 3 (some .int) ∈ GL := GL_4 (List.mem_of_getElem? (i := 194) rfl) rfl
theorem gw_7_24 : Cond.code yX12_ahead cX12_ahead 4 (some .int) ∈ GL := GL_7 (List.mem_of_getElem? (i := 24) rfl) rfl
theorem gw_4_192 : Cond.instanceMethod yX11_ahead ∈ GL := GL_4 (List.mem_of_getElem? (i := 192) rfl) rfl
theorem gw_7_22 : Cond.instanceMethod yX12_ahead ∈ GL := GL_7 (List.mem_of_getElem? (i := 22) rfl) rfl
theorem gw_4_191 : Cond.methodLink RL 124 yX11_ahead ∈ GL := GL_4 (List.mem_of_getElem? (i := 191) rfl) rfl
theorem gw_7_21 : Cond.methodLink RL 127 yX12_ahead ∈ GL := GL_7 (List.mem_of_getElem? (i := 21) rfl) rfl
theorem gw_4_193 : Cond.selects RX11 yX11_ahead yX11_ahead ∈ GL := GL_4 (List.mem_of_getElem? (i := 193) rfl) rfl
theorem gw_7_23 : Cond.selects RX12 yX12_ahead yX12_ahead ∈ GL := GL_7 (List.mem_of_getElem? (i := 23) rfl) rfl
theorem gw_4_230 : Cond.code yX11_quiet cX11_quiet 2 (some .int) ∈ GL := GL_4 (List.mem_of_getElem? (i := 230) rfl) rfl
theorem gw_7_36 : Cond.code yX12_quiet cX12_quiet 3 (some .int) ∈ GL := GL_7 (List.mem_of_getElem? (i := 36) rfl) rfl
theorem gw_4_228 : Cond.instanceMethod yX11_quiet ∈ GL := GL_4 (List.mem_of_getElem? (i := 228) rfl) rfl
theorem gw_7_34 : Cond.instanceMethod yX12_quiet ∈ GL := GL_7 (List.mem_of_getElem? (i := 34) rfl) rfl
theorem gw_4_227 : Cond.methodLink RL 128 yX11_quiet ∈ GL := GL_4 (List.mem_of_getElem? (i := 227) rfl) rfl
theorem gw_7_33 : Cond.methodLink RL 131 yX12_quiet ∈ GL := GL_7 (List.mem_of_getElem? (i := 33) rfl) rfl
theorem gw_4_229 : Cond.selects RX11 yX11_quiet yX11_quiet ∈ GL := GL_4 (List.mem_of_getElem? (i := 229) rfl) rfl
theorem gw_7_35 : Cond.selects RX12 yX12_quiet yX12_quiet ∈ GL := GL_7 (List.mem_of_getElem? (i := 35) rfl) rfl
theorem gw_4_234 : Cond.code yX11_replayed cX11_replayed 5 (some .int) ∈ GL := GL_4 (List.mem_of_getElem? (i := 234) rfl) rfl
theorem gw_7_40 : Cond.code yX12_replayed cX12_replayed 2 (some .int) ∈ GL := GL_7 (List.mem_of_getElem? (i := 40) rfl) rfl
theorem gw_4_232 : Cond.instanceMethod yX11_replayed ∈ GL := GL_4 (List.mem_of_getElem? (i := 232) rfl) rfl
theorem gw_7_38 : Cond.instanceMethod yX12_replayed ∈ GL := GL_7 (List.mem_of_getElem? (i := 38) rfl) rfl
theorem gw_4_231 : Cond.methodLink RL 132 yX11_replayed ∈ GL := GL_4 (List.mem_of_getElem? (i := 231) rfl) rfl
theorem gw_7_37 : Cond.methodLink RL 135 yX12_replayed ∈ GL := GL_7 (List.mem_of_getElem? (i := 37) rfl) rfl
theorem gw_4_233 : Cond.selects RX11 yX11_replayed yX11_replayed ∈ GL := GL_4 (List.mem_of_getElem? (i := 233) rfl) rfl
theorem gw_7_39 : Cond.selects RX12 yX12_replayed yX12_replayed ∈ GL := GL_7 (List.mem_of_getElem? (i := 39) rfl) rfl
theorem gw_5_4 : Cond.code yX11_fit cX11_fit 2 (some .int) ∈ GL := GL_5 (List.mem_of_getElem? (i := 4) rfl) rfl
theorem gw_7_48 : Cond.code yX12_fit cX12_fit 2 (some .int) ∈ GL := GL_7 (List.mem_of_getElem? (i := 48) rfl) rfl
theorem gw_5_2 : Cond.instanceMethod yX11_fit ∈ GL := GL_5 (List.mem_of_getElem? (i := 2) rfl) rfl
theorem gw_7_46 : Cond.instanceMethod yX12_fit ∈ GL := GL_7 (List.mem_of_getElem? (i := 46) rfl) rfl
theorem gw_5_1 : Cond.methodLink RL 136 yX11_fit ∈ GL := GL_5 (List.mem_of_getElem? (i := 1) rfl) rfl
theorem gw_7_45 : Cond.methodLink RL 139 yX12_fit ∈ GL := GL_7 (List.mem_of_getElem? (i := 45) rfl) rfl
theorem gw_5_3 : Cond.selects RX11 yX11_fit yX11_fit ∈ GL := GL_5 (List.mem_of_getElem? (i := 3) rfl) rfl
theorem gw_7_47 : Cond.selects RX12 yX12_fit yX12_fit ∈ GL := GL_7 (List.mem_of_getElem? (i := 47) rfl) rfl
theorem gw_5_21 : Cond.code yX11_keen cX11_keen 2 (some .int) ∈ GL := GL_5 (List.mem_of_getElem? (i := 21) rfl) rfl
theorem gw_7_52 : Cond.code yX12_keen cX12_keen 2 (some .int) ∈ GL := GL_7 (List.mem_of_getElem? (i := 52) rfl) rfl
theorem gw_5_19 : Cond.instanceMethod yX11_keen ∈ GL := GL_5 (List.mem_of_getElem? (i := 19) rfl) rfl
theorem gw_7_50 : Cond.instanceMethod yX12_keen ∈ GL := GL_7 (List.mem_of_getElem? (i := 50) rfl) rfl
theorem gw_5_18 : Cond.methodLink RL 140 yX11_keen ∈ GL := GL_5 (List.mem_of_getElem? (i := 18) rfl) rfl
theorem gw_7_49 : Cond.methodLink RL 143 yX12_keen ∈ GL := GL_7 (List.mem_of_getElem? (i := 49) rfl) rfl
theorem gw_5_20 : Cond.selects RX11 yX11_keen yX11_keen ∈ GL := GL_5 (List.mem_of_getElem? (i := 20) rfl) rfl
theorem gw_7_51 : Cond.selects RX12 yX12_keen yX12_keen ∈ GL := GL_7 (List.mem_of_getElem? (i := 51) rfl) rfl
theorem gw_5_25 : Cond.code yX11_image cX11_image 2 (some .boolean) ∈ GL := GL_5 (List.mem_of_getElem? (i := 25) rfl) rfl
theorem gw_7_56 : Cond.code yX12_image cX12_image 2 (some .boolean) ∈ GL := GL_7 (List.mem_of_getElem? (i := 56) rfl) rfl
theorem gw_5_23 : Cond.instanceMethod yX11_image ∈ GL := GL_5 (List.mem_of_getElem? (i := 23) rfl) rfl
theorem gw_7_54 : Cond.instanceMethod yX12_image ∈ GL := GL_7 (List.mem_of_getElem? (i := 54) rfl) rfl
theorem gw_5_22 : Cond.methodLink RL 144 yX11_image ∈ GL := GL_5 (List.mem_of_getElem? (i := 22) rfl) rfl
theorem gw_7_53 : Cond.methodLink RL 148 yX12_image ∈ GL := GL_7 (List.mem_of_getElem? (i := 53) rfl) rfl
theorem gw_5_24 : Cond.selects RX11 yX11_image yX11_image ∈ GL := GL_5 (List.mem_of_getElem? (i := 24) rfl) rfl
theorem gw_7_55 : Cond.selects RX12 yX12_image yX12_image ∈ GL := GL_7 (List.mem_of_getElem? (i := 55) rfl) rfl
theorem gw_5_29 : Cond.code yX11_again cX11_again 2 (some .boolean) ∈ GL := GL_5 (List.mem_of_getElem? (i := 29) rfl) rfl
theorem gw_7_64 : Cond.code yX12_again cX12_again 2 (some .boolean) ∈ GL := GL_7 (List.mem_of_getElem? (i := 64) rfl) rfl
theorem gw_5_27 : Cond.instanceMethod yX11_again ∈ GL := GL_5 (List.mem_of_getElem? (i := 27) rfl) rfl
theorem gw_7_62 : Cond.instanceMethod yX12_again ∈ GL := GL_7 (List.mem_of_getElem? (i := 62) rfl) rfl
theorem gw_5_26 : Cond.methodLink RL 149 yX11_again ∈ GL := GL_5 (List.mem_of_getElem? (i := 26) rfl) rfl
theorem gw_7_61 : Cond.methodLink RL 152 yX12_again ∈ GL := GL_7 (List.mem_of_getElem? (i := 61) rfl) rfl
theorem gw_5_28 : Cond.selects RX11 yX11_again yX11_again ∈ GL := GL_5 (List.mem_of_getElem? (i := 28) rfl) rfl
theorem gw_7_63 : Cond.selects RX12 yX12_again yX12_again ∈ GL := GL_7 (List.mem_of_getElem? (i := 63) rfl) rfl
theorem gw_1_26 : Cond.classLink RL 8 RX11 ∈ GL := GL_1 (List.mem_of_getElem? (i := 26) rfl) rfl
theorem gw_1_27 : Cond.instantiable RX11 8 ∈ GL := GL_1 (List.mem_of_getElem? (i := 27) rfl) rfl
theorem gw_1_30 : Cond.code yX11_init cX11_init 1 none ∈ GL := GL_1 (List.mem_of_getElem? (i := 30) rfl) rfl
theorem gw_1_28 : Cond.methodLink RL 15 yX11_init ∈ GL := GL_1 (List.mem_of_getElem? (i := 28) rfl) rfl
theorem gw_1_29 : Cond.instanceMethod yX11_init ∈ GL := GL_1 (List.mem_of_getElem? (i := 29) rfl) rfl
theorem gw_5_101 : Cond.classLink RL 16 RX12 ∈ GL := GL_5 (List.mem_of_getElem? (i := 101) rfl) rfl
theorem gw_5_102 : Cond.instantiable RX12 22 ∈ GL := GL_5 (List.mem_of_getElem? (i := 102) rfl) rfl
theorem gw_5_105 : Cond.code yX12_init cX12_init 1 none ∈ GL := GL_5 (List.mem_of_getElem? (i := 105) rfl) rfl
theorem gw_5_103 : Cond.methodLink RL 18 yX12_init ∈ GL := GL_5 (List.mem_of_getElem? (i := 103) rfl) rfl
theorem gw_5_104 : Cond.instanceMethod yX12_init ∈ GL := GL_5 (List.mem_of_getElem? (i := 104) rfl) rfl
theorem sw31a : ∀ k : Nat, k < 32 → nI k < 0 ∨ (29 : Int32) < nI k ∨ k < 30 := by decide
theorem sw31 {x : Int32} (h0 : ¬ x &&& 31 = 0) (h1 : ¬ x &&& 31 = 1) (h2 : ¬ x &&& 31 = 2) (h3 : ¬ x &&& 31 = 3) (h4 : ¬ x &&& 31 = 4) (h5 : ¬ x &&& 31 = 5) (h6 : ¬ x &&& 31 = 6) (h7 : ¬ x &&& 31 = 7) (h8 : ¬ x &&& 31 = 8) (h9 : ¬ x &&& 31 = 9) (h10 : ¬ x &&& 31 = 10) (h11 : ¬ x &&& 31 = 11) (h12 : ¬ x &&& 31 = 12) (h13 : ¬ x &&& 31 = 13) (h14 : ¬ x &&& 31 = 14) (h15 : ¬ x &&& 31 = 15) (h16 : ¬ x &&& 31 = 16) (h17 : ¬ x &&& 31 = 17) (h18 : ¬ x &&& 31 = 18) (h19 : ¬ x &&& 31 = 19) (h20 : ¬ x &&& 31 = 20) (h21 : ¬ x &&& 31 = 21) (h22 : ¬ x &&& 31 = 22) (h23 : ¬ x &&& 31 = 23) (h24 : ¬ x &&& 31 = 24) (h25 : ¬ x &&& 31 = 25) (h26 : ¬ x &&& 31 = 26) (h27 : ¬ x &&& 31 = 27) (h28 : ¬ x &&& 31 = 28) (h29 : ¬ x &&& 31 = 29) : x &&& 31 < 0 ∨ (29 : Int32) < x &&& 31 := by
  obtain ⟨j, hj, e⟩ := pk_andE x (m := 31) 5 (by decide)
  rcases sw31a j hj with h | h | h
  · exact Or.inl (by rw [e]; exact h)
  · exact Or.inr (by rw [e]; exact h)
  · exfalso
    match j, h, e with
    | 0, _, e => exact h0 e
    | 1, _, e => exact h1 e
    | 2, _, e => exact h2 e
    | 3, _, e => exact h3 e
    | 4, _, e => exact h4 e
    | 5, _, e => exact h5 e
    | 6, _, e => exact h6 e
    | 7, _, e => exact h7 e
    | 8, _, e => exact h8 e
    | 9, _, e => exact h9 e
    | 10, _, e => exact h10 e
    | 11, _, e => exact h11 e
    | 12, _, e => exact h12 e
    | 13, _, e => exact h13 e
    | 14, _, e => exact h14 e
    | 15, _, e => exact h15 e
    | 16, _, e => exact h16 e
    | 17, _, e => exact h17 e
    | 18, _, e => exact h18 e
    | 19, _, e => exact h19 e
    | 20, _, e => exact h20 e
    | 21, _, e => exact h21 e
    | 22, _, e => exact h22 e
    | 23, _, e => exact h23 e
    | 24, _, e => exact h24 e
    | 25, _, e => exact h25 e
    | 26, _, e => exact h26 e
    | 27, _, e => exact h27 e
    | 28, _, e => exact h28 e
    | 29, _, e => exact h29 e
    | j + 30, h, _ => exact absurd h (by omega)
