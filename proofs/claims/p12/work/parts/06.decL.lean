theorem dL_limit_0_k : decode cL_limit 0 = .ok (.aload_n 2, 1) ∧ decode cL_limit 1 = .ok (.iconst 0, 1) ∧ decode cL_limit 2 = .ok (.aload_n 0, 1) ∧ decode cL_limit 3 = .ok (.iload_n 1, 1) ∧ decode cL_limit 4 = .ok (.invokevirtual 7, 3) ∧ decode cL_limit 7 = .ok (.i2l, 1) ∧ decode cL_limit 8 = .ok (.lastore, 1) ∧ decode cL_limit 9 = .ok (.goto 6, 3) ∧ decode cL_limit 12 = .ok (.astore_n 3, 1) ∧ decode cL_limit 13 = .ok (.iconst 1, 1) ∧ decode cL_limit 14 = .ok (.ireturn, 1) ∧ decode cL_limit 15 = .ok (.iconst 0, 1) ∧ decode cL_limit 16 = .ok (.ireturn, 1) := by decide +kernel
theorem dL_limit_0 : decode cL_limit 0 = .ok (.aload_n 2, 1) := dL_limit_0_k.1
theorem dL_limit_1 : decode cL_limit 1 = .ok (.iconst 0, 1) := dL_limit_0_k.2.1
theorem dL_limit_2 : decode cL_limit 2 = .ok (.aload_n 0, 1) := dL_limit_0_k.2.2.1
theorem dL_limit_3 : decode cL_limit 3 = .ok (.iload_n 1, 1) := dL_limit_0_k.2.2.2.1
theorem dL_limit_4 : decode cL_limit 4 = .ok (.invokevirtual 7, 3) := dL_limit_0_k.2.2.2.2.1
theorem dL_limit_7 : decode cL_limit 7 = .ok (.i2l, 1) := dL_limit_0_k.2.2.2.2.2.1
theorem dL_limit_8 : decode cL_limit 8 = .ok (.lastore, 1) := dL_limit_0_k.2.2.2.2.2.2.1
theorem dL_limit_9 : decode cL_limit 9 = .ok (.goto 6, 3) := dL_limit_0_k.2.2.2.2.2.2.2.1
theorem dL_limit_12 : decode cL_limit 12 = .ok (.astore_n 3, 1) := dL_limit_0_k.2.2.2.2.2.2.2.2.1
theorem dL_limit_13 : decode cL_limit 13 = .ok (.iconst 1, 1) := dL_limit_0_k.2.2.2.2.2.2.2.2.2.1
theorem dL_limit_14 : decode cL_limit 14 = .ok (.ireturn, 1) := dL_limit_0_k.2.2.2.2.2.2.2.2.2.2.1
theorem dL_limit_15 : decode cL_limit 15 = .ok (.iconst 0, 1) := dL_limit_0_k.2.2.2.2.2.2.2.2.2.2.2.1
theorem dL_limit_16 : decode cL_limit 16 = .ok (.ireturn, 1) := dL_limit_0_k.2.2.2.2.2.2.2.2.2.2.2.2
theorem dL_law_0_k : decode cL_law 0 = .ok (.new 8, 3) ∧ decode cL_law 3 = .ok (.dup, 1) ∧ decode cL_law 4 = .ok (.invokespecial 15, 3) ∧ decode cL_law 7 = .ok (.astore_n 1, 1) ∧ decode cL_law 8 = .ok (.new 16, 3) ∧ decode cL_law 11 = .ok (.dup, 1) ∧ decode cL_law 12 = .ok (.invokespecial 18, 3) ∧ decode cL_law 15 = .ok (.astore_n 2, 1) ∧ decode cL_law 16 = .ok (.iconst 1, 1) ∧ decode cL_law 17 = .ok (.newarray .long, 2) ∧ decode cL_law 19 = .ok (.astore_n 3, 1) ∧ decode cL_law 20 = .ok (.iconst 0, 1) ∧ decode cL_law 21 = .ok (.istore 4, 2) ∧ decode cL_law 23 = .ok (.iload 4, 2) ∧ decode cL_law 25 = .ok (.aload_n 0, 1) ∧ decode cL_law 26 = .ok (.arraylength, 1) := by decide +kernel
theorem dL_law_0 : decode cL_law 0 = .ok (.new 8, 3) := dL_law_0_k.1
theorem dL_law_3 : decode cL_law 3 = .ok (.dup, 1) := dL_law_0_k.2.1
theorem dL_law_4 : decode cL_law 4 = .ok (.invokespecial 15, 3) := dL_law_0_k.2.2.1
theorem dL_law_7 : decode cL_law 7 = .ok (.astore_n 1, 1) := dL_law_0_k.2.2.2.1
theorem dL_law_8 : decode cL_law 8 = .ok (.new 16, 3) := dL_law_0_k.2.2.2.2.1
theorem dL_law_11 : decode cL_law 11 = .ok (.dup, 1) := dL_law_0_k.2.2.2.2.2.1
theorem dL_law_12 : decode cL_law 12 = .ok (.invokespecial 18, 3) := dL_law_0_k.2.2.2.2.2.2.1
theorem dL_law_15 : decode cL_law 15 = .ok (.astore_n 2, 1) := dL_law_0_k.2.2.2.2.2.2.2.1
theorem dL_law_16 : decode cL_law 16 = .ok (.iconst 1, 1) := dL_law_0_k.2.2.2.2.2.2.2.2.1
theorem dL_law_17 : decode cL_law 17 = .ok (.newarray .long, 2) := dL_law_0_k.2.2.2.2.2.2.2.2.2.1
theorem dL_law_19 : decode cL_law 19 = .ok (.astore_n 3, 1) := dL_law_0_k.2.2.2.2.2.2.2.2.2.2.1
theorem dL_law_20 : decode cL_law 20 = .ok (.iconst 0, 1) := dL_law_0_k.2.2.2.2.2.2.2.2.2.2.2.1
theorem dL_law_21 : decode cL_law 21 = .ok (.istore 4, 2) := dL_law_0_k.2.2.2.2.2.2.2.2.2.2.2.2.1
theorem dL_law_23 : decode cL_law 23 = .ok (.iload 4, 2) := dL_law_0_k.2.2.2.2.2.2.2.2.2.2.2.2.2.1
theorem dL_law_25 : decode cL_law 25 = .ok (.aload_n 0, 1) := dL_law_0_k.2.2.2.2.2.2.2.2.2.2.2.2.2.2.1
theorem dL_law_26 : decode cL_law 26 = .ok (.arraylength, 1) := dL_law_0_k.2.2.2.2.2.2.2.2.2.2.2.2.2.2.2
theorem dL_law_27_k : decode cL_law 27 = .ok (.iconst 4, 1) ∧ decode cL_law 28 = .ok (.isub, 1) ∧ decode cL_law 29 = .ok (.if_icmp .gt 1075, 3) ∧ decode cL_law 32 = .ok (.aload_n 0, 1) ∧ decode cL_law 33 = .ok (.iload 4, 2) ∧ decode cL_law 35 = .ok (.iaload, 1) ∧ decode cL_law 36 = .ok (.bipush 31, 2) ∧ decode cL_law 38 = .ok (.iand, 1) ∧ decode cL_law 39 = .ok (.tableswitch 1059 0 29 #[133, 190, 203, 244, 257, 270, 295, 332, 357, 382, 410, 464, 489, 514, 579, 644, 669, 694, 731, 768, 805, 830, 855, 908, 945, 958, 983, 996, 1009, 1034], 133) ∧ decode cL_law 172 = .ok (.aload_n 1, 1) ∧ decode cL_law 173 = .ok (.aload_n 0, 1) ∧ decode cL_law 174 = .ok (.iload 4, 2) ∧ decode cL_law 176 = .ok (.iconst 1, 1) ∧ decode cL_law 177 = .ok (.iadd, 1) ∧ decode cL_law 178 = .ok (.iaload, 1) ∧ decode cL_law 179 = .ok (.i2l, 1) := by decide +kernel
theorem dL_law_27 : decode cL_law 27 = .ok (.iconst 4, 1) := dL_law_27_k.1
theorem dL_law_28 : decode cL_law 28 = .ok (.isub, 1) := dL_law_27_k.2.1
theorem dL_law_29 : decode cL_law 29 = .ok (.if_icmp .gt 1075, 3) := dL_law_27_k.2.2.1
theorem dL_law_32 : decode cL_law 32 = .ok (.aload_n 0, 1) := dL_law_27_k.2.2.2.1
theorem dL_law_33 : decode cL_law 33 = .ok (.iload 4, 2) := dL_law_27_k.2.2.2.2.1
theorem dL_law_35 : decode cL_law 35 = .ok (.iaload, 1) := dL_law_27_k.2.2.2.2.2.1
theorem dL_law_36 : decode cL_law 36 = .ok (.bipush 31, 2) := dL_law_27_k.2.2.2.2.2.2.1
theorem dL_law_38 : decode cL_law 38 = .ok (.iand, 1) := dL_law_27_k.2.2.2.2.2.2.2.1
theorem dL_law_39 : decode cL_law 39 = .ok (.tableswitch 1059 0 29 #[133, 190, 203, 244, 257, 270, 295, 332, 357, 382, 410, 464, 489, 514, 579, 644, 669, 694, 731, 768, 805, 830, 855, 908, 945, 958, 983, 996, 1009, 1034], 133) := dL_law_27_k.2.2.2.2.2.2.2.2.1
theorem dL_law_172 : decode cL_law 172 = .ok (.aload_n 1, 1) := dL_law_27_k.2.2.2.2.2.2.2.2.2.1
theorem dL_law_173 : decode cL_law 173 = .ok (.aload_n 0, 1) := dL_law_27_k.2.2.2.2.2.2.2.2.2.2.1
theorem dL_law_174 : decode cL_law 174 = .ok (.iload 4, 2) := dL_law_27_k.2.2.2.2.2.2.2.2.2.2.2.1
theorem dL_law_176 : decode cL_law 176 = .ok (.iconst 1, 1) := dL_law_27_k.2.2.2.2.2.2.2.2.2.2.2.2.1
theorem dL_law_177 : decode cL_law 177 = .ok (.iadd, 1) := dL_law_27_k.2.2.2.2.2.2.2.2.2.2.2.2.2.1
theorem dL_law_178 : decode cL_law 178 = .ok (.iaload, 1) := dL_law_27_k.2.2.2.2.2.2.2.2.2.2.2.2.2.2.1
theorem dL_law_179 : decode cL_law 179 = .ok (.i2l, 1) := dL_law_27_k.2.2.2.2.2.2.2.2.2.2.2.2.2.2.2
theorem dL_law_180_k : decode cL_law 180 = .ok (.bipush 32, 2) ∧ decode cL_law 182 = .ok (.lshl, 1) ∧ decode cL_law 183 = .ok (.aload_n 0, 1) ∧ decode cL_law 184 = .ok (.iload 4, 2) ∧ decode cL_law 186 = .ok (.iconst 2, 1) ∧ decode cL_law 187 = .ok (.iadd, 1) ∧ decode cL_law 188 = .ok (.iaload, 1) ∧ decode cL_law 189 = .ok (.i2l, 1) ∧ decode cL_law 190 = .ok (.ldc2_w 19, 3) ∧ decode cL_law 193 = .ok (.land, 1) ∧ decode cL_law 194 = .ok (.lor, 1) ∧ decode cL_law 195 = .ok (.invokevirtual 21, 3) ∧ decode cL_law 198 = .ok (.pop, 1) ∧ decode cL_law 199 = .ok (.aload_n 2, 1) ∧ decode cL_law 200 = .ok (.aload_n 0, 1) ∧ decode cL_law 201 = .ok (.iload 4, 2) := by decide +kernel
theorem dL_law_180 : decode cL_law 180 = .ok (.bipush 32, 2) := dL_law_180_k.1
theorem dL_law_182 : decode cL_law 182 = .ok (.lshl, 1) := dL_law_180_k.2.1
theorem dL_law_183 : decode cL_law 183 = .ok (.aload_n 0, 1) := dL_law_180_k.2.2.1
theorem dL_law_184 : decode cL_law 184 = .ok (.iload 4, 2) := dL_law_180_k.2.2.2.1
theorem dL_law_186 : decode cL_law 186 = .ok (.iconst 2, 1) := dL_law_180_k.2.2.2.2.1
theorem dL_law_187 : decode cL_law 187 = .ok (.iadd, 1) := dL_law_180_k.2.2.2.2.2.1
theorem dL_law_188 : decode cL_law 188 = .ok (.iaload, 1) := dL_law_180_k.2.2.2.2.2.2.1
theorem dL_law_189 : decode cL_law 189 = .ok (.i2l, 1) := dL_law_180_k.2.2.2.2.2.2.2.1
theorem dL_law_190 : decode cL_law 190 = .ok (.ldc2_w 19, 3) := dL_law_180_k.2.2.2.2.2.2.2.2.1
theorem dL_law_193 : decode cL_law 193 = .ok (.land, 1) := dL_law_180_k.2.2.2.2.2.2.2.2.2.1
theorem dL_law_194 : decode cL_law 194 = .ok (.lor, 1) := dL_law_180_k.2.2.2.2.2.2.2.2.2.2.1
theorem dL_law_195 : decode cL_law 195 = .ok (.invokevirtual 21, 3) := dL_law_180_k.2.2.2.2.2.2.2.2.2.2.2.1
theorem dL_law_198 : decode cL_law 198 = .ok (.pop, 1) := dL_law_180_k.2.2.2.2.2.2.2.2.2.2.2.2.1
theorem dL_law_199 : decode cL_law 199 = .ok (.aload_n 2, 1) := dL_law_180_k.2.2.2.2.2.2.2.2.2.2.2.2.2.1
theorem dL_law_200 : decode cL_law 200 = .ok (.aload_n 0, 1) := dL_law_180_k.2.2.2.2.2.2.2.2.2.2.2.2.2.2.1
theorem dL_law_201 : decode cL_law 201 = .ok (.iload 4, 2) := dL_law_180_k.2.2.2.2.2.2.2.2.2.2.2.2.2.2.2
theorem dL_law_203_k : decode cL_law 203 = .ok (.iconst 1, 1) ∧ decode cL_law 204 = .ok (.iadd, 1) ∧ decode cL_law 205 = .ok (.iaload, 1) ∧ decode cL_law 206 = .ok (.i2l, 1) ∧ decode cL_law 207 = .ok (.bipush 32, 2) ∧ decode cL_law 209 = .ok (.lshl, 1) ∧ decode cL_law 210 = .ok (.aload_n 0, 1) ∧ decode cL_law 211 = .ok (.iload 4, 2) ∧ decode cL_law 213 = .ok (.iconst 2, 1) ∧ decode cL_law 214 = .ok (.iadd, 1) ∧ decode cL_law 215 = .ok (.iaload, 1) ∧ decode cL_law 216 = .ok (.i2l, 1) ∧ decode cL_law 217 = .ok (.ldc2_w 19, 3) ∧ decode cL_law 220 = .ok (.land, 1) ∧ decode cL_law 221 = .ok (.lor, 1) ∧ decode cL_law 222 = .ok (.invokevirtual 25, 3) := by decide +kernel
theorem dL_law_203 : decode cL_law 203 = .ok (.iconst 1, 1) := dL_law_203_k.1
theorem dL_law_204 : decode cL_law 204 = .ok (.iadd, 1) := dL_law_203_k.2.1
theorem dL_law_205 : decode cL_law 205 = .ok (.iaload, 1) := dL_law_203_k.2.2.1
theorem dL_law_206 : decode cL_law 206 = .ok (.i2l, 1) := dL_law_203_k.2.2.2.1
theorem dL_law_207 : decode cL_law 207 = .ok (.bipush 32, 2) := dL_law_203_k.2.2.2.2.1
theorem dL_law_209 : decode cL_law 209 = .ok (.lshl, 1) := dL_law_203_k.2.2.2.2.2.1
theorem dL_law_210 : decode cL_law 210 = .ok (.aload_n 0, 1) := dL_law_203_k.2.2.2.2.2.2.1
theorem dL_law_211 : decode cL_law 211 = .ok (.iload 4, 2) := dL_law_203_k.2.2.2.2.2.2.2.1
theorem dL_law_213 : decode cL_law 213 = .ok (.iconst 2, 1) := dL_law_203_k.2.2.2.2.2.2.2.2.1
theorem dL_law_214 : decode cL_law 214 = .ok (.iadd, 1) := dL_law_203_k.2.2.2.2.2.2.2.2.2.1
theorem dL_law_215 : decode cL_law 215 = .ok (.iaload, 1) := dL_law_203_k.2.2.2.2.2.2.2.2.2.2.1
theorem dL_law_216 : decode cL_law 216 = .ok (.i2l, 1) := dL_law_203_k.2.2.2.2.2.2.2.2.2.2.2.1
theorem dL_law_217 : decode cL_law 217 = .ok (.ldc2_w 19, 3) := dL_law_203_k.2.2.2.2.2.2.2.2.2.2.2.2.1
theorem dL_law_220 : decode cL_law 220 = .ok (.land, 1) := dL_law_203_k.2.2.2.2.2.2.2.2.2.2.2.2.2.1
theorem dL_law_221 : decode cL_law 221 = .ok (.lor, 1) := dL_law_203_k.2.2.2.2.2.2.2.2.2.2.2.2.2.2.1
theorem dL_law_222 : decode cL_law 222 = .ok (.invokevirtual 25, 3) := dL_law_203_k.2.2.2.2.2.2.2.2.2.2.2.2.2.2.2
theorem dL_law_225_k : decode cL_law 225 = .ok (.pop, 1) ∧ decode cL_law 226 = .ok (.goto 872, 3) ∧ decode cL_law 229 = .ok (.aload_n 1, 1) ∧ decode cL_law 230 = .ok (.invokevirtual 26, 3) ∧ decode cL_law 233 = .ok (.pop, 1) ∧ decode cL_law 234 = .ok (.aload_n 2, 1) ∧ decode cL_law 235 = .ok (.invokevirtual 30, 3) ∧ decode cL_law 238 = .ok (.pop, 1) ∧ decode cL_law 239 = .ok (.goto 859, 3) ∧ decode cL_law 242 = .ok (.aload_n 1, 1) ∧ decode cL_law 243 = .ok (.aload_n 0, 1) ∧ decode cL_law 244 = .ok (.iload 4, 2) ∧ decode cL_law 246 = .ok (.iconst 1, 1) ∧ decode cL_law 247 = .ok (.iadd, 1) ∧ decode cL_law 248 = .ok (.iaload, 1) ∧ decode cL_law 249 = .ok (.ifCond .eq 7, 3) := by decide +kernel
theorem dL_law_225 : decode cL_law 225 = .ok (.pop, 1) := dL_law_225_k.1
theorem dL_law_226 : decode cL_law 226 = .ok (.goto 872, 3) := dL_law_225_k.2.1
theorem dL_law_229 : decode cL_law 229 = .ok (.aload_n 1, 1) := dL_law_225_k.2.2.1
theorem dL_law_230 : decode cL_law 230 = .ok (.invokevirtual 26, 3) := dL_law_225_k.2.2.2.1
theorem dL_law_233 : decode cL_law 233 = .ok (.pop, 1) := dL_law_225_k.2.2.2.2.1
theorem dL_law_234 : decode cL_law 234 = .ok (.aload_n 2, 1) := dL_law_225_k.2.2.2.2.2.1
theorem dL_law_235 : decode cL_law 235 = .ok (.invokevirtual 30, 3) := dL_law_225_k.2.2.2.2.2.2.1
theorem dL_law_238 : decode cL_law 238 = .ok (.pop, 1) := dL_law_225_k.2.2.2.2.2.2.2.1
theorem dL_law_239 : decode cL_law 239 = .ok (.goto 859, 3) := dL_law_225_k.2.2.2.2.2.2.2.2.1
theorem dL_law_242 : decode cL_law 242 = .ok (.aload_n 1, 1) := dL_law_225_k.2.2.2.2.2.2.2.2.2.1
theorem dL_law_243 : decode cL_law 243 = .ok (.aload_n 0, 1) := dL_law_225_k.2.2.2.2.2.2.2.2.2.2.1
theorem dL_law_244 : decode cL_law 244 = .ok (.iload 4, 2) := dL_law_225_k.2.2.2.2.2.2.2.2.2.2.2.1
theorem dL_law_246 : decode cL_law 246 = .ok (.iconst 1, 1) := dL_law_225_k.2.2.2.2.2.2.2.2.2.2.2.2.1
theorem dL_law_247 : decode cL_law 247 = .ok (.iadd, 1) := dL_law_225_k.2.2.2.2.2.2.2.2.2.2.2.2.2.1
theorem dL_law_248 : decode cL_law 248 = .ok (.iaload, 1) := dL_law_225_k.2.2.2.2.2.2.2.2.2.2.2.2.2.2.1
theorem dL_law_249 : decode cL_law 249 = .ok (.ifCond .eq 7, 3) := dL_law_225_k.2.2.2.2.2.2.2.2.2.2.2.2.2.2.2
theorem dL_law_252_k : decode cL_law 252 = .ok (.iconst 1, 1) ∧ decode cL_law 253 = .ok (.goto 4, 3) ∧ decode cL_law 256 = .ok (.iconst 0, 1) ∧ decode cL_law 257 = .ok (.invokevirtual 31, 3) ∧ decode cL_law 260 = .ok (.pop, 1) ∧ decode cL_law 261 = .ok (.aload_n 2, 1) ∧ decode cL_law 262 = .ok (.aload_n 0, 1) ∧ decode cL_law 263 = .ok (.iload 4, 2) ∧ decode cL_law 265 = .ok (.iconst 1, 1) ∧ decode cL_law 266 = .ok (.iadd, 1) ∧ decode cL_law 267 = .ok (.iaload, 1) ∧ decode cL_law 268 = .ok (.ifCond .eq 7, 3) ∧ decode cL_law 271 = .ok (.iconst 1, 1) ∧ decode cL_law 272 = .ok (.goto 4, 3) ∧ decode cL_law 275 = .ok (.iconst 0, 1) ∧ decode cL_law 276 = .ok (.invokevirtual 35, 3) := by decide +kernel
theorem dL_law_252 : decode cL_law 252 = .ok (.iconst 1, 1) := dL_law_252_k.1
theorem dL_law_253 : decode cL_law 253 = .ok (.goto 4, 3) := dL_law_252_k.2.1
theorem dL_law_256 : decode cL_law 256 = .ok (.iconst 0, 1) := dL_law_252_k.2.2.1
theorem dL_law_257 : decode cL_law 257 = .ok (.invokevirtual 31, 3) := dL_law_252_k.2.2.2.1
theorem dL_law_260 : decode cL_law 260 = .ok (.pop, 1) := dL_law_252_k.2.2.2.2.1
theorem dL_law_261 : decode cL_law 261 = .ok (.aload_n 2, 1) := dL_law_252_k.2.2.2.2.2.1
theorem dL_law_262 : decode cL_law 262 = .ok (.aload_n 0, 1) := dL_law_252_k.2.2.2.2.2.2.1
theorem dL_law_263 : decode cL_law 263 = .ok (.iload 4, 2) := dL_law_252_k.2.2.2.2.2.2.2.1
theorem dL_law_265 : decode cL_law 265 = .ok (.iconst 1, 1) := dL_law_252_k.2.2.2.2.2.2.2.2.1
theorem dL_law_266 : decode cL_law 266 = .ok (.iadd, 1) := dL_law_252_k.2.2.2.2.2.2.2.2.2.1
theorem dL_law_267 : decode cL_law 267 = .ok (.iaload, 1) := dL_law_252_k.2.2.2.2.2.2.2.2.2.2.1
theorem dL_law_268 : decode cL_law 268 = .ok (.ifCond .eq 7, 3) := dL_law_252_k.2.2.2.2.2.2.2.2.2.2.2.1
theorem dL_law_271 : decode cL_law 271 = .ok (.iconst 1, 1) := dL_law_252_k.2.2.2.2.2.2.2.2.2.2.2.2.1
theorem dL_law_272 : decode cL_law 272 = .ok (.goto 4, 3) := dL_law_252_k.2.2.2.2.2.2.2.2.2.2.2.2.2.1
theorem dL_law_275 : decode cL_law 275 = .ok (.iconst 0, 1) := dL_law_252_k.2.2.2.2.2.2.2.2.2.2.2.2.2.2.1
theorem dL_law_276 : decode cL_law 276 = .ok (.invokevirtual 35, 3) := dL_law_252_k.2.2.2.2.2.2.2.2.2.2.2.2.2.2.2
theorem dL_law_279_k : decode cL_law 279 = .ok (.pop, 1) ∧ decode cL_law 280 = .ok (.goto 818, 3) ∧ decode cL_law 283 = .ok (.aload_n 1, 1) ∧ decode cL_law 284 = .ok (.invokevirtual 36, 3) ∧ decode cL_law 287 = .ok (.pop, 1) ∧ decode cL_law 288 = .ok (.aload_n 2, 1) ∧ decode cL_law 289 = .ok (.invokevirtual 39, 3) ∧ decode cL_law 292 = .ok (.pop, 1) ∧ decode cL_law 293 = .ok (.goto 805, 3) ∧ decode cL_law 296 = .ok (.aload_n 1, 1) ∧ decode cL_law 297 = .ok (.invokevirtual 40, 3) ∧ decode cL_law 300 = .ok (.pop, 1) ∧ decode cL_law 301 = .ok (.aload_n 2, 1) ∧ decode cL_law 302 = .ok (.invokevirtual 44, 3) ∧ decode cL_law 305 = .ok (.pop, 1) ∧ decode cL_law 306 = .ok (.goto 792, 3) := by decide +kernel
theorem dL_law_279 : decode cL_law 279 = .ok (.pop, 1) := dL_law_279_k.1
theorem dL_law_280 : decode cL_law 280 = .ok (.goto 818, 3) := dL_law_279_k.2.1
theorem dL_law_283 : decode cL_law 283 = .ok (.aload_n 1, 1) := dL_law_279_k.2.2.1
theorem dL_law_284 : decode cL_law 284 = .ok (.invokevirtual 36, 3) := dL_law_279_k.2.2.2.1
theorem dL_law_287 : decode cL_law 287 = .ok (.pop, 1) := dL_law_279_k.2.2.2.2.1
theorem dL_law_288 : decode cL_law 288 = .ok (.aload_n 2, 1) := dL_law_279_k.2.2.2.2.2.1
theorem dL_law_289 : decode cL_law 289 = .ok (.invokevirtual 39, 3) := dL_law_279_k.2.2.2.2.2.2.1
theorem dL_law_292 : decode cL_law 292 = .ok (.pop, 1) := dL_law_279_k.2.2.2.2.2.2.2.1
theorem dL_law_293 : decode cL_law 293 = .ok (.goto 805, 3) := dL_law_279_k.2.2.2.2.2.2.2.2.1
theorem dL_law_296 : decode cL_law 296 = .ok (.aload_n 1, 1) := dL_law_279_k.2.2.2.2.2.2.2.2.2.1
theorem dL_law_297 : decode cL_law 297 = .ok (.invokevirtual 40, 3) := dL_law_279_k.2.2.2.2.2.2.2.2.2.2.1
theorem dL_law_300 : decode cL_law 300 = .ok (.pop, 1) := dL_law_279_k.2.2.2.2.2.2.2.2.2.2.2.1
theorem dL_law_301 : decode cL_law 301 = .ok (.aload_n 2, 1) := dL_law_279_k.2.2.2.2.2.2.2.2.2.2.2.2.1
theorem dL_law_302 : decode cL_law 302 = .ok (.invokevirtual 44, 3) := dL_law_279_k.2.2.2.2.2.2.2.2.2.2.2.2.2.1
theorem dL_law_305 : decode cL_law 305 = .ok (.pop, 1) := dL_law_279_k.2.2.2.2.2.2.2.2.2.2.2.2.2.2.1
theorem dL_law_306 : decode cL_law 306 = .ok (.goto 792, 3) := dL_law_279_k.2.2.2.2.2.2.2.2.2.2.2.2.2.2.2
theorem dL_law_309_k : decode cL_law 309 = .ok (.aload_n 1, 1) ∧ decode cL_law 310 = .ok (.aload_n 0, 1) ∧ decode cL_law 311 = .ok (.iload 4, 2) ∧ decode cL_law 313 = .ok (.iconst 1, 1) ∧ decode cL_law 314 = .ok (.iadd, 1) ∧ decode cL_law 315 = .ok (.iaload, 1) ∧ decode cL_law 316 = .ok (.invokevirtual 45, 3) ∧ decode cL_law 319 = .ok (.pop, 1) ∧ decode cL_law 320 = .ok (.aload_n 2, 1) ∧ decode cL_law 321 = .ok (.aload_n 0, 1) ∧ decode cL_law 322 = .ok (.iload 4, 2) ∧ decode cL_law 324 = .ok (.iconst 1, 1) ∧ decode cL_law 325 = .ok (.iadd, 1) ∧ decode cL_law 326 = .ok (.iaload, 1) ∧ decode cL_law 327 = .ok (.invokevirtual 48, 3) ∧ decode cL_law 330 = .ok (.pop, 1) := by decide +kernel
theorem dL_law_309 : decode cL_law 309 = .ok (.aload_n 1, 1) := dL_law_309_k.1
theorem dL_law_310 : decode cL_law 310 = .ok (.aload_n 0, 1) := dL_law_309_k.2.1
theorem dL_law_311 : decode cL_law 311 = .ok (.iload 4, 2) := dL_law_309_k.2.2.1
theorem dL_law_313 : decode cL_law 313 = .ok (.iconst 1, 1) := dL_law_309_k.2.2.2.1
theorem dL_law_314 : decode cL_law 314 = .ok (.iadd, 1) := dL_law_309_k.2.2.2.2.1
theorem dL_law_315 : decode cL_law 315 = .ok (.iaload, 1) := dL_law_309_k.2.2.2.2.2.1
theorem dL_law_316 : decode cL_law 316 = .ok (.invokevirtual 45, 3) := dL_law_309_k.2.2.2.2.2.2.1
theorem dL_law_319 : decode cL_law 319 = .ok (.pop, 1) := dL_law_309_k.2.2.2.2.2.2.2.1
theorem dL_law_320 : decode cL_law 320 = .ok (.aload_n 2, 1) := dL_law_309_k.2.2.2.2.2.2.2.2.1
theorem dL_law_321 : decode cL_law 321 = .ok (.aload_n 0, 1) := dL_law_309_k.2.2.2.2.2.2.2.2.2.1
theorem dL_law_322 : decode cL_law 322 = .ok (.iload 4, 2) := dL_law_309_k.2.2.2.2.2.2.2.2.2.2.1
theorem dL_law_324 : decode cL_law 324 = .ok (.iconst 1, 1) := dL_law_309_k.2.2.2.2.2.2.2.2.2.2.2.1
theorem dL_law_325 : decode cL_law 325 = .ok (.iadd, 1) := dL_law_309_k.2.2.2.2.2.2.2.2.2.2.2.2.1
theorem dL_law_326 : decode cL_law 326 = .ok (.iaload, 1) := dL_law_309_k.2.2.2.2.2.2.2.2.2.2.2.2.2.1
theorem dL_law_327 : decode cL_law 327 = .ok (.invokevirtual 48, 3) := dL_law_309_k.2.2.2.2.2.2.2.2.2.2.2.2.2.2.1
theorem dL_law_330 : decode cL_law 330 = .ok (.pop, 1) := dL_law_309_k.2.2.2.2.2.2.2.2.2.2.2.2.2.2.2
theorem dL_law_331_k : decode cL_law 331 = .ok (.goto 767, 3) ∧ decode cL_law 334 = .ok (.aload_n 1, 1) ∧ decode cL_law 335 = .ok (.aload_n 0, 1) ∧ decode cL_law 336 = .ok (.iload 4, 2) ∧ decode cL_law 338 = .ok (.iconst 1, 1) ∧ decode cL_law 339 = .ok (.iadd, 1) ∧ decode cL_law 340 = .ok (.iaload, 1) ∧ decode cL_law 341 = .ok (.aload_n 0, 1) ∧ decode cL_law 342 = .ok (.iload 4, 2) ∧ decode cL_law 344 = .ok (.iconst 2, 1) ∧ decode cL_law 345 = .ok (.iadd, 1) ∧ decode cL_law 346 = .ok (.iaload, 1) ∧ decode cL_law 347 = .ok (.invokevirtual 49, 3) ∧ decode cL_law 350 = .ok (.pop, 1) ∧ decode cL_law 351 = .ok (.aload_n 2, 1) ∧ decode cL_law 352 = .ok (.aload_n 0, 1) := by decide +kernel
theorem dL_law_331 : decode cL_law 331 = .ok (.goto 767, 3) := dL_law_331_k.1
theorem dL_law_334 : decode cL_law 334 = .ok (.aload_n 1, 1) := dL_law_331_k.2.1
theorem dL_law_335 : decode cL_law 335 = .ok (.aload_n 0, 1) := dL_law_331_k.2.2.1
theorem dL_law_336 : decode cL_law 336 = .ok (.iload 4, 2) := dL_law_331_k.2.2.2.1
theorem dL_law_338 : decode cL_law 338 = .ok (.iconst 1, 1) := dL_law_331_k.2.2.2.2.1
theorem dL_law_339 : decode cL_law 339 = .ok (.iadd, 1) := dL_law_331_k.2.2.2.2.2.1
theorem dL_law_340 : decode cL_law 340 = .ok (.iaload, 1) := dL_law_331_k.2.2.2.2.2.2.1
theorem dL_law_341 : decode cL_law 341 = .ok (.aload_n 0, 1) := dL_law_331_k.2.2.2.2.2.2.2.1
theorem dL_law_342 : decode cL_law 342 = .ok (.iload 4, 2) := dL_law_331_k.2.2.2.2.2.2.2.2.1
theorem dL_law_344 : decode cL_law 344 = .ok (.iconst 2, 1) := dL_law_331_k.2.2.2.2.2.2.2.2.2.1
theorem dL_law_345 : decode cL_law 345 = .ok (.iadd, 1) := dL_law_331_k.2.2.2.2.2.2.2.2.2.2.1
theorem dL_law_346 : decode cL_law 346 = .ok (.iaload, 1) := dL_law_331_k.2.2.2.2.2.2.2.2.2.2.2.1
theorem dL_law_347 : decode cL_law 347 = .ok (.invokevirtual 49, 3) := dL_law_331_k.2.2.2.2.2.2.2.2.2.2.2.2.1
theorem dL_law_350 : decode cL_law 350 = .ok (.pop, 1) := dL_law_331_k.2.2.2.2.2.2.2.2.2.2.2.2.2.1
theorem dL_law_351 : decode cL_law 351 = .ok (.aload_n 2, 1) := dL_law_331_k.2.2.2.2.2.2.2.2.2.2.2.2.2.2.1
theorem dL_law_352 : decode cL_law 352 = .ok (.aload_n 0, 1) := dL_law_331_k.2.2.2.2.2.2.2.2.2.2.2.2.2.2.2
theorem dL_law_353_k : decode cL_law 353 = .ok (.iload 4, 2) ∧ decode cL_law 355 = .ok (.iconst 1, 1) ∧ decode cL_law 356 = .ok (.iadd, 1) ∧ decode cL_law 357 = .ok (.iaload, 1) ∧ decode cL_law 358 = .ok (.aload_n 0, 1) ∧ decode cL_law 359 = .ok (.iload 4, 2) ∧ decode cL_law 361 = .ok (.iconst 2, 1) ∧ decode cL_law 362 = .ok (.iadd, 1) ∧ decode cL_law 363 = .ok (.iaload, 1) ∧ decode cL_law 364 = .ok (.invokevirtual 53, 3) ∧ decode cL_law 367 = .ok (.pop, 1) ∧ decode cL_law 368 = .ok (.goto 730, 3) ∧ decode cL_law 371 = .ok (.aload_n 1, 1) ∧ decode cL_law 372 = .ok (.aload_n 0, 1) ∧ decode cL_law 373 = .ok (.iload 4, 2) ∧ decode cL_law 375 = .ok (.iconst 1, 1) := by decide +kernel
theorem dL_law_353 : decode cL_law 353 = .ok (.iload 4, 2) := dL_law_353_k.1
theorem dL_law_355 : decode cL_law 355 = .ok (.iconst 1, 1) := dL_law_353_k.2.1
theorem dL_law_356 : decode cL_law 356 = .ok (.iadd, 1) := dL_law_353_k.2.2.1
theorem dL_law_357 : decode cL_law 357 = .ok (.iaload, 1) := dL_law_353_k.2.2.2.1
theorem dL_law_358 : decode cL_law 358 = .ok (.aload_n 0, 1) := dL_law_353_k.2.2.2.2.1
theorem dL_law_359 : decode cL_law 359 = .ok (.iload 4, 2) := dL_law_353_k.2.2.2.2.2.1
theorem dL_law_361 : decode cL_law 361 = .ok (.iconst 2, 1) := dL_law_353_k.2.2.2.2.2.2.1
theorem dL_law_362 : decode cL_law 362 = .ok (.iadd, 1) := dL_law_353_k.2.2.2.2.2.2.2.1
theorem dL_law_363 : decode cL_law 363 = .ok (.iaload, 1) := dL_law_353_k.2.2.2.2.2.2.2.2.1
theorem dL_law_364 : decode cL_law 364 = .ok (.invokevirtual 53, 3) := dL_law_353_k.2.2.2.2.2.2.2.2.2.1
theorem dL_law_367 : decode cL_law 367 = .ok (.pop, 1) := dL_law_353_k.2.2.2.2.2.2.2.2.2.2.1
theorem dL_law_368 : decode cL_law 368 = .ok (.goto 730, 3) := dL_law_353_k.2.2.2.2.2.2.2.2.2.2.2.1
theorem dL_law_371 : decode cL_law 371 = .ok (.aload_n 1, 1) := dL_law_353_k.2.2.2.2.2.2.2.2.2.2.2.2.1
theorem dL_law_372 : decode cL_law 372 = .ok (.aload_n 0, 1) := dL_law_353_k.2.2.2.2.2.2.2.2.2.2.2.2.2.1
theorem dL_law_373 : decode cL_law 373 = .ok (.iload 4, 2) := dL_law_353_k.2.2.2.2.2.2.2.2.2.2.2.2.2.2.1
theorem dL_law_375 : decode cL_law 375 = .ok (.iconst 1, 1) := dL_law_353_k.2.2.2.2.2.2.2.2.2.2.2.2.2.2.2
theorem dL_law_376_k : decode cL_law 376 = .ok (.iadd, 1) ∧ decode cL_law 377 = .ok (.iaload, 1) ∧ decode cL_law 378 = .ok (.invokevirtual 54, 3) ∧ decode cL_law 381 = .ok (.pop, 1) ∧ decode cL_law 382 = .ok (.aload_n 2, 1) ∧ decode cL_law 383 = .ok (.aload_n 0, 1) ∧ decode cL_law 384 = .ok (.iload 4, 2) ∧ decode cL_law 386 = .ok (.iconst 1, 1) ∧ decode cL_law 387 = .ok (.iadd, 1) ∧ decode cL_law 388 = .ok (.iaload, 1) ∧ decode cL_law 389 = .ok (.invokevirtual 57, 3) ∧ decode cL_law 392 = .ok (.pop, 1) ∧ decode cL_law 393 = .ok (.goto 705, 3) ∧ decode cL_law 396 = .ok (.aload_n 1, 1) ∧ decode cL_law 397 = .ok (.aload_n 0, 1) ∧ decode cL_law 398 = .ok (.iload 4, 2) := by decide +kernel
theorem dL_law_376 : decode cL_law 376 = .ok (.iadd, 1) := dL_law_376_k.1
theorem dL_law_377 : decode cL_law 377 = .ok (.iaload, 1) := dL_law_376_k.2.1
theorem dL_law_378 : decode cL_law 378 = .ok (.invokevirtual 54, 3) := dL_law_376_k.2.2.1
theorem dL_law_381 : decode cL_law 381 = .ok (.pop, 1) := dL_law_376_k.2.2.2.1
theorem dL_law_382 : decode cL_law 382 = .ok (.aload_n 2, 1) := dL_law_376_k.2.2.2.2.1
theorem dL_law_383 : decode cL_law 383 = .ok (.aload_n 0, 1) := dL_law_376_k.2.2.2.2.2.1
theorem dL_law_384 : decode cL_law 384 = .ok (.iload 4, 2) := dL_law_376_k.2.2.2.2.2.2.1
theorem dL_law_386 : decode cL_law 386 = .ok (.iconst 1, 1) := dL_law_376_k.2.2.2.2.2.2.2.1
theorem dL_law_387 : decode cL_law 387 = .ok (.iadd, 1) := dL_law_376_k.2.2.2.2.2.2.2.2.1
theorem dL_law_388 : decode cL_law 388 = .ok (.iaload, 1) := dL_law_376_k.2.2.2.2.2.2.2.2.2.1
theorem dL_law_389 : decode cL_law 389 = .ok (.invokevirtual 57, 3) := dL_law_376_k.2.2.2.2.2.2.2.2.2.2.1
theorem dL_law_392 : decode cL_law 392 = .ok (.pop, 1) := dL_law_376_k.2.2.2.2.2.2.2.2.2.2.2.1
theorem dL_law_393 : decode cL_law 393 = .ok (.goto 705, 3) := dL_law_376_k.2.2.2.2.2.2.2.2.2.2.2.2.1
theorem dL_law_396 : decode cL_law 396 = .ok (.aload_n 1, 1) := dL_law_376_k.2.2.2.2.2.2.2.2.2.2.2.2.2.1
theorem dL_law_397 : decode cL_law 397 = .ok (.aload_n 0, 1) := dL_law_376_k.2.2.2.2.2.2.2.2.2.2.2.2.2.2.1
theorem dL_law_398 : decode cL_law 398 = .ok (.iload 4, 2) := dL_law_376_k.2.2.2.2.2.2.2.2.2.2.2.2.2.2.2
theorem dL_law_400_k : decode cL_law 400 = .ok (.iconst 1, 1) ∧ decode cL_law 401 = .ok (.iadd, 1) ∧ decode cL_law 402 = .ok (.iaload, 1) ∧ decode cL_law 403 = .ok (.invokevirtual 58, 3) ∧ decode cL_law 406 = .ok (.pop, 1) ∧ decode cL_law 407 = .ok (.aload_n 2, 1) ∧ decode cL_law 408 = .ok (.aload_n 0, 1) ∧ decode cL_law 409 = .ok (.iload 4, 2) ∧ decode cL_law 411 = .ok (.iconst 1, 1) ∧ decode cL_law 412 = .ok (.iadd, 1) ∧ decode cL_law 413 = .ok (.iaload, 1) ∧ decode cL_law 414 = .ok (.invokevirtual 61, 3) ∧ decode cL_law 417 = .ok (.pop, 1) ∧ decode cL_law 418 = .ok (.goto 680, 3) ∧ decode cL_law 421 = .ok (.aload_n 1, 1) ∧ decode cL_law 422 = .ok (.aload_n 0, 1) := by decide +kernel
theorem dL_law_400 : decode cL_law 400 = .ok (.iconst 1, 1) := dL_law_400_k.1
theorem dL_law_401 : decode cL_law 401 = .ok (.iadd, 1) := dL_law_400_k.2.1
theorem dL_law_402 : decode cL_law 402 = .ok (.iaload, 1) := dL_law_400_k.2.2.1
theorem dL_law_403 : decode cL_law 403 = .ok (.invokevirtual 58, 3) := dL_law_400_k.2.2.2.1
theorem dL_law_406 : decode cL_law 406 = .ok (.pop, 1) := dL_law_400_k.2.2.2.2.1
theorem dL_law_407 : decode cL_law 407 = .ok (.aload_n 2, 1) := dL_law_400_k.2.2.2.2.2.1
theorem dL_law_408 : decode cL_law 408 = .ok (.aload_n 0, 1) := dL_law_400_k.2.2.2.2.2.2.1
theorem dL_law_409 : decode cL_law 409 = .ok (.iload 4, 2) := dL_law_400_k.2.2.2.2.2.2.2.1
theorem dL_law_411 : decode cL_law 411 = .ok (.iconst 1, 1) := dL_law_400_k.2.2.2.2.2.2.2.2.1
theorem dL_law_412 : decode cL_law 412 = .ok (.iadd, 1) := dL_law_400_k.2.2.2.2.2.2.2.2.2.1
theorem dL_law_413 : decode cL_law 413 = .ok (.iaload, 1) := dL_law_400_k.2.2.2.2.2.2.2.2.2.2.1
theorem dL_law_414 : decode cL_law 414 = .ok (.invokevirtual 61, 3) := dL_law_400_k.2.2.2.2.2.2.2.2.2.2.2.1
theorem dL_law_417 : decode cL_law 417 = .ok (.pop, 1) := dL_law_400_k.2.2.2.2.2.2.2.2.2.2.2.2.1
theorem dL_law_418 : decode cL_law 418 = .ok (.goto 680, 3) := dL_law_400_k.2.2.2.2.2.2.2.2.2.2.2.2.2.1
theorem dL_law_421 : decode cL_law 421 = .ok (.aload_n 1, 1) := dL_law_400_k.2.2.2.2.2.2.2.2.2.2.2.2.2.2.1
theorem dL_law_422 : decode cL_law 422 = .ok (.aload_n 0, 1) := dL_law_400_k.2.2.2.2.2.2.2.2.2.2.2.2.2.2.2
theorem dL_law_423_k : decode cL_law 423 = .ok (.iload 4, 2) ∧ decode cL_law 425 = .ok (.iconst 1, 1) ∧ decode cL_law 426 = .ok (.iadd, 1) ∧ decode cL_law 427 = .ok (.iaload, 1) ∧ decode cL_law 428 = .ok (.aload_n 3, 1) ∧ decode cL_law 429 = .ok (.invokestatic 62, 3) ∧ decode cL_law 432 = .ok (.istore 5, 2) ∧ decode cL_law 434 = .ok (.aload_n 2, 1) ∧ decode cL_law 435 = .ok (.aload_n 0, 1) ∧ decode cL_law 436 = .ok (.iload 4, 2) ∧ decode cL_law 438 = .ok (.iconst 1, 1) ∧ decode cL_law 439 = .ok (.iadd, 1) ∧ decode cL_law 440 = .ok (.iaload, 1) ∧ decode cL_law 441 = .ok (.invokevirtual 67, 3) ∧ decode cL_law 444 = .ok (.istore 6, 2) ∧ decode cL_law 446 = .ok (.goto 652, 3) := by decide +kernel
theorem dL_law_423 : decode cL_law 423 = .ok (.iload 4, 2) := dL_law_423_k.1
theorem dL_law_425 : decode cL_law 425 = .ok (.iconst 1, 1) := dL_law_423_k.2.1
theorem dL_law_426 : decode cL_law 426 = .ok (.iadd, 1) := dL_law_423_k.2.2.1
theorem dL_law_427 : decode cL_law 427 = .ok (.iaload, 1) := dL_law_423_k.2.2.2.1
theorem dL_law_428 : decode cL_law 428 = .ok (.aload_n 3, 1) := dL_law_423_k.2.2.2.2.1
theorem dL_law_429 : decode cL_law 429 = .ok (.invokestatic 62, 3) := dL_law_423_k.2.2.2.2.2.1
theorem dL_law_432 : decode cL_law 432 = .ok (.istore 5, 2) := dL_law_423_k.2.2.2.2.2.2.1
theorem dL_law_434 : decode cL_law 434 = .ok (.aload_n 2, 1) := dL_law_423_k.2.2.2.2.2.2.2.1
theorem dL_law_435 : decode cL_law 435 = .ok (.aload_n 0, 1) := dL_law_423_k.2.2.2.2.2.2.2.2.1
theorem dL_law_436 : decode cL_law 436 = .ok (.iload 4, 2) := dL_law_423_k.2.2.2.2.2.2.2.2.2.1
theorem dL_law_438 : decode cL_law 438 = .ok (.iconst 1, 1) := dL_law_423_k.2.2.2.2.2.2.2.2.2.2.1
theorem dL_law_439 : decode cL_law 439 = .ok (.iadd, 1) := dL_law_423_k.2.2.2.2.2.2.2.2.2.2.2.1
theorem dL_law_440 : decode cL_law 440 = .ok (.iaload, 1) := dL_law_423_k.2.2.2.2.2.2.2.2.2.2.2.2.1
theorem dL_law_441 : decode cL_law 441 = .ok (.invokevirtual 67, 3) := dL_law_423_k.2.2.2.2.2.2.2.2.2.2.2.2.2.1
theorem dL_law_444 : decode cL_law 444 = .ok (.istore 6, 2) := dL_law_423_k.2.2.2.2.2.2.2.2.2.2.2.2.2.2.1
theorem dL_law_446 : decode cL_law 446 = .ok (.goto 652, 3) := dL_law_423_k.2.2.2.2.2.2.2.2.2.2.2.2.2.2.2
theorem dL_law_449_k : decode cL_law 449 = .ok (.aload_n 1, 1) ∧ decode cL_law 450 = .ok (.aload_n 0, 1) ∧ decode cL_law 451 = .ok (.iload 4, 2) ∧ decode cL_law 453 = .ok (.iconst 1, 1) ∧ decode cL_law 454 = .ok (.iadd, 1) ∧ decode cL_law 455 = .ok (.iaload, 1) ∧ decode cL_law 456 = .ok (.aload_n 0, 1) ∧ decode cL_law 457 = .ok (.iload 4, 2) ∧ decode cL_law 459 = .ok (.iconst 2, 1) ∧ decode cL_law 460 = .ok (.iadd, 1) ∧ decode cL_law 461 = .ok (.iaload, 1) ∧ decode cL_law 462 = .ok (.ifCond .eq 7, 3) ∧ decode cL_law 465 = .ok (.iconst 1, 1) ∧ decode cL_law 466 = .ok (.goto 4, 3) ∧ decode cL_law 469 = .ok (.iconst 0, 1) ∧ decode cL_law 470 = .ok (.invokevirtual 68, 3) := by decide +kernel
theorem dL_law_449 : decode cL_law 449 = .ok (.aload_n 1, 1) := dL_law_449_k.1
theorem dL_law_450 : decode cL_law 450 = .ok (.aload_n 0, 1) := dL_law_449_k.2.1
theorem dL_law_451 : decode cL_law 451 = .ok (.iload 4, 2) := dL_law_449_k.2.2.1
theorem dL_law_453 : decode cL_law 453 = .ok (.iconst 1, 1) := dL_law_449_k.2.2.2.1
theorem dL_law_454 : decode cL_law 454 = .ok (.iadd, 1) := dL_law_449_k.2.2.2.2.1
theorem dL_law_455 : decode cL_law 455 = .ok (.iaload, 1) := dL_law_449_k.2.2.2.2.2.1
theorem dL_law_456 : decode cL_law 456 = .ok (.aload_n 0, 1) := dL_law_449_k.2.2.2.2.2.2.1
theorem dL_law_457 : decode cL_law 457 = .ok (.iload 4, 2) := dL_law_449_k.2.2.2.2.2.2.2.1
theorem dL_law_459 : decode cL_law 459 = .ok (.iconst 2, 1) := dL_law_449_k.2.2.2.2.2.2.2.2.1
theorem dL_law_460 : decode cL_law 460 = .ok (.iadd, 1) := dL_law_449_k.2.2.2.2.2.2.2.2.2.1
theorem dL_law_461 : decode cL_law 461 = .ok (.iaload, 1) := dL_law_449_k.2.2.2.2.2.2.2.2.2.2.1
theorem dL_law_462 : decode cL_law 462 = .ok (.ifCond .eq 7, 3) := dL_law_449_k.2.2.2.2.2.2.2.2.2.2.2.1
theorem dL_law_465 : decode cL_law 465 = .ok (.iconst 1, 1) := dL_law_449_k.2.2.2.2.2.2.2.2.2.2.2.2.1
theorem dL_law_466 : decode cL_law 466 = .ok (.goto 4, 3) := dL_law_449_k.2.2.2.2.2.2.2.2.2.2.2.2.2.1
theorem dL_law_469 : decode cL_law 469 = .ok (.iconst 0, 1) := dL_law_449_k.2.2.2.2.2.2.2.2.2.2.2.2.2.2.1
theorem dL_law_470 : decode cL_law 470 = .ok (.invokevirtual 68, 3) := dL_law_449_k.2.2.2.2.2.2.2.2.2.2.2.2.2.2.2
theorem dL_law_473_k : decode cL_law 473 = .ok (.aload_n 2, 1) ∧ decode cL_law 474 = .ok (.aload_n 0, 1) ∧ decode cL_law 475 = .ok (.iload 4, 2) ∧ decode cL_law 477 = .ok (.iconst 1, 1) ∧ decode cL_law 478 = .ok (.iadd, 1) ∧ decode cL_law 479 = .ok (.iaload, 1) ∧ decode cL_law 480 = .ok (.aload_n 0, 1) ∧ decode cL_law 481 = .ok (.iload 4, 2) ∧ decode cL_law 483 = .ok (.iconst 2, 1) ∧ decode cL_law 484 = .ok (.iadd, 1) ∧ decode cL_law 485 = .ok (.iaload, 1) ∧ decode cL_law 486 = .ok (.ifCond .eq 7, 3) ∧ decode cL_law 489 = .ok (.iconst 1, 1) ∧ decode cL_law 490 = .ok (.goto 4, 3) ∧ decode cL_law 493 = .ok (.iconst 0, 1) ∧ decode cL_law 494 = .ok (.invokevirtual 72, 3) := by decide +kernel
theorem dL_law_473 : decode cL_law 473 = .ok (.aload_n 2, 1) := dL_law_473_k.1
theorem dL_law_474 : decode cL_law 474 = .ok (.aload_n 0, 1) := dL_law_473_k.2.1
theorem dL_law_475 : decode cL_law 475 = .ok (.iload 4, 2) := dL_law_473_k.2.2.1
theorem dL_law_477 : decode cL_law 477 = .ok (.iconst 1, 1) := dL_law_473_k.2.2.2.1
theorem dL_law_478 : decode cL_law 478 = .ok (.iadd, 1) := dL_law_473_k.2.2.2.2.1
theorem dL_law_479 : decode cL_law 479 = .ok (.iaload, 1) := dL_law_473_k.2.2.2.2.2.1
theorem dL_law_480 : decode cL_law 480 = .ok (.aload_n 0, 1) := dL_law_473_k.2.2.2.2.2.2.1
theorem dL_law_481 : decode cL_law 481 = .ok (.iload 4, 2) := dL_law_473_k.2.2.2.2.2.2.2.1
theorem dL_law_483 : decode cL_law 483 = .ok (.iconst 2, 1) := dL_law_473_k.2.2.2.2.2.2.2.2.1
theorem dL_law_484 : decode cL_law 484 = .ok (.iadd, 1) := dL_law_473_k.2.2.2.2.2.2.2.2.2.1
theorem dL_law_485 : decode cL_law 485 = .ok (.iaload, 1) := dL_law_473_k.2.2.2.2.2.2.2.2.2.2.1
theorem dL_law_486 : decode cL_law 486 = .ok (.ifCond .eq 7, 3) := dL_law_473_k.2.2.2.2.2.2.2.2.2.2.2.1
theorem dL_law_489 : decode cL_law 489 = .ok (.iconst 1, 1) := dL_law_473_k.2.2.2.2.2.2.2.2.2.2.2.2.1
theorem dL_law_490 : decode cL_law 490 = .ok (.goto 4, 3) := dL_law_473_k.2.2.2.2.2.2.2.2.2.2.2.2.2.1
theorem dL_law_493 : decode cL_law 493 = .ok (.iconst 0, 1) := dL_law_473_k.2.2.2.2.2.2.2.2.2.2.2.2.2.2.1
theorem dL_law_494 : decode cL_law 494 = .ok (.invokevirtual 72, 3) := dL_law_473_k.2.2.2.2.2.2.2.2.2.2.2.2.2.2.2
theorem dL_law_497_k : decode cL_law 497 = .ok (.lcmp, 1) ∧ decode cL_law 498 = .ok (.ifCond .eq 600, 3) ∧ decode cL_law 501 = .ok (.iconst 0, 1) ∧ decode cL_law 502 = .ok (.ireturn, 1) ∧ decode cL_law 503 = .ok (.aload_n 1, 1) ∧ decode cL_law 504 = .ok (.aload_n 0, 1) ∧ decode cL_law 505 = .ok (.iload 4, 2) ∧ decode cL_law 507 = .ok (.iconst 1, 1) ∧ decode cL_law 508 = .ok (.iadd, 1) ∧ decode cL_law 509 = .ok (.iaload, 1) ∧ decode cL_law 510 = .ok (.invokevirtual 73, 3) ∧ decode cL_law 513 = .ok (.pop, 1) ∧ decode cL_law 514 = .ok (.aload_n 2, 1) ∧ decode cL_law 515 = .ok (.aload_n 0, 1) ∧ decode cL_law 516 = .ok (.iload 4, 2) ∧ decode cL_law 518 = .ok (.iconst 1, 1) := by decide +kernel
theorem dL_law_497 : decode cL_law 497 = .ok (.lcmp, 1) := dL_law_497_k.1
theorem dL_law_498 : decode cL_law 498 = .ok (.ifCond .eq 600, 3) := dL_law_497_k.2.1
theorem dL_law_501 : decode cL_law 501 = .ok (.iconst 0, 1) := dL_law_497_k.2.2.1
theorem dL_law_502 : decode cL_law 502 = .ok (.ireturn, 1) := dL_law_497_k.2.2.2.1
theorem dL_law_503 : decode cL_law 503 = .ok (.aload_n 1, 1) := dL_law_497_k.2.2.2.2.1
theorem dL_law_504 : decode cL_law 504 = .ok (.aload_n 0, 1) := dL_law_497_k.2.2.2.2.2.1
theorem dL_law_505 : decode cL_law 505 = .ok (.iload 4, 2) := dL_law_497_k.2.2.2.2.2.2.1
theorem dL_law_507 : decode cL_law 507 = .ok (.iconst 1, 1) := dL_law_497_k.2.2.2.2.2.2.2.1
theorem dL_law_508 : decode cL_law 508 = .ok (.iadd, 1) := dL_law_497_k.2.2.2.2.2.2.2.2.1
theorem dL_law_509 : decode cL_law 509 = .ok (.iaload, 1) := dL_law_497_k.2.2.2.2.2.2.2.2.2.1
theorem dL_law_510 : decode cL_law 510 = .ok (.invokevirtual 73, 3) := dL_law_497_k.2.2.2.2.2.2.2.2.2.2.1
theorem dL_law_513 : decode cL_law 513 = .ok (.pop, 1) := dL_law_497_k.2.2.2.2.2.2.2.2.2.2.2.1
theorem dL_law_514 : decode cL_law 514 = .ok (.aload_n 2, 1) := dL_law_497_k.2.2.2.2.2.2.2.2.2.2.2.2.1
theorem dL_law_515 : decode cL_law 515 = .ok (.aload_n 0, 1) := dL_law_497_k.2.2.2.2.2.2.2.2.2.2.2.2.2.1
theorem dL_law_516 : decode cL_law 516 = .ok (.iload 4, 2) := dL_law_497_k.2.2.2.2.2.2.2.2.2.2.2.2.2.2.1
theorem dL_law_518 : decode cL_law 518 = .ok (.iconst 1, 1) := dL_law_497_k.2.2.2.2.2.2.2.2.2.2.2.2.2.2.2
theorem dL_law_519_k : decode cL_law 519 = .ok (.iadd, 1) ∧ decode cL_law 520 = .ok (.iaload, 1) ∧ decode cL_law 521 = .ok (.invokevirtual 76, 3) ∧ decode cL_law 524 = .ok (.pop, 1) ∧ decode cL_law 525 = .ok (.goto 573, 3) ∧ decode cL_law 528 = .ok (.aload_n 1, 1) ∧ decode cL_law 529 = .ok (.aload_n 0, 1) ∧ decode cL_law 530 = .ok (.iload 4, 2) ∧ decode cL_law 532 = .ok (.iconst 1, 1) ∧ decode cL_law 533 = .ok (.iadd, 1) ∧ decode cL_law 534 = .ok (.iaload, 1) ∧ decode cL_law 535 = .ok (.invokevirtual 77, 3) ∧ decode cL_law 538 = .ok (.pop, 1) ∧ decode cL_law 539 = .ok (.aload_n 2, 1) ∧ decode cL_law 540 = .ok (.aload_n 0, 1) ∧ decode cL_law 541 = .ok (.iload 4, 2) := by decide +kernel
theorem dL_law_519 : decode cL_law 519 = .ok (.iadd, 1) := dL_law_519_k.1
theorem dL_law_520 : decode cL_law 520 = .ok (.iaload, 1) := dL_law_519_k.2.1
theorem dL_law_521 : decode cL_law 521 = .ok (.invokevirtual 76, 3) := dL_law_519_k.2.2.1
theorem dL_law_524 : decode cL_law 524 = .ok (.pop, 1) := dL_law_519_k.2.2.2.1
theorem dL_law_525 : decode cL_law 525 = .ok (.goto 573, 3) := dL_law_519_k.2.2.2.2.1
theorem dL_law_528 : decode cL_law 528 = .ok (.aload_n 1, 1) := dL_law_519_k.2.2.2.2.2.1
theorem dL_law_529 : decode cL_law 529 = .ok (.aload_n 0, 1) := dL_law_519_k.2.2.2.2.2.2.1
theorem dL_law_530 : decode cL_law 530 = .ok (.iload 4, 2) := dL_law_519_k.2.2.2.2.2.2.2.1
theorem dL_law_532 : decode cL_law 532 = .ok (.iconst 1, 1) := dL_law_519_k.2.2.2.2.2.2.2.2.1
theorem dL_law_533 : decode cL_law 533 = .ok (.iadd, 1) := dL_law_519_k.2.2.2.2.2.2.2.2.2.1
theorem dL_law_534 : decode cL_law 534 = .ok (.iaload, 1) := dL_law_519_k.2.2.2.2.2.2.2.2.2.2.1
theorem dL_law_535 : decode cL_law 535 = .ok (.invokevirtual 77, 3) := dL_law_519_k.2.2.2.2.2.2.2.2.2.2.2.1
theorem dL_law_538 : decode cL_law 538 = .ok (.pop, 1) := dL_law_519_k.2.2.2.2.2.2.2.2.2.2.2.2.1
theorem dL_law_539 : decode cL_law 539 = .ok (.aload_n 2, 1) := dL_law_519_k.2.2.2.2.2.2.2.2.2.2.2.2.2.1
theorem dL_law_540 : decode cL_law 540 = .ok (.aload_n 0, 1) := dL_law_519_k.2.2.2.2.2.2.2.2.2.2.2.2.2.2.1
theorem dL_law_541 : decode cL_law 541 = .ok (.iload 4, 2) := dL_law_519_k.2.2.2.2.2.2.2.2.2.2.2.2.2.2.2
theorem dL_law_543_k : decode cL_law 543 = .ok (.iconst 1, 1) ∧ decode cL_law 544 = .ok (.iadd, 1) ∧ decode cL_law 545 = .ok (.iaload, 1) ∧ decode cL_law 546 = .ok (.invokevirtual 80, 3) ∧ decode cL_law 549 = .ok (.pop, 1) ∧ decode cL_law 550 = .ok (.goto 548, 3) ∧ decode cL_law 553 = .ok (.aload_n 1, 1) ∧ decode cL_law 554 = .ok (.aload_n 0, 1) ∧ decode cL_law 555 = .ok (.iload 4, 2) ∧ decode cL_law 557 = .ok (.iconst 1, 1) ∧ decode cL_law 558 = .ok (.iadd, 1) ∧ decode cL_law 559 = .ok (.iaload, 1) ∧ decode cL_law 560 = .ok (.aload_n 0, 1) ∧ decode cL_law 561 = .ok (.iload 4, 2) ∧ decode cL_law 563 = .ok (.iconst 2, 1) ∧ decode cL_law 564 = .ok (.iadd, 1) := by decide +kernel
theorem dL_law_543 : decode cL_law 543 = .ok (.iconst 1, 1) := dL_law_543_k.1
theorem dL_law_544 : decode cL_law 544 = .ok (.iadd, 1) := dL_law_543_k.2.1
theorem dL_law_545 : decode cL_law 545 = .ok (.iaload, 1) := dL_law_543_k.2.2.1
theorem dL_law_546 : decode cL_law 546 = .ok (.invokevirtual 80, 3) := dL_law_543_k.2.2.2.1
theorem dL_law_549 : decode cL_law 549 = .ok (.pop, 1) := dL_law_543_k.2.2.2.2.1
theorem dL_law_550 : decode cL_law 550 = .ok (.goto 548, 3) := dL_law_543_k.2.2.2.2.2.1
theorem dL_law_553 : decode cL_law 553 = .ok (.aload_n 1, 1) := dL_law_543_k.2.2.2.2.2.2.1
theorem dL_law_554 : decode cL_law 554 = .ok (.aload_n 0, 1) := dL_law_543_k.2.2.2.2.2.2.2.1
theorem dL_law_555 : decode cL_law 555 = .ok (.iload 4, 2) := dL_law_543_k.2.2.2.2.2.2.2.2.1
theorem dL_law_557 : decode cL_law 557 = .ok (.iconst 1, 1) := dL_law_543_k.2.2.2.2.2.2.2.2.2.1
theorem dL_law_558 : decode cL_law 558 = .ok (.iadd, 1) := dL_law_543_k.2.2.2.2.2.2.2.2.2.2.1
theorem dL_law_559 : decode cL_law 559 = .ok (.iaload, 1) := dL_law_543_k.2.2.2.2.2.2.2.2.2.2.2.1
theorem dL_law_560 : decode cL_law 560 = .ok (.aload_n 0, 1) := dL_law_543_k.2.2.2.2.2.2.2.2.2.2.2.2.1
theorem dL_law_561 : decode cL_law 561 = .ok (.iload 4, 2) := dL_law_543_k.2.2.2.2.2.2.2.2.2.2.2.2.2.1
theorem dL_law_563 : decode cL_law 563 = .ok (.iconst 2, 1) := dL_law_543_k.2.2.2.2.2.2.2.2.2.2.2.2.2.2.1
theorem dL_law_564 : decode cL_law 564 = .ok (.iadd, 1) := dL_law_543_k.2.2.2.2.2.2.2.2.2.2.2.2.2.2.2
theorem dL_law_565_k : decode cL_law 565 = .ok (.iaload, 1) ∧ decode cL_law 566 = .ok (.aload_n 0, 1) ∧ decode cL_law 567 = .ok (.iload 4, 2) ∧ decode cL_law 569 = .ok (.iconst 3, 1) ∧ decode cL_law 570 = .ok (.iadd, 1) ∧ decode cL_law 571 = .ok (.iaload, 1) ∧ decode cL_law 572 = .ok (.ifCond .eq 7, 3) ∧ decode cL_law 575 = .ok (.iconst 1, 1) ∧ decode cL_law 576 = .ok (.goto 4, 3) ∧ decode cL_law 579 = .ok (.iconst 0, 1) ∧ decode cL_law 580 = .ok (.invokevirtual 81, 3) ∧ decode cL_law 583 = .ok (.pop, 1) ∧ decode cL_law 584 = .ok (.aload_n 2, 1) ∧ decode cL_law 585 = .ok (.aload_n 0, 1) ∧ decode cL_law 586 = .ok (.iload 4, 2) ∧ decode cL_law 588 = .ok (.iconst 1, 1) := by decide +kernel
theorem dL_law_565 : decode cL_law 565 = .ok (.iaload, 1) := dL_law_565_k.1
theorem dL_law_566 : decode cL_law 566 = .ok (.aload_n 0, 1) := dL_law_565_k.2.1
theorem dL_law_567 : decode cL_law 567 = .ok (.iload 4, 2) := dL_law_565_k.2.2.1
theorem dL_law_569 : decode cL_law 569 = .ok (.iconst 3, 1) := dL_law_565_k.2.2.2.1
theorem dL_law_570 : decode cL_law 570 = .ok (.iadd, 1) := dL_law_565_k.2.2.2.2.1
theorem dL_law_571 : decode cL_law 571 = .ok (.iaload, 1) := dL_law_565_k.2.2.2.2.2.1
theorem dL_law_572 : decode cL_law 572 = .ok (.ifCond .eq 7, 3) := dL_law_565_k.2.2.2.2.2.2.1
theorem dL_law_575 : decode cL_law 575 = .ok (.iconst 1, 1) := dL_law_565_k.2.2.2.2.2.2.2.1
theorem dL_law_576 : decode cL_law 576 = .ok (.goto 4, 3) := dL_law_565_k.2.2.2.2.2.2.2.2.1
theorem dL_law_579 : decode cL_law 579 = .ok (.iconst 0, 1) := dL_law_565_k.2.2.2.2.2.2.2.2.2.1
theorem dL_law_580 : decode cL_law 580 = .ok (.invokevirtual 81, 3) := dL_law_565_k.2.2.2.2.2.2.2.2.2.2.1
theorem dL_law_583 : decode cL_law 583 = .ok (.pop, 1) := dL_law_565_k.2.2.2.2.2.2.2.2.2.2.2.1
theorem dL_law_584 : decode cL_law 584 = .ok (.aload_n 2, 1) := dL_law_565_k.2.2.2.2.2.2.2.2.2.2.2.2.1
theorem dL_law_585 : decode cL_law 585 = .ok (.aload_n 0, 1) := dL_law_565_k.2.2.2.2.2.2.2.2.2.2.2.2.2.1
theorem dL_law_586 : decode cL_law 586 = .ok (.iload 4, 2) := dL_law_565_k.2.2.2.2.2.2.2.2.2.2.2.2.2.2.1
theorem dL_law_588 : decode cL_law 588 = .ok (.iconst 1, 1) := dL_law_565_k.2.2.2.2.2.2.2.2.2.2.2.2.2.2.2
theorem dL_law_589_k : decode cL_law 589 = .ok (.iadd, 1) ∧ decode cL_law 590 = .ok (.iaload, 1) ∧ decode cL_law 591 = .ok (.aload_n 0, 1) ∧ decode cL_law 592 = .ok (.iload 4, 2) ∧ decode cL_law 594 = .ok (.iconst 2, 1) ∧ decode cL_law 595 = .ok (.iadd, 1) ∧ decode cL_law 596 = .ok (.iaload, 1) ∧ decode cL_law 597 = .ok (.aload_n 0, 1) ∧ decode cL_law 598 = .ok (.iload 4, 2) ∧ decode cL_law 600 = .ok (.iconst 3, 1) ∧ decode cL_law 601 = .ok (.iadd, 1) ∧ decode cL_law 602 = .ok (.iaload, 1) ∧ decode cL_law 603 = .ok (.ifCond .eq 7, 3) ∧ decode cL_law 606 = .ok (.iconst 1, 1) ∧ decode cL_law 607 = .ok (.goto 4, 3) ∧ decode cL_law 610 = .ok (.iconst 0, 1) := by decide +kernel
theorem dL_law_589 : decode cL_law 589 = .ok (.iadd, 1) := dL_law_589_k.1
theorem dL_law_590 : decode cL_law 590 = .ok (.iaload, 1) := dL_law_589_k.2.1
theorem dL_law_591 : decode cL_law 591 = .ok (.aload_n 0, 1) := dL_law_589_k.2.2.1
theorem dL_law_592 : decode cL_law 592 = .ok (.iload 4, 2) := dL_law_589_k.2.2.2.1
theorem dL_law_594 : decode cL_law 594 = .ok (.iconst 2, 1) := dL_law_589_k.2.2.2.2.1
theorem dL_law_595 : decode cL_law 595 = .ok (.iadd, 1) := dL_law_589_k.2.2.2.2.2.1
theorem dL_law_596 : decode cL_law 596 = .ok (.iaload, 1) := dL_law_589_k.2.2.2.2.2.2.1
theorem dL_law_597 : decode cL_law 597 = .ok (.aload_n 0, 1) := dL_law_589_k.2.2.2.2.2.2.2.1
theorem dL_law_598 : decode cL_law 598 = .ok (.iload 4, 2) := dL_law_589_k.2.2.2.2.2.2.2.2.1
theorem dL_law_600 : decode cL_law 600 = .ok (.iconst 3, 1) := dL_law_589_k.2.2.2.2.2.2.2.2.2.1
theorem dL_law_601 : decode cL_law 601 = .ok (.iadd, 1) := dL_law_589_k.2.2.2.2.2.2.2.2.2.2.1
theorem dL_law_602 : decode cL_law 602 = .ok (.iaload, 1) := dL_law_589_k.2.2.2.2.2.2.2.2.2.2.2.1
theorem dL_law_603 : decode cL_law 603 = .ok (.ifCond .eq 7, 3) := dL_law_589_k.2.2.2.2.2.2.2.2.2.2.2.2.1
theorem dL_law_606 : decode cL_law 606 = .ok (.iconst 1, 1) := dL_law_589_k.2.2.2.2.2.2.2.2.2.2.2.2.2.1
theorem dL_law_607 : decode cL_law 607 = .ok (.goto 4, 3) := dL_law_589_k.2.2.2.2.2.2.2.2.2.2.2.2.2.2.1
theorem dL_law_610 : decode cL_law 610 = .ok (.iconst 0, 1) := dL_law_589_k.2.2.2.2.2.2.2.2.2.2.2.2.2.2.2
theorem dL_law_611_k : decode cL_law 611 = .ok (.invokevirtual 85, 3) ∧ decode cL_law 614 = .ok (.pop, 1) ∧ decode cL_law 615 = .ok (.goto 483, 3) ∧ decode cL_law 618 = .ok (.aload_n 1, 1) ∧ decode cL_law 619 = .ok (.aload_n 0, 1) ∧ decode cL_law 620 = .ok (.iload 4, 2) ∧ decode cL_law 622 = .ok (.iconst 1, 1) ∧ decode cL_law 623 = .ok (.iadd, 1) ∧ decode cL_law 624 = .ok (.iaload, 1) ∧ decode cL_law 625 = .ok (.aload_n 0, 1) ∧ decode cL_law 626 = .ok (.iload 4, 2) ∧ decode cL_law 628 = .ok (.iconst 2, 1) ∧ decode cL_law 629 = .ok (.iadd, 1) ∧ decode cL_law 630 = .ok (.iaload, 1) ∧ decode cL_law 631 = .ok (.aload_n 0, 1) ∧ decode cL_law 632 = .ok (.iload 4, 2) := by decide +kernel
theorem dL_law_611 : decode cL_law 611 = .ok (.invokevirtual 85, 3) := dL_law_611_k.1
theorem dL_law_614 : decode cL_law 614 = .ok (.pop, 1) := dL_law_611_k.2.1
theorem dL_law_615 : decode cL_law 615 = .ok (.goto 483, 3) := dL_law_611_k.2.2.1
theorem dL_law_618 : decode cL_law 618 = .ok (.aload_n 1, 1) := dL_law_611_k.2.2.2.1
theorem dL_law_619 : decode cL_law 619 = .ok (.aload_n 0, 1) := dL_law_611_k.2.2.2.2.1
theorem dL_law_620 : decode cL_law 620 = .ok (.iload 4, 2) := dL_law_611_k.2.2.2.2.2.1
theorem dL_law_622 : decode cL_law 622 = .ok (.iconst 1, 1) := dL_law_611_k.2.2.2.2.2.2.1
theorem dL_law_623 : decode cL_law 623 = .ok (.iadd, 1) := dL_law_611_k.2.2.2.2.2.2.2.1
theorem dL_law_624 : decode cL_law 624 = .ok (.iaload, 1) := dL_law_611_k.2.2.2.2.2.2.2.2.1
theorem dL_law_625 : decode cL_law 625 = .ok (.aload_n 0, 1) := dL_law_611_k.2.2.2.2.2.2.2.2.2.1
theorem dL_law_626 : decode cL_law 626 = .ok (.iload 4, 2) := dL_law_611_k.2.2.2.2.2.2.2.2.2.2.1
theorem dL_law_628 : decode cL_law 628 = .ok (.iconst 2, 1) := dL_law_611_k.2.2.2.2.2.2.2.2.2.2.2.1
theorem dL_law_629 : decode cL_law 629 = .ok (.iadd, 1) := dL_law_611_k.2.2.2.2.2.2.2.2.2.2.2.2.1
theorem dL_law_630 : decode cL_law 630 = .ok (.iaload, 1) := dL_law_611_k.2.2.2.2.2.2.2.2.2.2.2.2.2.1
theorem dL_law_631 : decode cL_law 631 = .ok (.aload_n 0, 1) := dL_law_611_k.2.2.2.2.2.2.2.2.2.2.2.2.2.2.1
theorem dL_law_632 : decode cL_law 632 = .ok (.iload 4, 2) := dL_law_611_k.2.2.2.2.2.2.2.2.2.2.2.2.2.2.2
theorem dL_law_634_k : decode cL_law 634 = .ok (.iconst 3, 1) ∧ decode cL_law 635 = .ok (.iadd, 1) ∧ decode cL_law 636 = .ok (.iaload, 1) ∧ decode cL_law 637 = .ok (.ifCond .eq 7, 3) ∧ decode cL_law 640 = .ok (.iconst 1, 1) ∧ decode cL_law 641 = .ok (.goto 4, 3) ∧ decode cL_law 644 = .ok (.iconst 0, 1) ∧ decode cL_law 645 = .ok (.invokevirtual 86, 3) ∧ decode cL_law 648 = .ok (.pop, 1) ∧ decode cL_law 649 = .ok (.aload_n 2, 1) ∧ decode cL_law 650 = .ok (.aload_n 0, 1) ∧ decode cL_law 651 = .ok (.iload 4, 2) ∧ decode cL_law 653 = .ok (.iconst 1, 1) ∧ decode cL_law 654 = .ok (.iadd, 1) ∧ decode cL_law 655 = .ok (.iaload, 1) ∧ decode cL_law 656 = .ok (.aload_n 0, 1) := by decide +kernel
theorem dL_law_634 : decode cL_law 634 = .ok (.iconst 3, 1) := dL_law_634_k.1
theorem dL_law_635 : decode cL_law 635 = .ok (.iadd, 1) := dL_law_634_k.2.1
theorem dL_law_636 : decode cL_law 636 = .ok (.iaload, 1) := dL_law_634_k.2.2.1
theorem dL_law_637 : decode cL_law 637 = .ok (.ifCond .eq 7, 3) := dL_law_634_k.2.2.2.1
theorem dL_law_640 : decode cL_law 640 = .ok (.iconst 1, 1) := dL_law_634_k.2.2.2.2.1
theorem dL_law_641 : decode cL_law 641 = .ok (.goto 4, 3) := dL_law_634_k.2.2.2.2.2.1
theorem dL_law_644 : decode cL_law 644 = .ok (.iconst 0, 1) := dL_law_634_k.2.2.2.2.2.2.1
theorem dL_law_645 : decode cL_law 645 = .ok (.invokevirtual 86, 3) := dL_law_634_k.2.2.2.2.2.2.2.1
theorem dL_law_648 : decode cL_law 648 = .ok (.pop, 1) := dL_law_634_k.2.2.2.2.2.2.2.2.1
theorem dL_law_649 : decode cL_law 649 = .ok (.aload_n 2, 1) := dL_law_634_k.2.2.2.2.2.2.2.2.2.1
theorem dL_law_650 : decode cL_law 650 = .ok (.aload_n 0, 1) := dL_law_634_k.2.2.2.2.2.2.2.2.2.2.1
theorem dL_law_651 : decode cL_law 651 = .ok (.iload 4, 2) := dL_law_634_k.2.2.2.2.2.2.2.2.2.2.2.1
theorem dL_law_653 : decode cL_law 653 = .ok (.iconst 1, 1) := dL_law_634_k.2.2.2.2.2.2.2.2.2.2.2.2.1
theorem dL_law_654 : decode cL_law 654 = .ok (.iadd, 1) := dL_law_634_k.2.2.2.2.2.2.2.2.2.2.2.2.2.1
theorem dL_law_655 : decode cL_law 655 = .ok (.iaload, 1) := dL_law_634_k.2.2.2.2.2.2.2.2.2.2.2.2.2.2.1
theorem dL_law_656 : decode cL_law 656 = .ok (.aload_n 0, 1) := dL_law_634_k.2.2.2.2.2.2.2.2.2.2.2.2.2.2.2
theorem dL_law_657_k : decode cL_law 657 = .ok (.iload 4, 2) ∧ decode cL_law 659 = .ok (.iconst 2, 1) ∧ decode cL_law 660 = .ok (.iadd, 1) ∧ decode cL_law 661 = .ok (.iaload, 1) ∧ decode cL_law 662 = .ok (.aload_n 0, 1) ∧ decode cL_law 663 = .ok (.iload 4, 2) ∧ decode cL_law 665 = .ok (.iconst 3, 1) ∧ decode cL_law 666 = .ok (.iadd, 1) ∧ decode cL_law 667 = .ok (.iaload, 1) ∧ decode cL_law 668 = .ok (.ifCond .eq 7, 3) ∧ decode cL_law 671 = .ok (.iconst 1, 1) ∧ decode cL_law 672 = .ok (.goto 4, 3) ∧ decode cL_law 675 = .ok (.iconst 0, 1) ∧ decode cL_law 676 = .ok (.invokevirtual 89, 3) ∧ decode cL_law 679 = .ok (.pop, 1) ∧ decode cL_law 680 = .ok (.goto 418, 3) := by decide +kernel
theorem dL_law_657 : decode cL_law 657 = .ok (.iload 4, 2) := dL_law_657_k.1
theorem dL_law_659 : decode cL_law 659 = .ok (.iconst 2, 1) := dL_law_657_k.2.1
theorem dL_law_660 : decode cL_law 660 = .ok (.iadd, 1) := dL_law_657_k.2.2.1
theorem dL_law_661 : decode cL_law 661 = .ok (.iaload, 1) := dL_law_657_k.2.2.2.1
theorem dL_law_662 : decode cL_law 662 = .ok (.aload_n 0, 1) := dL_law_657_k.2.2.2.2.1
theorem dL_law_663 : decode cL_law 663 = .ok (.iload 4, 2) := dL_law_657_k.2.2.2.2.2.1
theorem dL_law_665 : decode cL_law 665 = .ok (.iconst 3, 1) := dL_law_657_k.2.2.2.2.2.2.1
theorem dL_law_666 : decode cL_law 666 = .ok (.iadd, 1) := dL_law_657_k.2.2.2.2.2.2.2.1
theorem dL_law_667 : decode cL_law 667 = .ok (.iaload, 1) := dL_law_657_k.2.2.2.2.2.2.2.2.1
theorem dL_law_668 : decode cL_law 668 = .ok (.ifCond .eq 7, 3) := dL_law_657_k.2.2.2.2.2.2.2.2.2.1
theorem dL_law_671 : decode cL_law 671 = .ok (.iconst 1, 1) := dL_law_657_k.2.2.2.2.2.2.2.2.2.2.1
theorem dL_law_672 : decode cL_law 672 = .ok (.goto 4, 3) := dL_law_657_k.2.2.2.2.2.2.2.2.2.2.2.1
theorem dL_law_675 : decode cL_law 675 = .ok (.iconst 0, 1) := dL_law_657_k.2.2.2.2.2.2.2.2.2.2.2.2.1
theorem dL_law_676 : decode cL_law 676 = .ok (.invokevirtual 89, 3) := dL_law_657_k.2.2.2.2.2.2.2.2.2.2.2.2.2.1
theorem dL_law_679 : decode cL_law 679 = .ok (.pop, 1) := dL_law_657_k.2.2.2.2.2.2.2.2.2.2.2.2.2.2.1
theorem dL_law_680 : decode cL_law 680 = .ok (.goto 418, 3) := dL_law_657_k.2.2.2.2.2.2.2.2.2.2.2.2.2.2.2
theorem dL_law_683_k : decode cL_law 683 = .ok (.aload_n 1, 1) ∧ decode cL_law 684 = .ok (.aload_n 0, 1) ∧ decode cL_law 685 = .ok (.iload 4, 2) ∧ decode cL_law 687 = .ok (.iconst 1, 1) ∧ decode cL_law 688 = .ok (.iadd, 1) ∧ decode cL_law 689 = .ok (.iaload, 1) ∧ decode cL_law 690 = .ok (.invokevirtual 90, 3) ∧ decode cL_law 693 = .ok (.pop, 1) ∧ decode cL_law 694 = .ok (.aload_n 2, 1) ∧ decode cL_law 695 = .ok (.aload_n 0, 1) ∧ decode cL_law 696 = .ok (.iload 4, 2) ∧ decode cL_law 698 = .ok (.iconst 1, 1) ∧ decode cL_law 699 = .ok (.iadd, 1) ∧ decode cL_law 700 = .ok (.iaload, 1) ∧ decode cL_law 701 = .ok (.invokevirtual 93, 3) ∧ decode cL_law 704 = .ok (.pop, 1) := by decide +kernel
theorem dL_law_683 : decode cL_law 683 = .ok (.aload_n 1, 1) := dL_law_683_k.1
theorem dL_law_684 : decode cL_law 684 = .ok (.aload_n 0, 1) := dL_law_683_k.2.1
theorem dL_law_685 : decode cL_law 685 = .ok (.iload 4, 2) := dL_law_683_k.2.2.1
theorem dL_law_687 : decode cL_law 687 = .ok (.iconst 1, 1) := dL_law_683_k.2.2.2.1
theorem dL_law_688 : decode cL_law 688 = .ok (.iadd, 1) := dL_law_683_k.2.2.2.2.1
theorem dL_law_689 : decode cL_law 689 = .ok (.iaload, 1) := dL_law_683_k.2.2.2.2.2.1
theorem dL_law_690 : decode cL_law 690 = .ok (.invokevirtual 90, 3) := dL_law_683_k.2.2.2.2.2.2.1
theorem dL_law_693 : decode cL_law 693 = .ok (.pop, 1) := dL_law_683_k.2.2.2.2.2.2.2.1
theorem dL_law_694 : decode cL_law 694 = .ok (.aload_n 2, 1) := dL_law_683_k.2.2.2.2.2.2.2.2.1
theorem dL_law_695 : decode cL_law 695 = .ok (.aload_n 0, 1) := dL_law_683_k.2.2.2.2.2.2.2.2.2.1
theorem dL_law_696 : decode cL_law 696 = .ok (.iload 4, 2) := dL_law_683_k.2.2.2.2.2.2.2.2.2.2.1
theorem dL_law_698 : decode cL_law 698 = .ok (.iconst 1, 1) := dL_law_683_k.2.2.2.2.2.2.2.2.2.2.2.1
theorem dL_law_699 : decode cL_law 699 = .ok (.iadd, 1) := dL_law_683_k.2.2.2.2.2.2.2.2.2.2.2.2.1
theorem dL_law_700 : decode cL_law 700 = .ok (.iaload, 1) := dL_law_683_k.2.2.2.2.2.2.2.2.2.2.2.2.2.1
theorem dL_law_701 : decode cL_law 701 = .ok (.invokevirtual 93, 3) := dL_law_683_k.2.2.2.2.2.2.2.2.2.2.2.2.2.2.1
theorem dL_law_704 : decode cL_law 704 = .ok (.pop, 1) := dL_law_683_k.2.2.2.2.2.2.2.2.2.2.2.2.2.2.2
theorem dL_law_705_k : decode cL_law 705 = .ok (.goto 393, 3) ∧ decode cL_law 708 = .ok (.aload_n 1, 1) ∧ decode cL_law 709 = .ok (.aload_n 0, 1) ∧ decode cL_law 710 = .ok (.iload 4, 2) ∧ decode cL_law 712 = .ok (.iconst 1, 1) ∧ decode cL_law 713 = .ok (.iadd, 1) ∧ decode cL_law 714 = .ok (.iaload, 1) ∧ decode cL_law 715 = .ok (.invokevirtual 94, 3) ∧ decode cL_law 718 = .ok (.pop, 1) ∧ decode cL_law 719 = .ok (.aload_n 2, 1) ∧ decode cL_law 720 = .ok (.aload_n 0, 1) ∧ decode cL_law 721 = .ok (.iload 4, 2) ∧ decode cL_law 723 = .ok (.iconst 1, 1) ∧ decode cL_law 724 = .ok (.iadd, 1) ∧ decode cL_law 725 = .ok (.iaload, 1) ∧ decode cL_law 726 = .ok (.invokevirtual 97, 3) := by decide +kernel
theorem dL_law_705 : decode cL_law 705 = .ok (.goto 393, 3) := dL_law_705_k.1
theorem dL_law_708 : decode cL_law 708 = .ok (.aload_n 1, 1) := dL_law_705_k.2.1
theorem dL_law_709 : decode cL_law 709 = .ok (.aload_n 0, 1) := dL_law_705_k.2.2.1
theorem dL_law_710 : decode cL_law 710 = .ok (.iload 4, 2) := dL_law_705_k.2.2.2.1
theorem dL_law_712 : decode cL_law 712 = .ok (.iconst 1, 1) := dL_law_705_k.2.2.2.2.1
theorem dL_law_713 : decode cL_law 713 = .ok (.iadd, 1) := dL_law_705_k.2.2.2.2.2.1
theorem dL_law_714 : decode cL_law 714 = .ok (.iaload, 1) := dL_law_705_k.2.2.2.2.2.2.1
theorem dL_law_715 : decode cL_law 715 = .ok (.invokevirtual 94, 3) := dL_law_705_k.2.2.2.2.2.2.2.1
theorem dL_law_718 : decode cL_law 718 = .ok (.pop, 1) := dL_law_705_k.2.2.2.2.2.2.2.2.1
theorem dL_law_719 : decode cL_law 719 = .ok (.aload_n 2, 1) := dL_law_705_k.2.2.2.2.2.2.2.2.2.1
theorem dL_law_720 : decode cL_law 720 = .ok (.aload_n 0, 1) := dL_law_705_k.2.2.2.2.2.2.2.2.2.2.1
theorem dL_law_721 : decode cL_law 721 = .ok (.iload 4, 2) := dL_law_705_k.2.2.2.2.2.2.2.2.2.2.2.1
theorem dL_law_723 : decode cL_law 723 = .ok (.iconst 1, 1) := dL_law_705_k.2.2.2.2.2.2.2.2.2.2.2.2.1
theorem dL_law_724 : decode cL_law 724 = .ok (.iadd, 1) := dL_law_705_k.2.2.2.2.2.2.2.2.2.2.2.2.2.1
theorem dL_law_725 : decode cL_law 725 = .ok (.iaload, 1) := dL_law_705_k.2.2.2.2.2.2.2.2.2.2.2.2.2.2.1
theorem dL_law_726 : decode cL_law 726 = .ok (.invokevirtual 97, 3) := dL_law_705_k.2.2.2.2.2.2.2.2.2.2.2.2.2.2.2
theorem dL_law_729_k : decode cL_law 729 = .ok (.pop, 1) ∧ decode cL_law 730 = .ok (.goto 368, 3) ∧ decode cL_law 733 = .ok (.aload_n 1, 1) ∧ decode cL_law 734 = .ok (.aload_n 0, 1) ∧ decode cL_law 735 = .ok (.iload 4, 2) ∧ decode cL_law 737 = .ok (.iconst 1, 1) ∧ decode cL_law 738 = .ok (.iadd, 1) ∧ decode cL_law 739 = .ok (.iaload, 1) ∧ decode cL_law 740 = .ok (.aload_n 0, 1) ∧ decode cL_law 741 = .ok (.iload 4, 2) ∧ decode cL_law 743 = .ok (.iconst 2, 1) ∧ decode cL_law 744 = .ok (.iadd, 1) ∧ decode cL_law 745 = .ok (.iaload, 1) ∧ decode cL_law 746 = .ok (.invokevirtual 98, 3) ∧ decode cL_law 749 = .ok (.pop, 1) ∧ decode cL_law 750 = .ok (.aload_n 2, 1) := by decide +kernel
theorem dL_law_729 : decode cL_law 729 = .ok (.pop, 1) := dL_law_729_k.1
theorem dL_law_730 : decode cL_law 730 = .ok (.goto 368, 3) := dL_law_729_k.2.1
theorem dL_law_733 : decode cL_law 733 = .ok (.aload_n 1, 1) := dL_law_729_k.2.2.1
theorem dL_law_734 : decode cL_law 734 = .ok (.aload_n 0, 1) := dL_law_729_k.2.2.2.1
theorem dL_law_735 : decode cL_law 735 = .ok (.iload 4, 2) := dL_law_729_k.2.2.2.2.1
theorem dL_law_737 : decode cL_law 737 = .ok (.iconst 1, 1) := dL_law_729_k.2.2.2.2.2.1
theorem dL_law_738 : decode cL_law 738 = .ok (.iadd, 1) := dL_law_729_k.2.2.2.2.2.2.1
theorem dL_law_739 : decode cL_law 739 = .ok (.iaload, 1) := dL_law_729_k.2.2.2.2.2.2.2.1
theorem dL_law_740 : decode cL_law 740 = .ok (.aload_n 0, 1) := dL_law_729_k.2.2.2.2.2.2.2.2.1
theorem dL_law_741 : decode cL_law 741 = .ok (.iload 4, 2) := dL_law_729_k.2.2.2.2.2.2.2.2.2.1
theorem dL_law_743 : decode cL_law 743 = .ok (.iconst 2, 1) := dL_law_729_k.2.2.2.2.2.2.2.2.2.2.1
theorem dL_law_744 : decode cL_law 744 = .ok (.iadd, 1) := dL_law_729_k.2.2.2.2.2.2.2.2.2.2.2.1
theorem dL_law_745 : decode cL_law 745 = .ok (.iaload, 1) := dL_law_729_k.2.2.2.2.2.2.2.2.2.2.2.2.1
theorem dL_law_746 : decode cL_law 746 = .ok (.invokevirtual 98, 3) := dL_law_729_k.2.2.2.2.2.2.2.2.2.2.2.2.2.1
theorem dL_law_749 : decode cL_law 749 = .ok (.pop, 1) := dL_law_729_k.2.2.2.2.2.2.2.2.2.2.2.2.2.2.1
theorem dL_law_750 : decode cL_law 750 = .ok (.aload_n 2, 1) := dL_law_729_k.2.2.2.2.2.2.2.2.2.2.2.2.2.2.2
theorem dL_law_751_k : decode cL_law 751 = .ok (.aload_n 0, 1) ∧ decode cL_law 752 = .ok (.iload 4, 2) ∧ decode cL_law 754 = .ok (.iconst 1, 1) ∧ decode cL_law 755 = .ok (.iadd, 1) ∧ decode cL_law 756 = .ok (.iaload, 1) ∧ decode cL_law 757 = .ok (.aload_n 0, 1) ∧ decode cL_law 758 = .ok (.iload 4, 2) ∧ decode cL_law 760 = .ok (.iconst 2, 1) ∧ decode cL_law 761 = .ok (.iadd, 1) ∧ decode cL_law 762 = .ok (.iaload, 1) ∧ decode cL_law 763 = .ok (.invokevirtual 101, 3) ∧ decode cL_law 766 = .ok (.pop, 1) ∧ decode cL_law 767 = .ok (.goto 331, 3) ∧ decode cL_law 770 = .ok (.aload_n 1, 1) ∧ decode cL_law 771 = .ok (.aload_n 0, 1) ∧ decode cL_law 772 = .ok (.iload 4, 2) := by decide +kernel
theorem dL_law_751 : decode cL_law 751 = .ok (.aload_n 0, 1) := dL_law_751_k.1
theorem dL_law_752 : decode cL_law 752 = .ok (.iload 4, 2) := dL_law_751_k.2.1
theorem dL_law_754 : decode cL_law 754 = .ok (.iconst 1, 1) := dL_law_751_k.2.2.1
theorem dL_law_755 : decode cL_law 755 = .ok (.iadd, 1) := dL_law_751_k.2.2.2.1
theorem dL_law_756 : decode cL_law 756 = .ok (.iaload, 1) := dL_law_751_k.2.2.2.2.1
theorem dL_law_757 : decode cL_law 757 = .ok (.aload_n 0, 1) := dL_law_751_k.2.2.2.2.2.1
theorem dL_law_758 : decode cL_law 758 = .ok (.iload 4, 2) := dL_law_751_k.2.2.2.2.2.2.1
theorem dL_law_760 : decode cL_law 760 = .ok (.iconst 2, 1) := dL_law_751_k.2.2.2.2.2.2.2.1
theorem dL_law_761 : decode cL_law 761 = .ok (.iadd, 1) := dL_law_751_k.2.2.2.2.2.2.2.2.1
theorem dL_law_762 : decode cL_law 762 = .ok (.iaload, 1) := dL_law_751_k.2.2.2.2.2.2.2.2.2.1
theorem dL_law_763 : decode cL_law 763 = .ok (.invokevirtual 101, 3) := dL_law_751_k.2.2.2.2.2.2.2.2.2.2.1
theorem dL_law_766 : decode cL_law 766 = .ok (.pop, 1) := dL_law_751_k.2.2.2.2.2.2.2.2.2.2.2.1
theorem dL_law_767 : decode cL_law 767 = .ok (.goto 331, 3) := dL_law_751_k.2.2.2.2.2.2.2.2.2.2.2.2.1
theorem dL_law_770 : decode cL_law 770 = .ok (.aload_n 1, 1) := dL_law_751_k.2.2.2.2.2.2.2.2.2.2.2.2.2.1
theorem dL_law_771 : decode cL_law 771 = .ok (.aload_n 0, 1) := dL_law_751_k.2.2.2.2.2.2.2.2.2.2.2.2.2.2.1
theorem dL_law_772 : decode cL_law 772 = .ok (.iload 4, 2) := dL_law_751_k.2.2.2.2.2.2.2.2.2.2.2.2.2.2.2
theorem dL_law_774_k : decode cL_law 774 = .ok (.iconst 1, 1) ∧ decode cL_law 775 = .ok (.iadd, 1) ∧ decode cL_law 776 = .ok (.iaload, 1) ∧ decode cL_law 777 = .ok (.aload_n 0, 1) ∧ decode cL_law 778 = .ok (.iload 4, 2) ∧ decode cL_law 780 = .ok (.iconst 2, 1) ∧ decode cL_law 781 = .ok (.iadd, 1) ∧ decode cL_law 782 = .ok (.iaload, 1) ∧ decode cL_law 783 = .ok (.invokevirtual 102, 3) ∧ decode cL_law 786 = .ok (.pop, 1) ∧ decode cL_law 787 = .ok (.aload_n 2, 1) ∧ decode cL_law 788 = .ok (.aload_n 0, 1) ∧ decode cL_law 789 = .ok (.iload 4, 2) ∧ decode cL_law 791 = .ok (.iconst 1, 1) ∧ decode cL_law 792 = .ok (.iadd, 1) ∧ decode cL_law 793 = .ok (.iaload, 1) := by decide +kernel
theorem dL_law_774 : decode cL_law 774 = .ok (.iconst 1, 1) := dL_law_774_k.1
theorem dL_law_775 : decode cL_law 775 = .ok (.iadd, 1) := dL_law_774_k.2.1
theorem dL_law_776 : decode cL_law 776 = .ok (.iaload, 1) := dL_law_774_k.2.2.1
theorem dL_law_777 : decode cL_law 777 = .ok (.aload_n 0, 1) := dL_law_774_k.2.2.2.1
theorem dL_law_778 : decode cL_law 778 = .ok (.iload 4, 2) := dL_law_774_k.2.2.2.2.1
theorem dL_law_780 : decode cL_law 780 = .ok (.iconst 2, 1) := dL_law_774_k.2.2.2.2.2.1
theorem dL_law_781 : decode cL_law 781 = .ok (.iadd, 1) := dL_law_774_k.2.2.2.2.2.2.1
theorem dL_law_782 : decode cL_law 782 = .ok (.iaload, 1) := dL_law_774_k.2.2.2.2.2.2.2.1
theorem dL_law_783 : decode cL_law 783 = .ok (.invokevirtual 102, 3) := dL_law_774_k.2.2.2.2.2.2.2.2.1
theorem dL_law_786 : decode cL_law 786 = .ok (.pop, 1) := dL_law_774_k.2.2.2.2.2.2.2.2.2.1
theorem dL_law_787 : decode cL_law 787 = .ok (.aload_n 2, 1) := dL_law_774_k.2.2.2.2.2.2.2.2.2.2.1
theorem dL_law_788 : decode cL_law 788 = .ok (.aload_n 0, 1) := dL_law_774_k.2.2.2.2.2.2.2.2.2.2.2.1
theorem dL_law_789 : decode cL_law 789 = .ok (.iload 4, 2) := dL_law_774_k.2.2.2.2.2.2.2.2.2.2.2.2.1
theorem dL_law_791 : decode cL_law 791 = .ok (.iconst 1, 1) := dL_law_774_k.2.2.2.2.2.2.2.2.2.2.2.2.2.1
theorem dL_law_792 : decode cL_law 792 = .ok (.iadd, 1) := dL_law_774_k.2.2.2.2.2.2.2.2.2.2.2.2.2.2.1
theorem dL_law_793 : decode cL_law 793 = .ok (.iaload, 1) := dL_law_774_k.2.2.2.2.2.2.2.2.2.2.2.2.2.2.2
theorem dL_law_794_k : decode cL_law 794 = .ok (.aload_n 0, 1) ∧ decode cL_law 795 = .ok (.iload 4, 2) ∧ decode cL_law 797 = .ok (.iconst 2, 1) ∧ decode cL_law 798 = .ok (.iadd, 1) ∧ decode cL_law 799 = .ok (.iaload, 1) ∧ decode cL_law 800 = .ok (.invokevirtual 106, 3) ∧ decode cL_law 803 = .ok (.pop, 1) ∧ decode cL_law 804 = .ok (.goto 294, 3) ∧ decode cL_law 807 = .ok (.aload_n 1, 1) ∧ decode cL_law 808 = .ok (.aload_n 0, 1) ∧ decode cL_law 809 = .ok (.iload 4, 2) ∧ decode cL_law 811 = .ok (.iconst 1, 1) ∧ decode cL_law 812 = .ok (.iadd, 1) ∧ decode cL_law 813 = .ok (.iaload, 1) ∧ decode cL_law 814 = .ok (.aload_n 0, 1) ∧ decode cL_law 815 = .ok (.iload 4, 2) := by decide +kernel
theorem dL_law_794 : decode cL_law 794 = .ok (.aload_n 0, 1) := dL_law_794_k.1
theorem dL_law_795 : decode cL_law 795 = .ok (.iload 4, 2) := dL_law_794_k.2.1
theorem dL_law_797 : decode cL_law 797 = .ok (.iconst 2, 1) := dL_law_794_k.2.2.1
theorem dL_law_798 : decode cL_law 798 = .ok (.iadd, 1) := dL_law_794_k.2.2.2.1
theorem dL_law_799 : decode cL_law 799 = .ok (.iaload, 1) := dL_law_794_k.2.2.2.2.1
theorem dL_law_800 : decode cL_law 800 = .ok (.invokevirtual 106, 3) := dL_law_794_k.2.2.2.2.2.1
theorem dL_law_803 : decode cL_law 803 = .ok (.pop, 1) := dL_law_794_k.2.2.2.2.2.2.1
theorem dL_law_804 : decode cL_law 804 = .ok (.goto 294, 3) := dL_law_794_k.2.2.2.2.2.2.2.1
theorem dL_law_807 : decode cL_law 807 = .ok (.aload_n 1, 1) := dL_law_794_k.2.2.2.2.2.2.2.2.1
theorem dL_law_808 : decode cL_law 808 = .ok (.aload_n 0, 1) := dL_law_794_k.2.2.2.2.2.2.2.2.2.1
theorem dL_law_809 : decode cL_law 809 = .ok (.iload 4, 2) := dL_law_794_k.2.2.2.2.2.2.2.2.2.2.1
theorem dL_law_811 : decode cL_law 811 = .ok (.iconst 1, 1) := dL_law_794_k.2.2.2.2.2.2.2.2.2.2.2.1
theorem dL_law_812 : decode cL_law 812 = .ok (.iadd, 1) := dL_law_794_k.2.2.2.2.2.2.2.2.2.2.2.2.1
theorem dL_law_813 : decode cL_law 813 = .ok (.iaload, 1) := dL_law_794_k.2.2.2.2.2.2.2.2.2.2.2.2.2.1
theorem dL_law_814 : decode cL_law 814 = .ok (.aload_n 0, 1) := dL_law_794_k.2.2.2.2.2.2.2.2.2.2.2.2.2.2.1
theorem dL_law_815 : decode cL_law 815 = .ok (.iload 4, 2) := dL_law_794_k.2.2.2.2.2.2.2.2.2.2.2.2.2.2.2
theorem dL_law_817_k : decode cL_law 817 = .ok (.iconst 2, 1) ∧ decode cL_law 818 = .ok (.iadd, 1) ∧ decode cL_law 819 = .ok (.iaload, 1) ∧ decode cL_law 820 = .ok (.invokevirtual 107, 3) ∧ decode cL_law 823 = .ok (.pop, 1) ∧ decode cL_law 824 = .ok (.aload_n 2, 1) ∧ decode cL_law 825 = .ok (.aload_n 0, 1) ∧ decode cL_law 826 = .ok (.iload 4, 2) ∧ decode cL_law 828 = .ok (.iconst 1, 1) ∧ decode cL_law 829 = .ok (.iadd, 1) ∧ decode cL_law 830 = .ok (.iaload, 1) ∧ decode cL_law 831 = .ok (.aload_n 0, 1) ∧ decode cL_law 832 = .ok (.iload 4, 2) ∧ decode cL_law 834 = .ok (.iconst 2, 1) ∧ decode cL_law 835 = .ok (.iadd, 1) ∧ decode cL_law 836 = .ok (.iaload, 1) := by decide +kernel
theorem dL_law_817 : decode cL_law 817 = .ok (.iconst 2, 1) := dL_law_817_k.1
theorem dL_law_818 : decode cL_law 818 = .ok (.iadd, 1) := dL_law_817_k.2.1
theorem dL_law_819 : decode cL_law 819 = .ok (.iaload, 1) := dL_law_817_k.2.2.1
theorem dL_law_820 : decode cL_law 820 = .ok (.invokevirtual 107, 3) := dL_law_817_k.2.2.2.1
theorem dL_law_823 : decode cL_law 823 = .ok (.pop, 1) := dL_law_817_k.2.2.2.2.1
theorem dL_law_824 : decode cL_law 824 = .ok (.aload_n 2, 1) := dL_law_817_k.2.2.2.2.2.1
theorem dL_law_825 : decode cL_law 825 = .ok (.aload_n 0, 1) := dL_law_817_k.2.2.2.2.2.2.1
theorem dL_law_826 : decode cL_law 826 = .ok (.iload 4, 2) := dL_law_817_k.2.2.2.2.2.2.2.1
theorem dL_law_828 : decode cL_law 828 = .ok (.iconst 1, 1) := dL_law_817_k.2.2.2.2.2.2.2.2.1
theorem dL_law_829 : decode cL_law 829 = .ok (.iadd, 1) := dL_law_817_k.2.2.2.2.2.2.2.2.2.1
theorem dL_law_830 : decode cL_law 830 = .ok (.iaload, 1) := dL_law_817_k.2.2.2.2.2.2.2.2.2.2.1
theorem dL_law_831 : decode cL_law 831 = .ok (.aload_n 0, 1) := dL_law_817_k.2.2.2.2.2.2.2.2.2.2.2.1
theorem dL_law_832 : decode cL_law 832 = .ok (.iload 4, 2) := dL_law_817_k.2.2.2.2.2.2.2.2.2.2.2.2.1
theorem dL_law_834 : decode cL_law 834 = .ok (.iconst 2, 1) := dL_law_817_k.2.2.2.2.2.2.2.2.2.2.2.2.2.1
theorem dL_law_835 : decode cL_law 835 = .ok (.iadd, 1) := dL_law_817_k.2.2.2.2.2.2.2.2.2.2.2.2.2.2.1
theorem dL_law_836 : decode cL_law 836 = .ok (.iaload, 1) := dL_law_817_k.2.2.2.2.2.2.2.2.2.2.2.2.2.2.2
theorem dL_law_837_k : decode cL_law 837 = .ok (.invokevirtual 110, 3) ∧ decode cL_law 840 = .ok (.pop, 1) ∧ decode cL_law 841 = .ok (.goto 257, 3) ∧ decode cL_law 844 = .ok (.aload_n 1, 1) ∧ decode cL_law 845 = .ok (.aload_n 0, 1) ∧ decode cL_law 846 = .ok (.iload 4, 2) ∧ decode cL_law 848 = .ok (.iconst 1, 1) ∧ decode cL_law 849 = .ok (.iadd, 1) ∧ decode cL_law 850 = .ok (.iaload, 1) ∧ decode cL_law 851 = .ok (.invokevirtual 111, 3) ∧ decode cL_law 854 = .ok (.pop, 1) ∧ decode cL_law 855 = .ok (.aload_n 2, 1) ∧ decode cL_law 856 = .ok (.aload_n 0, 1) ∧ decode cL_law 857 = .ok (.iload 4, 2) ∧ decode cL_law 859 = .ok (.iconst 1, 1) ∧ decode cL_law 860 = .ok (.iadd, 1) := by decide +kernel
theorem dL_law_837 : decode cL_law 837 = .ok (.invokevirtual 110, 3) := dL_law_837_k.1
theorem dL_law_840 : decode cL_law 840 = .ok (.pop, 1) := dL_law_837_k.2.1
theorem dL_law_841 : decode cL_law 841 = .ok (.goto 257, 3) := dL_law_837_k.2.2.1
theorem dL_law_844 : decode cL_law 844 = .ok (.aload_n 1, 1) := dL_law_837_k.2.2.2.1
theorem dL_law_845 : decode cL_law 845 = .ok (.aload_n 0, 1) := dL_law_837_k.2.2.2.2.1
theorem dL_law_846 : decode cL_law 846 = .ok (.iload 4, 2) := dL_law_837_k.2.2.2.2.2.1
theorem dL_law_848 : decode cL_law 848 = .ok (.iconst 1, 1) := dL_law_837_k.2.2.2.2.2.2.1
theorem dL_law_849 : decode cL_law 849 = .ok (.iadd, 1) := dL_law_837_k.2.2.2.2.2.2.2.1
theorem dL_law_850 : decode cL_law 850 = .ok (.iaload, 1) := dL_law_837_k.2.2.2.2.2.2.2.2.1
theorem dL_law_851 : decode cL_law 851 = .ok (.invokevirtual 111, 3) := dL_law_837_k.2.2.2.2.2.2.2.2.2.1
theorem dL_law_854 : decode cL_law 854 = .ok (.pop, 1) := dL_law_837_k.2.2.2.2.2.2.2.2.2.2.1
theorem dL_law_855 : decode cL_law 855 = .ok (.aload_n 2, 1) := dL_law_837_k.2.2.2.2.2.2.2.2.2.2.2.1
theorem dL_law_856 : decode cL_law 856 = .ok (.aload_n 0, 1) := dL_law_837_k.2.2.2.2.2.2.2.2.2.2.2.2.1
theorem dL_law_857 : decode cL_law 857 = .ok (.iload 4, 2) := dL_law_837_k.2.2.2.2.2.2.2.2.2.2.2.2.2.1
theorem dL_law_859 : decode cL_law 859 = .ok (.iconst 1, 1) := dL_law_837_k.2.2.2.2.2.2.2.2.2.2.2.2.2.2.1
theorem dL_law_860 : decode cL_law 860 = .ok (.iadd, 1) := dL_law_837_k.2.2.2.2.2.2.2.2.2.2.2.2.2.2.2
theorem dL_law_861_k : decode cL_law 861 = .ok (.iaload, 1) ∧ decode cL_law 862 = .ok (.invokevirtual 114, 3) ∧ decode cL_law 865 = .ok (.pop, 1) ∧ decode cL_law 866 = .ok (.goto 232, 3) ∧ decode cL_law 869 = .ok (.aload_n 1, 1) ∧ decode cL_law 870 = .ok (.aload_n 0, 1) ∧ decode cL_law 871 = .ok (.iload 4, 2) ∧ decode cL_law 873 = .ok (.iconst 1, 1) ∧ decode cL_law 874 = .ok (.iadd, 1) ∧ decode cL_law 875 = .ok (.iaload, 1) ∧ decode cL_law 876 = .ok (.invokevirtual 115, 3) ∧ decode cL_law 879 = .ok (.pop, 1) ∧ decode cL_law 880 = .ok (.aload_n 2, 1) ∧ decode cL_law 881 = .ok (.aload_n 0, 1) ∧ decode cL_law 882 = .ok (.iload 4, 2) ∧ decode cL_law 884 = .ok (.iconst 1, 1) := by decide +kernel
theorem dL_law_861 : decode cL_law 861 = .ok (.iaload, 1) := dL_law_861_k.1
theorem dL_law_862 : decode cL_law 862 = .ok (.invokevirtual 114, 3) := dL_law_861_k.2.1
theorem dL_law_865 : decode cL_law 865 = .ok (.pop, 1) := dL_law_861_k.2.2.1
theorem dL_law_866 : decode cL_law 866 = .ok (.goto 232, 3) := dL_law_861_k.2.2.2.1
theorem dL_law_869 : decode cL_law 869 = .ok (.aload_n 1, 1) := dL_law_861_k.2.2.2.2.1
theorem dL_law_870 : decode cL_law 870 = .ok (.aload_n 0, 1) := dL_law_861_k.2.2.2.2.2.1
theorem dL_law_871 : decode cL_law 871 = .ok (.iload 4, 2) := dL_law_861_k.2.2.2.2.2.2.1
theorem dL_law_873 : decode cL_law 873 = .ok (.iconst 1, 1) := dL_law_861_k.2.2.2.2.2.2.2.1
theorem dL_law_874 : decode cL_law 874 = .ok (.iadd, 1) := dL_law_861_k.2.2.2.2.2.2.2.2.1
theorem dL_law_875 : decode cL_law 875 = .ok (.iaload, 1) := dL_law_861_k.2.2.2.2.2.2.2.2.2.1
theorem dL_law_876 : decode cL_law 876 = .ok (.invokevirtual 115, 3) := dL_law_861_k.2.2.2.2.2.2.2.2.2.2.1
theorem dL_law_879 : decode cL_law 879 = .ok (.pop, 1) := dL_law_861_k.2.2.2.2.2.2.2.2.2.2.2.1
theorem dL_law_880 : decode cL_law 880 = .ok (.aload_n 2, 1) := dL_law_861_k.2.2.2.2.2.2.2.2.2.2.2.2.1
theorem dL_law_881 : decode cL_law 881 = .ok (.aload_n 0, 1) := dL_law_861_k.2.2.2.2.2.2.2.2.2.2.2.2.2.1
theorem dL_law_882 : decode cL_law 882 = .ok (.iload 4, 2) := dL_law_861_k.2.2.2.2.2.2.2.2.2.2.2.2.2.2.1
theorem dL_law_884 : decode cL_law 884 = .ok (.iconst 1, 1) := dL_law_861_k.2.2.2.2.2.2.2.2.2.2.2.2.2.2.2
theorem dL_law_885_k : decode cL_law 885 = .ok (.iadd, 1) ∧ decode cL_law 886 = .ok (.iaload, 1) ∧ decode cL_law 887 = .ok (.invokevirtual 118, 3) ∧ decode cL_law 890 = .ok (.pop, 1) ∧ decode cL_law 891 = .ok (.goto 207, 3) ∧ decode cL_law 894 = .ok (.aload_n 1, 1) ∧ decode cL_law 895 = .ok (.aload_n 0, 1) ∧ decode cL_law 896 = .ok (.iload 4, 2) ∧ decode cL_law 898 = .ok (.iconst 1, 1) ∧ decode cL_law 899 = .ok (.iadd, 1) ∧ decode cL_law 900 = .ok (.iaload, 1) ∧ decode cL_law 901 = .ok (.aload_n 0, 1) ∧ decode cL_law 902 = .ok (.iload 4, 2) ∧ decode cL_law 904 = .ok (.iconst 2, 1) ∧ decode cL_law 905 = .ok (.iadd, 1) ∧ decode cL_law 906 = .ok (.iaload, 1) := by decide +kernel
theorem dL_law_885 : decode cL_law 885 = .ok (.iadd, 1) := dL_law_885_k.1
theorem dL_law_886 : decode cL_law 886 = .ok (.iaload, 1) := dL_law_885_k.2.1
theorem dL_law_887 : decode cL_law 887 = .ok (.invokevirtual 118, 3) := dL_law_885_k.2.2.1
theorem dL_law_890 : decode cL_law 890 = .ok (.pop, 1) := dL_law_885_k.2.2.2.1
theorem dL_law_891 : decode cL_law 891 = .ok (.goto 207, 3) := dL_law_885_k.2.2.2.2.1
theorem dL_law_894 : decode cL_law 894 = .ok (.aload_n 1, 1) := dL_law_885_k.2.2.2.2.2.1
theorem dL_law_895 : decode cL_law 895 = .ok (.aload_n 0, 1) := dL_law_885_k.2.2.2.2.2.2.1
theorem dL_law_896 : decode cL_law 896 = .ok (.iload 4, 2) := dL_law_885_k.2.2.2.2.2.2.2.1
theorem dL_law_898 : decode cL_law 898 = .ok (.iconst 1, 1) := dL_law_885_k.2.2.2.2.2.2.2.2.1
theorem dL_law_899 : decode cL_law 899 = .ok (.iadd, 1) := dL_law_885_k.2.2.2.2.2.2.2.2.2.1
theorem dL_law_900 : decode cL_law 900 = .ok (.iaload, 1) := dL_law_885_k.2.2.2.2.2.2.2.2.2.2.1
theorem dL_law_901 : decode cL_law 901 = .ok (.aload_n 0, 1) := dL_law_885_k.2.2.2.2.2.2.2.2.2.2.2.1
theorem dL_law_902 : decode cL_law 902 = .ok (.iload 4, 2) := dL_law_885_k.2.2.2.2.2.2.2.2.2.2.2.2.1
theorem dL_law_904 : decode cL_law 904 = .ok (.iconst 2, 1) := dL_law_885_k.2.2.2.2.2.2.2.2.2.2.2.2.2.1
theorem dL_law_905 : decode cL_law 905 = .ok (.iadd, 1) := dL_law_885_k.2.2.2.2.2.2.2.2.2.2.2.2.2.2.1
theorem dL_law_906 : decode cL_law 906 = .ok (.iaload, 1) := dL_law_885_k.2.2.2.2.2.2.2.2.2.2.2.2.2.2.2
theorem dL_law_907_k : decode cL_law 907 = .ok (.ifCond .eq 7, 3) ∧ decode cL_law 910 = .ok (.iconst 1, 1) ∧ decode cL_law 911 = .ok (.goto 4, 3) ∧ decode cL_law 914 = .ok (.iconst 0, 1) ∧ decode cL_law 915 = .ok (.invokevirtual 119, 3) ∧ decode cL_law 918 = .ok (.pop, 1) ∧ decode cL_law 919 = .ok (.aload_n 2, 1) ∧ decode cL_law 920 = .ok (.aload_n 0, 1) ∧ decode cL_law 921 = .ok (.iload 4, 2) ∧ decode cL_law 923 = .ok (.iconst 1, 1) ∧ decode cL_law 924 = .ok (.iadd, 1) ∧ decode cL_law 925 = .ok (.iaload, 1) ∧ decode cL_law 926 = .ok (.aload_n 0, 1) ∧ decode cL_law 927 = .ok (.iload 4, 2) ∧ decode cL_law 929 = .ok (.iconst 2, 1) ∧ decode cL_law 930 = .ok (.iadd, 1) := by decide +kernel
theorem dL_law_907 : decode cL_law 907 = .ok (.ifCond .eq 7, 3) := dL_law_907_k.1
theorem dL_law_910 : decode cL_law 910 = .ok (.iconst 1, 1) := dL_law_907_k.2.1
theorem dL_law_911 : decode cL_law 911 = .ok (.goto 4, 3) := dL_law_907_k.2.2.1
theorem dL_law_914 : decode cL_law 914 = .ok (.iconst 0, 1) := dL_law_907_k.2.2.2.1
theorem dL_law_915 : decode cL_law 915 = .ok (.invokevirtual 119, 3) := dL_law_907_k.2.2.2.2.1
theorem dL_law_918 : decode cL_law 918 = .ok (.pop, 1) := dL_law_907_k.2.2.2.2.2.1
theorem dL_law_919 : decode cL_law 919 = .ok (.aload_n 2, 1) := dL_law_907_k.2.2.2.2.2.2.1
theorem dL_law_920 : decode cL_law 920 = .ok (.aload_n 0, 1) := dL_law_907_k.2.2.2.2.2.2.2.1
theorem dL_law_921 : decode cL_law 921 = .ok (.iload 4, 2) := dL_law_907_k.2.2.2.2.2.2.2.2.1
theorem dL_law_923 : decode cL_law 923 = .ok (.iconst 1, 1) := dL_law_907_k.2.2.2.2.2.2.2.2.2.1
theorem dL_law_924 : decode cL_law 924 = .ok (.iadd, 1) := dL_law_907_k.2.2.2.2.2.2.2.2.2.2.1
theorem dL_law_925 : decode cL_law 925 = .ok (.iaload, 1) := dL_law_907_k.2.2.2.2.2.2.2.2.2.2.2.1
theorem dL_law_926 : decode cL_law 926 = .ok (.aload_n 0, 1) := dL_law_907_k.2.2.2.2.2.2.2.2.2.2.2.2.1
theorem dL_law_927 : decode cL_law 927 = .ok (.iload 4, 2) := dL_law_907_k.2.2.2.2.2.2.2.2.2.2.2.2.2.1
theorem dL_law_929 : decode cL_law 929 = .ok (.iconst 2, 1) := dL_law_907_k.2.2.2.2.2.2.2.2.2.2.2.2.2.2.1
theorem dL_law_930 : decode cL_law 930 = .ok (.iadd, 1) := dL_law_907_k.2.2.2.2.2.2.2.2.2.2.2.2.2.2.2
theorem dL_law_931_k : decode cL_law 931 = .ok (.iaload, 1) ∧ decode cL_law 932 = .ok (.ifCond .eq 7, 3) ∧ decode cL_law 935 = .ok (.iconst 1, 1) ∧ decode cL_law 936 = .ok (.goto 4, 3) ∧ decode cL_law 939 = .ok (.iconst 0, 1) ∧ decode cL_law 940 = .ok (.invokevirtual 123, 3) ∧ decode cL_law 943 = .ok (.pop, 1) ∧ decode cL_law 944 = .ok (.goto 154, 3) ∧ decode cL_law 947 = .ok (.aload_n 1, 1) ∧ decode cL_law 948 = .ok (.aload_n 0, 1) ∧ decode cL_law 949 = .ok (.iload 4, 2) ∧ decode cL_law 951 = .ok (.iconst 1, 1) ∧ decode cL_law 952 = .ok (.iadd, 1) ∧ decode cL_law 953 = .ok (.iaload, 1) ∧ decode cL_law 954 = .ok (.aload_n 0, 1) ∧ decode cL_law 955 = .ok (.iload 4, 2) := by decide +kernel
theorem dL_law_931 : decode cL_law 931 = .ok (.iaload, 1) := dL_law_931_k.1
theorem dL_law_932 : decode cL_law 932 = .ok (.ifCond .eq 7, 3) := dL_law_931_k.2.1
theorem dL_law_935 : decode cL_law 935 = .ok (.iconst 1, 1) := dL_law_931_k.2.2.1
theorem dL_law_936 : decode cL_law 936 = .ok (.goto 4, 3) := dL_law_931_k.2.2.2.1
theorem dL_law_939 : decode cL_law 939 = .ok (.iconst 0, 1) := dL_law_931_k.2.2.2.2.1
theorem dL_law_940 : decode cL_law 940 = .ok (.invokevirtual 123, 3) := dL_law_931_k.2.2.2.2.2.1
theorem dL_law_943 : decode cL_law 943 = .ok (.pop, 1) := dL_law_931_k.2.2.2.2.2.2.1
theorem dL_law_944 : decode cL_law 944 = .ok (.goto 154, 3) := dL_law_931_k.2.2.2.2.2.2.2.1
theorem dL_law_947 : decode cL_law 947 = .ok (.aload_n 1, 1) := dL_law_931_k.2.2.2.2.2.2.2.2.1
theorem dL_law_948 : decode cL_law 948 = .ok (.aload_n 0, 1) := dL_law_931_k.2.2.2.2.2.2.2.2.2.1
theorem dL_law_949 : decode cL_law 949 = .ok (.iload 4, 2) := dL_law_931_k.2.2.2.2.2.2.2.2.2.2.1
theorem dL_law_951 : decode cL_law 951 = .ok (.iconst 1, 1) := dL_law_931_k.2.2.2.2.2.2.2.2.2.2.2.1
theorem dL_law_952 : decode cL_law 952 = .ok (.iadd, 1) := dL_law_931_k.2.2.2.2.2.2.2.2.2.2.2.2.1
theorem dL_law_953 : decode cL_law 953 = .ok (.iaload, 1) := dL_law_931_k.2.2.2.2.2.2.2.2.2.2.2.2.2.1
theorem dL_law_954 : decode cL_law 954 = .ok (.aload_n 0, 1) := dL_law_931_k.2.2.2.2.2.2.2.2.2.2.2.2.2.2.1
theorem dL_law_955 : decode cL_law 955 = .ok (.iload 4, 2) := dL_law_931_k.2.2.2.2.2.2.2.2.2.2.2.2.2.2.2
theorem dL_law_957_k : decode cL_law 957 = .ok (.iconst 2, 1) ∧ decode cL_law 958 = .ok (.iadd, 1) ∧ decode cL_law 959 = .ok (.iaload, 1) ∧ decode cL_law 960 = .ok (.invokevirtual 124, 3) ∧ decode cL_law 963 = .ok (.pop, 1) ∧ decode cL_law 964 = .ok (.aload_n 2, 1) ∧ decode cL_law 965 = .ok (.aload_n 0, 1) ∧ decode cL_law 966 = .ok (.iload 4, 2) ∧ decode cL_law 968 = .ok (.iconst 1, 1) ∧ decode cL_law 969 = .ok (.iadd, 1) ∧ decode cL_law 970 = .ok (.iaload, 1) ∧ decode cL_law 971 = .ok (.aload_n 0, 1) ∧ decode cL_law 972 = .ok (.iload 4, 2) ∧ decode cL_law 974 = .ok (.iconst 2, 1) ∧ decode cL_law 975 = .ok (.iadd, 1) ∧ decode cL_law 976 = .ok (.iaload, 1) := by decide +kernel
theorem dL_law_957 : decode cL_law 957 = .ok (.iconst 2, 1) := dL_law_957_k.1
theorem dL_law_958 : decode cL_law 958 = .ok (.iadd, 1) := dL_law_957_k.2.1
theorem dL_law_959 : decode cL_law 959 = .ok (.iaload, 1) := dL_law_957_k.2.2.1
theorem dL_law_960 : decode cL_law 960 = .ok (.invokevirtual 124, 3) := dL_law_957_k.2.2.2.1
theorem dL_law_963 : decode cL_law 963 = .ok (.pop, 1) := dL_law_957_k.2.2.2.2.1
theorem dL_law_964 : decode cL_law 964 = .ok (.aload_n 2, 1) := dL_law_957_k.2.2.2.2.2.1
theorem dL_law_965 : decode cL_law 965 = .ok (.aload_n 0, 1) := dL_law_957_k.2.2.2.2.2.2.1
theorem dL_law_966 : decode cL_law 966 = .ok (.iload 4, 2) := dL_law_957_k.2.2.2.2.2.2.2.1
theorem dL_law_968 : decode cL_law 968 = .ok (.iconst 1, 1) := dL_law_957_k.2.2.2.2.2.2.2.2.1
theorem dL_law_969 : decode cL_law 969 = .ok (.iadd, 1) := dL_law_957_k.2.2.2.2.2.2.2.2.2.1
theorem dL_law_970 : decode cL_law 970 = .ok (.iaload, 1) := dL_law_957_k.2.2.2.2.2.2.2.2.2.2.1
theorem dL_law_971 : decode cL_law 971 = .ok (.aload_n 0, 1) := dL_law_957_k.2.2.2.2.2.2.2.2.2.2.2.1
theorem dL_law_972 : decode cL_law 972 = .ok (.iload 4, 2) := dL_law_957_k.2.2.2.2.2.2.2.2.2.2.2.2.1
theorem dL_law_974 : decode cL_law 974 = .ok (.iconst 2, 1) := dL_law_957_k.2.2.2.2.2.2.2.2.2.2.2.2.2.1
theorem dL_law_975 : decode cL_law 975 = .ok (.iadd, 1) := dL_law_957_k.2.2.2.2.2.2.2.2.2.2.2.2.2.2.1
theorem dL_law_976 : decode cL_law 976 = .ok (.iaload, 1) := dL_law_957_k.2.2.2.2.2.2.2.2.2.2.2.2.2.2.2
theorem dL_law_977_k : decode cL_law 977 = .ok (.invokevirtual 127, 3) ∧ decode cL_law 980 = .ok (.pop, 1) ∧ decode cL_law 981 = .ok (.goto 117, 3) ∧ decode cL_law 984 = .ok (.aload_n 1, 1) ∧ decode cL_law 985 = .ok (.invokevirtual 128, 3) ∧ decode cL_law 988 = .ok (.pop, 1) ∧ decode cL_law 989 = .ok (.aload_n 2, 1) ∧ decode cL_law 990 = .ok (.invokevirtual 131, 3) ∧ decode cL_law 993 = .ok (.pop, 1) ∧ decode cL_law 994 = .ok (.goto 104, 3) ∧ decode cL_law 997 = .ok (.aload_n 1, 1) ∧ decode cL_law 998 = .ok (.aload_n 0, 1) ∧ decode cL_law 999 = .ok (.iload 4, 2) ∧ decode cL_law 1001 = .ok (.iconst 1, 1) ∧ decode cL_law 1002 = .ok (.iadd, 1) ∧ decode cL_law 1003 = .ok (.iaload, 1) := by decide +kernel
theorem dL_law_977 : decode cL_law 977 = .ok (.invokevirtual 127, 3) := dL_law_977_k.1
theorem dL_law_980 : decode cL_law 980 = .ok (.pop, 1) := dL_law_977_k.2.1
theorem dL_law_981 : decode cL_law 981 = .ok (.goto 117, 3) := dL_law_977_k.2.2.1
theorem dL_law_984 : decode cL_law 984 = .ok (.aload_n 1, 1) := dL_law_977_k.2.2.2.1
theorem dL_law_985 : decode cL_law 985 = .ok (.invokevirtual 128, 3) := dL_law_977_k.2.2.2.2.1
theorem dL_law_988 : decode cL_law 988 = .ok (.pop, 1) := dL_law_977_k.2.2.2.2.2.1
theorem dL_law_989 : decode cL_law 989 = .ok (.aload_n 2, 1) := dL_law_977_k.2.2.2.2.2.2.1
theorem dL_law_990 : decode cL_law 990 = .ok (.invokevirtual 131, 3) := dL_law_977_k.2.2.2.2.2.2.2.1
theorem dL_law_993 : decode cL_law 993 = .ok (.pop, 1) := dL_law_977_k.2.2.2.2.2.2.2.2.1
theorem dL_law_994 : decode cL_law 994 = .ok (.goto 104, 3) := dL_law_977_k.2.2.2.2.2.2.2.2.2.1
theorem dL_law_997 : decode cL_law 997 = .ok (.aload_n 1, 1) := dL_law_977_k.2.2.2.2.2.2.2.2.2.2.1
theorem dL_law_998 : decode cL_law 998 = .ok (.aload_n 0, 1) := dL_law_977_k.2.2.2.2.2.2.2.2.2.2.2.1
theorem dL_law_999 : decode cL_law 999 = .ok (.iload 4, 2) := dL_law_977_k.2.2.2.2.2.2.2.2.2.2.2.2.1
theorem dL_law_1001 : decode cL_law 1001 = .ok (.iconst 1, 1) := dL_law_977_k.2.2.2.2.2.2.2.2.2.2.2.2.2.1
theorem dL_law_1002 : decode cL_law 1002 = .ok (.iadd, 1) := dL_law_977_k.2.2.2.2.2.2.2.2.2.2.2.2.2.2.1
theorem dL_law_1003 : decode cL_law 1003 = .ok (.iaload, 1) := dL_law_977_k.2.2.2.2.2.2.2.2.2.2.2.2.2.2.2
theorem dL_law_1004_k : decode cL_law 1004 = .ok (.invokevirtual 132, 3) ∧ decode cL_law 1007 = .ok (.pop, 1) ∧ decode cL_law 1008 = .ok (.aload_n 2, 1) ∧ decode cL_law 1009 = .ok (.aload_n 0, 1) ∧ decode cL_law 1010 = .ok (.iload 4, 2) ∧ decode cL_law 1012 = .ok (.iconst 1, 1) ∧ decode cL_law 1013 = .ok (.iadd, 1) ∧ decode cL_law 1014 = .ok (.iaload, 1) ∧ decode cL_law 1015 = .ok (.invokevirtual 135, 3) ∧ decode cL_law 1018 = .ok (.pop, 1) ∧ decode cL_law 1019 = .ok (.goto 79, 3) ∧ decode cL_law 1022 = .ok (.aload_n 1, 1) ∧ decode cL_law 1023 = .ok (.invokevirtual 136, 3) ∧ decode cL_law 1026 = .ok (.pop, 1) ∧ decode cL_law 1027 = .ok (.aload_n 2, 1) ∧ decode cL_law 1028 = .ok (.invokevirtual 139, 3) := by decide +kernel
theorem dL_law_1004 : decode cL_law 1004 = .ok (.invokevirtual 132, 3) := dL_law_1004_k.1
theorem dL_law_1007 : decode cL_law 1007 = .ok (.pop, 1) := dL_law_1004_k.2.1
theorem dL_law_1008 : decode cL_law 1008 = .ok (.aload_n 2, 1) := dL_law_1004_k.2.2.1
theorem dL_law_1009 : decode cL_law 1009 = .ok (.aload_n 0, 1) := dL_law_1004_k.2.2.2.1
theorem dL_law_1010 : decode cL_law 1010 = .ok (.iload 4, 2) := dL_law_1004_k.2.2.2.2.1
theorem dL_law_1012 : decode cL_law 1012 = .ok (.iconst 1, 1) := dL_law_1004_k.2.2.2.2.2.1
theorem dL_law_1013 : decode cL_law 1013 = .ok (.iadd, 1) := dL_law_1004_k.2.2.2.2.2.2.1
theorem dL_law_1014 : decode cL_law 1014 = .ok (.iaload, 1) := dL_law_1004_k.2.2.2.2.2.2.2.1
theorem dL_law_1015 : decode cL_law 1015 = .ok (.invokevirtual 135, 3) := dL_law_1004_k.2.2.2.2.2.2.2.2.1
theorem dL_law_1018 : decode cL_law 1018 = .ok (.pop, 1) := dL_law_1004_k.2.2.2.2.2.2.2.2.2.1
theorem dL_law_1019 : decode cL_law 1019 = .ok (.goto 79, 3) := dL_law_1004_k.2.2.2.2.2.2.2.2.2.2.1
theorem dL_law_1022 : decode cL_law 1022 = .ok (.aload_n 1, 1) := dL_law_1004_k.2.2.2.2.2.2.2.2.2.2.2.1
theorem dL_law_1023 : decode cL_law 1023 = .ok (.invokevirtual 136, 3) := dL_law_1004_k.2.2.2.2.2.2.2.2.2.2.2.2.1
theorem dL_law_1026 : decode cL_law 1026 = .ok (.pop, 1) := dL_law_1004_k.2.2.2.2.2.2.2.2.2.2.2.2.2.1
theorem dL_law_1027 : decode cL_law 1027 = .ok (.aload_n 2, 1) := dL_law_1004_k.2.2.2.2.2.2.2.2.2.2.2.2.2.2.1
theorem dL_law_1028 : decode cL_law 1028 = .ok (.invokevirtual 139, 3) := dL_law_1004_k.2.2.2.2.2.2.2.2.2.2.2.2.2.2.2
theorem dL_law_1031_k : decode cL_law 1031 = .ok (.pop, 1) ∧ decode cL_law 1032 = .ok (.goto 66, 3) ∧ decode cL_law 1035 = .ok (.aload_n 1, 1) ∧ decode cL_law 1036 = .ok (.invokevirtual 140, 3) ∧ decode cL_law 1039 = .ok (.pop, 1) ∧ decode cL_law 1040 = .ok (.aload_n 2, 1) ∧ decode cL_law 1041 = .ok (.invokevirtual 143, 3) ∧ decode cL_law 1044 = .ok (.pop, 1) ∧ decode cL_law 1045 = .ok (.goto 53, 3) ∧ decode cL_law 1048 = .ok (.aload_n 1, 1) ∧ decode cL_law 1049 = .ok (.aload_n 0, 1) ∧ decode cL_law 1050 = .ok (.iload 4, 2) ∧ decode cL_law 1052 = .ok (.iconst 1, 1) ∧ decode cL_law 1053 = .ok (.iadd, 1) ∧ decode cL_law 1054 = .ok (.iaload, 1) ∧ decode cL_law 1055 = .ok (.invokevirtual 144, 3) := by decide +kernel
theorem dL_law_1031 : decode cL_law 1031 = .ok (.pop, 1) := dL_law_1031_k.1
theorem dL_law_1032 : decode cL_law 1032 = .ok (.goto 66, 3) := dL_law_1031_k.2.1
theorem dL_law_1035 : decode cL_law 1035 = .ok (.aload_n 1, 1) := dL_law_1031_k.2.2.1
theorem dL_law_1036 : decode cL_law 1036 = .ok (.invokevirtual 140, 3) := dL_law_1031_k.2.2.2.1
theorem dL_law_1039 : decode cL_law 1039 = .ok (.pop, 1) := dL_law_1031_k.2.2.2.2.1
theorem dL_law_1040 : decode cL_law 1040 = .ok (.aload_n 2, 1) := dL_law_1031_k.2.2.2.2.2.1
theorem dL_law_1041 : decode cL_law 1041 = .ok (.invokevirtual 143, 3) := dL_law_1031_k.2.2.2.2.2.2.1
theorem dL_law_1044 : decode cL_law 1044 = .ok (.pop, 1) := dL_law_1031_k.2.2.2.2.2.2.2.1
theorem dL_law_1045 : decode cL_law 1045 = .ok (.goto 53, 3) := dL_law_1031_k.2.2.2.2.2.2.2.2.1
theorem dL_law_1048 : decode cL_law 1048 = .ok (.aload_n 1, 1) := dL_law_1031_k.2.2.2.2.2.2.2.2.2.1
theorem dL_law_1049 : decode cL_law 1049 = .ok (.aload_n 0, 1) := dL_law_1031_k.2.2.2.2.2.2.2.2.2.2.1
theorem dL_law_1050 : decode cL_law 1050 = .ok (.iload 4, 2) := dL_law_1031_k.2.2.2.2.2.2.2.2.2.2.2.1
theorem dL_law_1052 : decode cL_law 1052 = .ok (.iconst 1, 1) := dL_law_1031_k.2.2.2.2.2.2.2.2.2.2.2.2.1
theorem dL_law_1053 : decode cL_law 1053 = .ok (.iadd, 1) := dL_law_1031_k.2.2.2.2.2.2.2.2.2.2.2.2.2.1
theorem dL_law_1054 : decode cL_law 1054 = .ok (.iaload, 1) := dL_law_1031_k.2.2.2.2.2.2.2.2.2.2.2.2.2.2.1
theorem dL_law_1055 : decode cL_law 1055 = .ok (.invokevirtual 144, 3) := dL_law_1031_k.2.2.2.2.2.2.2.2.2.2.2.2.2.2.2
theorem dL_law_1058_k : decode cL_law 1058 = .ok (.pop, 1) ∧ decode cL_law 1059 = .ok (.aload_n 2, 1) ∧ decode cL_law 1060 = .ok (.aload_n 0, 1) ∧ decode cL_law 1061 = .ok (.iload 4, 2) ∧ decode cL_law 1063 = .ok (.iconst 1, 1) ∧ decode cL_law 1064 = .ok (.iadd, 1) ∧ decode cL_law 1065 = .ok (.iaload, 1) ∧ decode cL_law 1066 = .ok (.invokevirtual 148, 3) ∧ decode cL_law 1069 = .ok (.pop, 1) ∧ decode cL_law 1070 = .ok (.goto 28, 3) ∧ decode cL_law 1073 = .ok (.aload_n 1, 1) ∧ decode cL_law 1074 = .ok (.aload_n 0, 1) ∧ decode cL_law 1075 = .ok (.iload 4, 2) ∧ decode cL_law 1077 = .ok (.iconst 1, 1) ∧ decode cL_law 1078 = .ok (.iadd, 1) ∧ decode cL_law 1079 = .ok (.iaload, 1) := by decide +kernel
theorem dL_law_1058 : decode cL_law 1058 = .ok (.pop, 1) := dL_law_1058_k.1
theorem dL_law_1059 : decode cL_law 1059 = .ok (.aload_n 2, 1) := dL_law_1058_k.2.1
theorem dL_law_1060 : decode cL_law 1060 = .ok (.aload_n 0, 1) := dL_law_1058_k.2.2.1
theorem dL_law_1061 : decode cL_law 1061 = .ok (.iload 4, 2) := dL_law_1058_k.2.2.2.1
theorem dL_law_1063 : decode cL_law 1063 = .ok (.iconst 1, 1) := dL_law_1058_k.2.2.2.2.1
theorem dL_law_1064 : decode cL_law 1064 = .ok (.iadd, 1) := dL_law_1058_k.2.2.2.2.2.1
theorem dL_law_1065 : decode cL_law 1065 = .ok (.iaload, 1) := dL_law_1058_k.2.2.2.2.2.2.1
theorem dL_law_1066 : decode cL_law 1066 = .ok (.invokevirtual 148, 3) := dL_law_1058_k.2.2.2.2.2.2.2.1
theorem dL_law_1069 : decode cL_law 1069 = .ok (.pop, 1) := dL_law_1058_k.2.2.2.2.2.2.2.2.1
theorem dL_law_1070 : decode cL_law 1070 = .ok (.goto 28, 3) := dL_law_1058_k.2.2.2.2.2.2.2.2.2.1
theorem dL_law_1073 : decode cL_law 1073 = .ok (.aload_n 1, 1) := dL_law_1058_k.2.2.2.2.2.2.2.2.2.2.1
theorem dL_law_1074 : decode cL_law 1074 = .ok (.aload_n 0, 1) := dL_law_1058_k.2.2.2.2.2.2.2.2.2.2.2.1
theorem dL_law_1075 : decode cL_law 1075 = .ok (.iload 4, 2) := dL_law_1058_k.2.2.2.2.2.2.2.2.2.2.2.2.1
theorem dL_law_1077 : decode cL_law 1077 = .ok (.iconst 1, 1) := dL_law_1058_k.2.2.2.2.2.2.2.2.2.2.2.2.2.1
theorem dL_law_1078 : decode cL_law 1078 = .ok (.iadd, 1) := dL_law_1058_k.2.2.2.2.2.2.2.2.2.2.2.2.2.2.1
theorem dL_law_1079 : decode cL_law 1079 = .ok (.iaload, 1) := dL_law_1058_k.2.2.2.2.2.2.2.2.2.2.2.2.2.2.2
theorem dL_law_1080_k : decode cL_law 1080 = .ok (.invokevirtual 149, 3) ∧ decode cL_law 1083 = .ok (.pop, 1) ∧ decode cL_law 1084 = .ok (.aload_n 2, 1) ∧ decode cL_law 1085 = .ok (.aload_n 0, 1) ∧ decode cL_law 1086 = .ok (.iload 4, 2) ∧ decode cL_law 1088 = .ok (.iconst 1, 1) ∧ decode cL_law 1089 = .ok (.iadd, 1) ∧ decode cL_law 1090 = .ok (.iaload, 1) ∧ decode cL_law 1091 = .ok (.invokevirtual 152, 3) ∧ decode cL_law 1094 = .ok (.pop, 1) ∧ decode cL_law 1095 = .ok (.goto 3, 3) ∧ decode cL_law 1098 = .ok (.iinc 4 4, 3) ∧ decode cL_law 1101 = .ok (.goto (-1078), 3) ∧ decode cL_law 1104 = .ok (.iconst 1, 1) ∧ decode cL_law 1105 = .ok (.ireturn, 1) := by decide +kernel
theorem dL_law_1080 : decode cL_law 1080 = .ok (.invokevirtual 149, 3) := dL_law_1080_k.1
theorem dL_law_1083 : decode cL_law 1083 = .ok (.pop, 1) := dL_law_1080_k.2.1
theorem dL_law_1084 : decode cL_law 1084 = .ok (.aload_n 2, 1) := dL_law_1080_k.2.2.1
theorem dL_law_1085 : decode cL_law 1085 = .ok (.aload_n 0, 1) := dL_law_1080_k.2.2.2.1
theorem dL_law_1086 : decode cL_law 1086 = .ok (.iload 4, 2) := dL_law_1080_k.2.2.2.2.1
theorem dL_law_1088 : decode cL_law 1088 = .ok (.iconst 1, 1) := dL_law_1080_k.2.2.2.2.2.1
theorem dL_law_1089 : decode cL_law 1089 = .ok (.iadd, 1) := dL_law_1080_k.2.2.2.2.2.2.1
theorem dL_law_1090 : decode cL_law 1090 = .ok (.iaload, 1) := dL_law_1080_k.2.2.2.2.2.2.2.1
theorem dL_law_1091 : decode cL_law 1091 = .ok (.invokevirtual 152, 3) := dL_law_1080_k.2.2.2.2.2.2.2.2.1
theorem dL_law_1094 : decode cL_law 1094 = .ok (.pop, 1) := dL_law_1080_k.2.2.2.2.2.2.2.2.2.1
theorem dL_law_1095 : decode cL_law 1095 = .ok (.goto 3, 3) := dL_law_1080_k.2.2.2.2.2.2.2.2.2.2.1
theorem dL_law_1098 : decode cL_law 1098 = .ok (.iinc 4 4, 3) := dL_law_1080_k.2.2.2.2.2.2.2.2.2.2.2.1
theorem dL_law_1101 : decode cL_law 1101 = .ok (.goto (-1078), 3) := dL_law_1080_k.2.2.2.2.2.2.2.2.2.2.2.2.1
theorem dL_law_1104 : decode cL_law 1104 = .ok (.iconst 1, 1) := dL_law_1080_k.2.2.2.2.2.2.2.2.2.2.2.2.2.1
theorem dL_law_1105 : decode cL_law 1105 = .ok (.ireturn, 1) := dL_law_1080_k.2.2.2.2.2.2.2.2.2.2.2.2.2.2
