theorem dL_limit_0_k : decode cL_limit 0 = .ok (.aload_n 2, 1) ∧ decode cL_limit 1 = .ok (.iconst 0, 1) ∧ decode cL_limit 2 = .ok (.aload_n 0, 1) ∧ decode cL_limit 3 = .ok (.iload_n 1, 1) ∧ decode cL_limit 4 = .ok (.invokevirtual 7, 3) ∧ decode cL_limit 7 = .ok (.i2l, 1) ∧ decode cL_limit 8 = .ok (.lastore, 1) ∧ decode cL_limit 9 = .ok (.goto 6, 3) ∧ decode cL_limit 12 = .ok (.astore_n 3, 1) ∧ decode cL_limit 13 = .ok (.iconst 1, 1) ∧ decode cL_limit 14 = .ok (.ireturn, 1) ∧ decode cL_limit 15 = .ok (.iconst 0, 1) ∧ decode cL_limit 16 = .ok (.ireturn, 1) := by decide +kernel
theorem dL_limit_0 : decode cL_limit 0 = .ok (.aload_n 2, 1) := dL_limit_0_k.1
theorem dL_limit_1 : decode cL_limit 1 = .ok (.iconst 0, 1) := dL_limit_0_k.2.1
theorem dL_limit_2 : decode cL_limit 2 = .ok (.aload_n 0, 1) := dL_limit_0_k.2.2.1
theorem dL_limit_3 : decode cL_limit 3 = .ok (.iload_n 1, 1) := dL_limit_0_k.2.2.2.1
theorem dL_limit_4 : decode cL_limit 4 = .ok (.invokevirtual 7, 3) := dL_limit_0_k.2.2.2.2.1
theorem dL_limit_7 : decode cL_limit 7 = .ok (.i2l, 1) := dL_limit_0_k.2.2.2.2.2.1
theorem dL_limit_8 : decode cL_limit 8 = .ok (.lastore, 1) := dL_limit_0_k.2.2.2.2.2.2.1
theorem dL_limit_9 : decode cL_limit 9 = .ok (.goto 6, 3) := dL_limit_0_k.2.2.2.2.2.2.2.1
theorem dL_limit_12 : decode cL_limit 12 = .ok (.astore_n 3, 1) := dL_limit_0_k.2.2.2.2.2.2.2.2.1
theorem dL_limit_13 : decode cL_limit 13 = .ok (.iconst 1, 1) := dL_limit_0_k.2.2.2.2.2.2.2.2.2.1
theorem dL_limit_14 : decode cL_limit 14 = .ok (.ireturn, 1) := dL_limit_0_k.2.2.2.2.2.2.2.2.2.2.1
theorem dL_limit_15 : decode cL_limit 15 = .ok (.iconst 0, 1) := dL_limit_0_k.2.2.2.2.2.2.2.2.2.2.2.1
theorem dL_limit_16 : decode cL_limit 16 = .ok (.ireturn, 1) := dL_limit_0_k.2.2.2.2.2.2.2.2.2.2.2.2
theorem dL_law_0_k : decode cL_law 0 = .ok (.new 8, 3) ∧ decode cL_law 3 = .ok (.dup, 1) ∧ decode cL_law 4 = .ok (.invokespecial 15, 3) ∧ decode cL_law 7 = .ok (.astore_n 1, 1) ∧ decode cL_law 8 = .ok (.new 16, 3) ∧ decode cL_law 11 = .ok (.dup, 1) ∧ decode cL_law 12 = .ok (.invokespecial 18, 3) ∧ decode cL_law 15 = .ok (.astore_n 2, 1) ∧ decode cL_law 16 = .ok (.iconst 1, 1) ∧ decode cL_law 17 = .ok (.newarray .long, 2) ∧ decode cL_law 19 = .ok (.astore_n 3, 1) ∧ decode cL_law 20 = .ok (.iconst 0, 1) ∧ decode cL_law 21 = .ok (.istore 4, 2) ∧ decode cL_law 23 = .ok (.iload 4, 2) ∧ decode cL_law 25 = .ok (.aload_n 0, 1) ∧ decode cL_law 26 = .ok (.arraylength, 1) := by decide +kernel
theorem dL_law_0 : decode cL_law 0 = .ok (.new 8, 3) := dL_law_0_k.1
theorem dL_law_3 : decode cL_law 3 = .ok (.dup, 1) := dL_law_0_k.2.1
theorem dL_law_4 : decode cL_law 4 = .ok (.invokespecial 15, 3) := dL_law_0_k.2.2.1
theorem dL_law_7 : decode cL_law 7 = .ok (.astore_n 1, 1) := dL_law_0_k.2.2.2.1
theorem dL_law_8 : decode cL_law 8 = .ok (.new 16, 3) := dL_law_0_k.2.2.2.2.1
theorem dL_law_11 : decode cL_law 11 = .ok (.dup, 1) := dL_law_0_k.2.2.2.2.2.1
theorem dL_law_12 : decode cL_law 12 = .ok (.invokespecial 18, 3) := dL_law_0_k.2.2.2.2.2.2.1
theorem dL_law_15 : decode cL_law 15 = .ok (.astore_n 2, 1) := dL_law_0_k.2.2.2.2.2.2.2.1
theorem dL_law_16 : decode cL_law 16 = .ok (.iconst 1, 1) := dL_law_0_k.2.2.2.2.2.2.2.2.1
theorem dL_law_17 : decode cL_law 17 = .ok (.newarray .long, 2) := dL_law_0_k.2.2.2.2.2.2.2.2.2.1
theorem dL_law_19 : decode cL_law 19 = .ok (.astore_n 3, 1) := dL_law_0_k.2.2.2.2.2.2.2.2.2.2.1
theorem dL_law_20 : decode cL_law 20 = .ok (.iconst 0, 1) := dL_law_0_k.2.2.2.2.2.2.2.2.2.2.2.1
theorem dL_law_21 : decode cL_law 21 = .ok (.istore 4, 2) := dL_law_0_k.2.2.2.2.2.2.2.2.2.2.2.2.1
theorem dL_law_23 : decode cL_law 23 = .ok (.iload 4, 2) := dL_law_0_k.2.2.2.2.2.2.2.2.2.2.2.2.2.1
theorem dL_law_25 : decode cL_law 25 = .ok (.aload_n 0, 1) := dL_law_0_k.2.2.2.2.2.2.2.2.2.2.2.2.2.2.1
theorem dL_law_26 : decode cL_law 26 = .ok (.arraylength, 1) := dL_law_0_k.2.2.2.2.2.2.2.2.2.2.2.2.2.2.2
theorem dL_law_27_k : decode cL_law 27 = .ok (.iconst 4, 1) ∧ decode cL_law 28 = .ok (.isub, 1) ∧ decode cL_law 29 = .ok (.if_icmp .gt 1074, 3) ∧ decode cL_law 32 = .ok (.aload_n 0, 1) ∧ decode cL_law 33 = .ok (.iload 4, 2) ∧ decode cL_law 35 = .ok (.iaload, 1) ∧ decode cL_law 36 = .ok (.bipush 31, 2) ∧ decode cL_law 38 = .ok (.iand, 1) ∧ decode cL_law 39 = .ok (.tableswitch 1058 0 29 #[133, 190, 203, 244, 257, 270, 295, 332, 357, 382, 410, 463, 488, 513, 578, 643, 668, 693, 730, 767, 804, 829, 854, 907, 944, 957, 982, 995, 1008, 1033], 133) ∧ decode cL_law 172 = .ok (.aload_n 1, 1) ∧ decode cL_law 173 = .ok (.aload_n 0, 1) ∧ decode cL_law 174 = .ok (.iload 4, 2) ∧ decode cL_law 176 = .ok (.iconst 1, 1) ∧ decode cL_law 177 = .ok (.iadd, 1) ∧ decode cL_law 178 = .ok (.iaload, 1) ∧ decode cL_law 179 = .ok (.i2l, 1) := by decide +kernel
theorem dL_law_27 : decode cL_law 27 = .ok (.iconst 4, 1) := dL_law_27_k.1
theorem dL_law_28 : decode cL_law 28 = .ok (.isub, 1) := dL_law_27_k.2.1
theorem dL_law_29 : decode cL_law 29 = .ok (.if_icmp .gt 1074, 3) := dL_law_27_k.2.2.1
theorem dL_law_32 : decode cL_law 32 = .ok (.aload_n 0, 1) := dL_law_27_k.2.2.2.1
theorem dL_law_33 : decode cL_law 33 = .ok (.iload 4, 2) := dL_law_27_k.2.2.2.2.1
theorem dL_law_35 : decode cL_law 35 = .ok (.iaload, 1) := dL_law_27_k.2.2.2.2.2.1
theorem dL_law_36 : decode cL_law 36 = .ok (.bipush 31, 2) := dL_law_27_k.2.2.2.2.2.2.1
theorem dL_law_38 : decode cL_law 38 = .ok (.iand, 1) := dL_law_27_k.2.2.2.2.2.2.2.1
theorem dL_law_39 : decode cL_law 39 = .ok (.tableswitch 1058 0 29 #[133, 190, 203, 244, 257, 270, 295, 332, 357, 382, 410, 463, 488, 513, 578, 643, 668, 693, 730, 767, 804, 829, 854, 907, 944, 957, 982, 995, 1008, 1033], 133) := dL_law_27_k.2.2.2.2.2.2.2.2.1
theorem dL_law_172 : decode cL_law 172 = .ok (.aload_n 1, 1) := dL_law_27_k.2.2.2.2.2.2.2.2.2.1
theorem dL_law_173 : decode cL_law 173 = .ok (.aload_n 0, 1) := dL_law_27_k.2.2.2.2.2.2.2.2.2.2.1
theorem dL_law_174 : decode cL_law 174 = .ok (.iload 4, 2) := dL_law_27_k.2.2.2.2.2.2.2.2.2.2.2.1
theorem dL_law_176 : decode cL_law 176 = .ok (.iconst 1, 1) := dL_law_27_k.2.2.2.2.2.2.2.2.2.2.2.2.1
theorem dL_law_177 : decode cL_law 177 = .ok (.iadd, 1) := dL_law_27_k.2.2.2.2.2.2.2.2.2.2.2.2.2.1
theorem dL_law_178 : decode cL_law 178 = .ok (.iaload, 1) := dL_law_27_k.2.2.2.2.2.2.2.2.2.2.2.2.2.2.1
theorem dL_law_179 : decode cL_law 179 = .ok (.i2l, 1) := dL_law_27_k.2.2.2.2.2.2.2.2.2.2.2.2.2.2.2
theorem dL_law_180_k : decode cL_law 180 = .ok (.bipush 32, 2) ∧ decode cL_law 182 = .ok (.lshl, 1) ∧ decode cL_law 183 = .ok (.aload_n 0, 1) ∧ decode cL_law 184 = .ok (.iload 4, 2) ∧ decode cL_law 186 = .ok (.iconst 2, 1) ∧ decode cL_law 187 = .ok (.iadd, 1) ∧ decode cL_law 188 = .ok (.iaload, 1) ∧ decode cL_law 189 = .ok (.i2l, 1) ∧ decode cL_law 190 = .ok (.ldc2_w 19, 3) ∧ decode cL_law 193 = .ok (.land, 1) ∧ decode cL_law 194 = .ok (.lor, 1) ∧ decode cL_law 195 = .ok (.invokevirtual 21, 3) ∧ decode cL_law 198 = .ok (.pop, 1) ∧ decode cL_law 199 = .ok (.aload_n 2, 1) ∧ decode cL_law 200 = .ok (.aload_n 0, 1) ∧ decode cL_law 201 = .ok (.iload 4, 2) := by decide +kernel
theorem dL_law_180 : decode cL_law 180 = .ok (.bipush 32, 2) := dL_law_180_k.1
theorem dL_law_182 : decode cL_law 182 = .ok (.lshl, 1) := dL_law_180_k.2.1
theorem dL_law_183 : decode cL_law 183 = .ok (.aload_n 0, 1) := dL_law_180_k.2.2.1
theorem dL_law_184 : decode cL_law 184 = .ok (.iload 4, 2) := dL_law_180_k.2.2.2.1
theorem dL_law_186 : decode cL_law 186 = .ok (.iconst 2, 1) := dL_law_180_k.2.2.2.2.1
theorem dL_law_187 : decode cL_law 187 = .ok (.iadd, 1) := dL_law_180_k.2.2.2.2.2.1
theorem dL_law_188 : decode cL_law 188 = .ok (.iaload, 1) := dL_law_180_k.2.2.2.2.2.2.1
theorem dL_law_189 : decode cL_law 189 = .ok (.i2l, 1) := dL_law_180_k.2.2.2.2.2.2.2.1
theorem dL_law_190 : decode cL_law 190 = .ok (.ldc2_w 19, 3) := dL_law_180_k.2.2.2.2.2.2.2.2.1
theorem dL_law_193 : decode cL_law 193 = .ok (.land, 1) := dL_law_180_k.2.2.2.2.2.2.2.2.2.1
theorem dL_law_194 : decode cL_law 194 = .ok (.lor, 1) := dL_law_180_k.2.2.2.2.2.2.2.2.2.2.1
theorem dL_law_195 : decode cL_law 195 = .ok (.invokevirtual 21, 3) := dL_law_180_k.2.2.2.2.2.2.2.2.2.2.2.1
theorem dL_law_198 : decode cL_law 198 = .ok (.pop, 1) := dL_law_180_k.2.2.2.2.2.2.2.2.2.2.2.2.1
theorem dL_law_199 : decode cL_law 199 = .ok (.aload_n 2, 1) := dL_law_180_k.2.2.2.2.2.2.2.2.2.2.2.2.2.1
theorem dL_law_200 : decode cL_law 200 = .ok (.aload_n 0, 1) := dL_law_180_k.2.2.2.2.2.2.2.2.2.2.2.2.2.2.1
theorem dL_law_201 : decode cL_law 201 = .ok (.iload 4, 2) := dL_law_180_k.2.2.2.2.2.2.2.2.2.2.2.2.2.2.2
theorem dL_law_203_k : decode cL_law 203 = .ok (.iconst 1, 1) ∧ decode cL_law 204 = .ok (.iadd, 1) ∧ decode cL_law 205 = .ok (.iaload, 1) ∧ decode cL_law 206 = .ok (.i2l, 1) ∧ decode cL_law 207 = .ok (.bipush 32, 2) ∧ decode cL_law 209 = .ok (.lshl, 1) ∧ decode cL_law 210 = .ok (.aload_n 0, 1) ∧ decode cL_law 211 = .ok (.iload 4, 2) ∧ decode cL_law 213 = .ok (.iconst 2, 1) ∧ decode cL_law 214 = .ok (.iadd, 1) ∧ decode cL_law 215 = .ok (.iaload, 1) ∧ decode cL_law 216 = .ok (.i2l, 1) ∧ decode cL_law 217 = .ok (.ldc2_w 19, 3) ∧ decode cL_law 220 = .ok (.land, 1) ∧ decode cL_law 221 = .ok (.lor, 1) ∧ decode cL_law 222 = .ok (.invokevirtual 25, 3) := by decide +kernel
theorem dL_law_203 : decode cL_law 203 = .ok (.iconst 1, 1) := dL_law_203_k.1
theorem dL_law_204 : decode cL_law 204 = .ok (.iadd, 1) := dL_law_203_k.2.1
theorem dL_law_205 : decode cL_law 205 = .ok (.iaload, 1) := dL_law_203_k.2.2.1
theorem dL_law_206 : decode cL_law 206 = .ok (.i2l, 1) := dL_law_203_k.2.2.2.1
theorem dL_law_207 : decode cL_law 207 = .ok (.bipush 32, 2) := dL_law_203_k.2.2.2.2.1
theorem dL_law_209 : decode cL_law 209 = .ok (.lshl, 1) := dL_law_203_k.2.2.2.2.2.1
theorem dL_law_210 : decode cL_law 210 = .ok (.aload_n 0, 1) := dL_law_203_k.2.2.2.2.2.2.1
theorem dL_law_211 : decode cL_law 211 = .ok (.iload 4, 2) := dL_law_203_k.2.2.2.2.2.2.2.1
theorem dL_law_213 : decode cL_law 213 = .ok (.iconst 2, 1) := dL_law_203_k.2.2.2.2.2.2.2.2.1
theorem dL_law_214 : decode cL_law 214 = .ok (.iadd, 1) := dL_law_203_k.2.2.2.2.2.2.2.2.2.1
theorem dL_law_215 : decode cL_law 215 = .ok (.iaload, 1) := dL_law_203_k.2.2.2.2.2.2.2.2.2.2.1
theorem dL_law_216 : decode cL_law 216 = .ok (.i2l, 1) := dL_law_203_k.2.2.2.2.2.2.2.2.2.2.2.1
theorem dL_law_217 : decode cL_law 217 = .ok (.ldc2_w 19, 3) := dL_law_203_k.2.2.2.2.2.2.2.2.2.2.2.2.1
theorem dL_law_220 : decode cL_law 220 = .ok (.land, 1) := dL_law_203_k.2.2.2.2.2.2.2.2.2.2.2.2.2.1
theorem dL_law_221 : decode cL_law 221 = .ok (.lor, 1) := dL_law_203_k.2.2.2.2.2.2.2.2.2.2.2.2.2.2.1
theorem dL_law_222 : decode cL_law 222 = .ok (.invokevirtual 25, 3) := dL_law_203_k.2.2.2.2.2.2.2.2.2.2.2.2.2.2.2
theorem dL_law_225_k : decode cL_law 225 = .ok (.pop, 1) ∧ decode cL_law 226 = .ok (.goto 871, 3) ∧ decode cL_law 229 = .ok (.aload_n 1, 1) ∧ decode cL_law 230 = .ok (.invokevirtual 26, 3) ∧ decode cL_law 233 = .ok (.pop, 1) ∧ decode cL_law 234 = .ok (.aload_n 2, 1) ∧ decode cL_law 235 = .ok (.invokevirtual 30, 3) ∧ decode cL_law 238 = .ok (.pop, 1) ∧ decode cL_law 239 = .ok (.goto 858, 3) ∧ decode cL_law 242 = .ok (.aload_n 1, 1) ∧ decode cL_law 243 = .ok (.aload_n 0, 1) ∧ decode cL_law 244 = .ok (.iload 4, 2) ∧ decode cL_law 246 = .ok (.iconst 1, 1) ∧ decode cL_law 247 = .ok (.iadd, 1) ∧ decode cL_law 248 = .ok (.iaload, 1) ∧ decode cL_law 249 = .ok (.ifCond .eq 7, 3) := by decide +kernel
theorem dL_law_225 : decode cL_law 225 = .ok (.pop, 1) := dL_law_225_k.1
theorem dL_law_226 : decode cL_law 226 = .ok (.goto 871, 3) := dL_law_225_k.2.1
theorem dL_law_229 : decode cL_law 229 = .ok (.aload_n 1, 1) := dL_law_225_k.2.2.1
theorem dL_law_230 : decode cL_law 230 = .ok (.invokevirtual 26, 3) := dL_law_225_k.2.2.2.1
theorem dL_law_233 : decode cL_law 233 = .ok (.pop, 1) := dL_law_225_k.2.2.2.2.1
theorem dL_law_234 : decode cL_law 234 = .ok (.aload_n 2, 1) := dL_law_225_k.2.2.2.2.2.1
theorem dL_law_235 : decode cL_law 235 = .ok (.invokevirtual 30, 3) := dL_law_225_k.2.2.2.2.2.2.1
theorem dL_law_238 : decode cL_law 238 = .ok (.pop, 1) := dL_law_225_k.2.2.2.2.2.2.2.1
theorem dL_law_239 : decode cL_law 239 = .ok (.goto 858, 3) := dL_law_225_k.2.2.2.2.2.2.2.2.1
theorem dL_law_242 : decode cL_law 242 = .ok (.aload_n 1, 1) := dL_law_225_k.2.2.2.2.2.2.2.2.2.1
theorem dL_law_243 : decode cL_law 243 = .ok (.aload_n 0, 1) := dL_law_225_k.2.2.2.2.2.2.2.2.2.2.1
theorem dL_law_244 : decode cL_law 244 = .ok (.iload 4, 2) := dL_law_225_k.2.2.2.2.2.2.2.2.2.2.2.1
theorem dL_law_246 : decode cL_law 246 = .ok (.iconst 1, 1) := dL_law_225_k.2.2.2.2.2.2.2.2.2.2.2.2.1
theorem dL_law_247 : decode cL_law 247 = .ok (.iadd, 1) := dL_law_225_k.2.2.2.2.2.2.2.2.2.2.2.2.2.1
theorem dL_law_248 : decode cL_law 248 = .ok (.iaload, 1) := dL_law_225_k.2.2.2.2.2.2.2.2.2.2.2.2.2.2.1
theorem dL_law_249 : decode cL_law 249 = .ok (.ifCond .eq 7, 3) := dL_law_225_k.2.2.2.2.2.2.2.2.2.2.2.2.2.2.2
theorem dL_law_252_k : decode cL_law 252 = .ok (.iconst 1, 1) ∧ decode cL_law 253 = .ok (.goto 4, 3) ∧ decode cL_law 256 = .ok (.iconst 0, 1) ∧ decode cL_law 257 = .ok (.invokevirtual 31, 3) ∧ decode cL_law 260 = .ok (.pop, 1) ∧ decode cL_law 261 = .ok (.aload_n 2, 1) ∧ decode cL_law 262 = .ok (.aload_n 0, 1) ∧ decode cL_law 263 = .ok (.iload 4, 2) ∧ decode cL_law 265 = .ok (.iconst 1, 1) ∧ decode cL_law 266 = .ok (.iadd, 1) ∧ decode cL_law 267 = .ok (.iaload, 1) ∧ decode cL_law 268 = .ok (.ifCond .eq 7, 3) ∧ decode cL_law 271 = .ok (.iconst 1, 1) ∧ decode cL_law 272 = .ok (.goto 4, 3) ∧ decode cL_law 275 = .ok (.iconst 0, 1) ∧ decode cL_law 276 = .ok (.invokevirtual 35, 3) := by decide +kernel
theorem dL_law_252 : decode cL_law 252 = .ok (.iconst 1, 1) := dL_law_252_k.1
theorem dL_law_253 : decode cL_law 253 = .ok (.goto 4, 3) := dL_law_252_k.2.1
theorem dL_law_256 : decode cL_law 256 = .ok (.iconst 0, 1) := dL_law_252_k.2.2.1
theorem dL_law_257 : decode cL_law 257 = .ok (.invokevirtual 31, 3) := dL_law_252_k.2.2.2.1
theorem dL_law_260 : decode cL_law 260 = .ok (.pop, 1) := dL_law_252_k.2.2.2.2.1
theorem dL_law_261 : decode cL_law 261 = .ok (.aload_n 2, 1) := dL_law_252_k.2.2.2.2.2.1
theorem dL_law_262 : decode cL_law 262 = .ok (.aload_n 0, 1) := dL_law_252_k.2.2.2.2.2.2.1
theorem dL_law_263 : decode cL_law 263 = .ok (.iload 4, 2) := dL_law_252_k.2.2.2.2.2.2.2.1
theorem dL_law_265 : decode cL_law 265 = .ok (.iconst 1, 1) := dL_law_252_k.2.2.2.2.2.2.2.2.1
theorem dL_law_266 : decode cL_law 266 = .ok (.iadd, 1) := dL_law_252_k.2.2.2.2.2.2.2.2.2.1
theorem dL_law_267 : decode cL_law 267 = .ok (.iaload, 1) := dL_law_252_k.2.2.2.2.2.2.2.2.2.2.1
theorem dL_law_268 : decode cL_law 268 = .ok (.ifCond .eq 7, 3) := dL_law_252_k.2.2.2.2.2.2.2.2.2.2.2.1
theorem dL_law_271 : decode cL_law 271 = .ok (.iconst 1, 1) := dL_law_252_k.2.2.2.2.2.2.2.2.2.2.2.2.1
theorem dL_law_272 : decode cL_law 272 = .ok (.goto 4, 3) := dL_law_252_k.2.2.2.2.2.2.2.2.2.2.2.2.2.1
theorem dL_law_275 : decode cL_law 275 = .ok (.iconst 0, 1) := dL_law_252_k.2.2.2.2.2.2.2.2.2.2.2.2.2.2.1
theorem dL_law_276 : decode cL_law 276 = .ok (.invokevirtual 35, 3) := dL_law_252_k.2.2.2.2.2.2.2.2.2.2.2.2.2.2.2
theorem dL_law_279_k : decode cL_law 279 = .ok (.pop, 1) ∧ decode cL_law 280 = .ok (.goto 817, 3) ∧ decode cL_law 283 = .ok (.aload_n 1, 1) ∧ decode cL_law 284 = .ok (.invokevirtual 36, 3) ∧ decode cL_law 287 = .ok (.pop, 1) ∧ decode cL_law 288 = .ok (.aload_n 2, 1) ∧ decode cL_law 289 = .ok (.invokevirtual 39, 3) ∧ decode cL_law 292 = .ok (.pop, 1) ∧ decode cL_law 293 = .ok (.goto 804, 3) ∧ decode cL_law 296 = .ok (.aload_n 1, 1) ∧ decode cL_law 297 = .ok (.invokevirtual 40, 3) ∧ decode cL_law 300 = .ok (.pop, 1) ∧ decode cL_law 301 = .ok (.aload_n 2, 1) ∧ decode cL_law 302 = .ok (.invokevirtual 44, 3) ∧ decode cL_law 305 = .ok (.pop, 1) ∧ decode cL_law 306 = .ok (.goto 791, 3) := by decide +kernel
theorem dL_law_279 : decode cL_law 279 = .ok (.pop, 1) := dL_law_279_k.1
theorem dL_law_280 : decode cL_law 280 = .ok (.goto 817, 3) := dL_law_279_k.2.1
theorem dL_law_283 : decode cL_law 283 = .ok (.aload_n 1, 1) := dL_law_279_k.2.2.1
theorem dL_law_284 : decode cL_law 284 = .ok (.invokevirtual 36, 3) := dL_law_279_k.2.2.2.1
theorem dL_law_287 : decode cL_law 287 = .ok (.pop, 1) := dL_law_279_k.2.2.2.2.1
theorem dL_law_288 : decode cL_law 288 = .ok (.aload_n 2, 1) := dL_law_279_k.2.2.2.2.2.1
theorem dL_law_289 : decode cL_law 289 = .ok (.invokevirtual 39, 3) := dL_law_279_k.2.2.2.2.2.2.1
theorem dL_law_292 : decode cL_law 292 = .ok (.pop, 1) := dL_law_279_k.2.2.2.2.2.2.2.1
theorem dL_law_293 : decode cL_law 293 = .ok (.goto 804, 3) := dL_law_279_k.2.2.2.2.2.2.2.2.1
theorem dL_law_296 : decode cL_law 296 = .ok (.aload_n 1, 1) := dL_law_279_k.2.2.2.2.2.2.2.2.2.1
theorem dL_law_297 : decode cL_law 297 = .ok (.invokevirtual 40, 3) := dL_law_279_k.2.2.2.2.2.2.2.2.2.2.1
theorem dL_law_300 : decode cL_law 300 = .ok (.pop, 1) := dL_law_279_k.2.2.2.2.2.2.2.2.2.2.2.1
theorem dL_law_301 : decode cL_law 301 = .ok (.aload_n 2, 1) := dL_law_279_k.2.2.2.2.2.2.2.2.2.2.2.2.1
theorem dL_law_302 : decode cL_law 302 = .ok (.invokevirtual 44, 3) := dL_law_279_k.2.2.2.2.2.2.2.2.2.2.2.2.2.1
theorem dL_law_305 : decode cL_law 305 = .ok (.pop, 1) := dL_law_279_k.2.2.2.2.2.2.2.2.2.2.2.2.2.2.1
theorem dL_law_306 : decode cL_law 306 = .ok (.goto 791, 3) := dL_law_279_k.2.2.2.2.2.2.2.2.2.2.2.2.2.2.2
theorem dL_law_309_k : decode cL_law 309 = .ok (.aload_n 1, 1) ∧ decode cL_law 310 = .ok (.aload_n 0, 1) ∧ decode cL_law 311 = .ok (.iload 4, 2) ∧ decode cL_law 313 = .ok (.iconst 1, 1) ∧ decode cL_law 314 = .ok (.iadd, 1) ∧ decode cL_law 315 = .ok (.iaload, 1) ∧ decode cL_law 316 = .ok (.invokevirtual 45, 3) ∧ decode cL_law 319 = .ok (.pop, 1) ∧ decode cL_law 320 = .ok (.aload_n 2, 1) ∧ decode cL_law 321 = .ok (.aload_n 0, 1) ∧ decode cL_law 322 = .ok (.iload 4, 2) ∧ decode cL_law 324 = .ok (.iconst 1, 1) ∧ decode cL_law 325 = .ok (.iadd, 1) ∧ decode cL_law 326 = .ok (.iaload, 1) ∧ decode cL_law 327 = .ok (.invokevirtual 48, 3) ∧ decode cL_law 330 = .ok (.pop, 1) := by decide +kernel
theorem dL_law_309 : decode cL_law 309 = .ok (.aload_n 1, 1) := dL_law_309_k.1
theorem dL_law_310 : decode cL_law 310 = .ok (.aload_n 0, 1) := dL_law_309_k.2.1
theorem dL_law_311 : decode cL_law 311 = .ok (.iload 4, 2) := dL_law_309_k.2.2.1
theorem dL_law_313 : decode cL_law 313 = .ok (.iconst 1, 1) := dL_law_309_k.2.2.2.1
theorem dL_law_314 : decode cL_law 314 = .ok (.iadd, 1) := dL_law_309_k.2.2.2.2.1
theorem dL_law_315 : decode cL_law 315 = .ok (.iaload, 1) := dL_law_309_k.2.2.2.2.2.1
theorem dL_law_316 : decode cL_law 316 = .ok (.invokevirtual 45, 3) := dL_law_309_k.2.2.2.2.2.2.1
theorem dL_law_319 : decode cL_law 319 = .ok (.pop, 1) := dL_law_309_k.2.2.2.2.2.2.2.1
theorem dL_law_320 : decode cL_law 320 = .ok (.aload_n 2, 1) := dL_law_309_k.2.2.2.2.2.2.2.2.1
theorem dL_law_321 : decode cL_law 321 = .ok (.aload_n 0, 1) := dL_law_309_k.2.2.2.2.2.2.2.2.2.1
theorem dL_law_322 : decode cL_law 322 = .ok (.iload 4, 2) := dL_law_309_k.2.2.2.2.2.2.2.2.2.2.1
theorem dL_law_324 : decode cL_law 324 = .ok (.iconst 1, 1) := dL_law_309_k.2.2.2.2.2.2.2.2.2.2.2.1
theorem dL_law_325 : decode cL_law 325 = .ok (.iadd, 1) := dL_law_309_k.2.2.2.2.2.2.2.2.2.2.2.2.1
theorem dL_law_326 : decode cL_law 326 = .ok (.iaload, 1) := dL_law_309_k.2.2.2.2.2.2.2.2.2.2.2.2.2.1
theorem dL_law_327 : decode cL_law 327 = .ok (.invokevirtual 48, 3) := dL_law_309_k.2.2.2.2.2.2.2.2.2.2.2.2.2.2.1
theorem dL_law_330 : decode cL_law 330 = .ok (.pop, 1) := dL_law_309_k.2.2.2.2.2.2.2.2.2.2.2.2.2.2.2
theorem dL_law_331_k : decode cL_law 331 = .ok (.goto 766, 3) ∧ decode cL_law 334 = .ok (.aload_n 1, 1) ∧ decode cL_law 335 = .ok (.aload_n 0, 1) ∧ decode cL_law 336 = .ok (.iload 4, 2) ∧ decode cL_law 338 = .ok (.iconst 1, 1) ∧ decode cL_law 339 = .ok (.iadd, 1) ∧ decode cL_law 340 = .ok (.iaload, 1) ∧ decode cL_law 341 = .ok (.aload_n 0, 1) ∧ decode cL_law 342 = .ok (.iload 4, 2) ∧ decode cL_law 344 = .ok (.iconst 2, 1) ∧ decode cL_law 345 = .ok (.iadd, 1) ∧ decode cL_law 346 = .ok (.iaload, 1) ∧ decode cL_law 347 = .ok (.invokevirtual 49, 3) ∧ decode cL_law 350 = .ok (.pop, 1) ∧ decode cL_law 351 = .ok (.aload_n 2, 1) ∧ decode cL_law 352 = .ok (.aload_n 0, 1) := by decide +kernel
theorem dL_law_331 : decode cL_law 331 = .ok (.goto 766, 3) := dL_law_331_k.1
theorem dL_law_334 : decode cL_law 334 = .ok (.aload_n 1, 1) := dL_law_331_k.2.1
theorem dL_law_335 : decode cL_law 335 = .ok (.aload_n 0, 1) := dL_law_331_k.2.2.1
theorem dL_law_336 : decode cL_law 336 = .ok (.iload 4, 2) := dL_law_331_k.2.2.2.1
theorem dL_law_338 : decode cL_law 338 = .ok (.iconst 1, 1) := dL_law_331_k.2.2.2.2.1
theorem dL_law_339 : decode cL_law 339 = .ok (.iadd, 1) := dL_law_331_k.2.2.2.2.2.1
theorem dL_law_340 : decode cL_law 340 = .ok (.iaload, 1) := dL_law_331_k.2.2.2.2.2.2.1
theorem dL_law_341 : decode cL_law 341 = .ok (.aload_n 0, 1) := dL_law_331_k.2.2.2.2.2.2.2.1
theorem dL_law_342 : decode cL_law 342 = .ok (.iload 4, 2) := dL_law_331_k.2.2.2.2.2.2.2.2.1
theorem dL_law_344 : decode cL_law 344 = .ok (.iconst 2, 1) := dL_law_331_k.2.2.2.2.2.2.2.2.2.1
theorem dL_law_345 : decode cL_law 345 = .ok (.iadd, 1) := dL_law_331_k.2.2.2.2.2.2.2.2.2.2.1
theorem dL_law_346 : decode cL_law 346 = .ok (.iaload, 1) := dL_law_331_k.2.2.2.2.2.2.2.2.2.2.2.1
theorem dL_law_347 : decode cL_law 347 = .ok (.invokevirtual 49, 3) := dL_law_331_k.2.2.2.2.2.2.2.2.2.2.2.2.1
theorem dL_law_350 : decode cL_law 350 = .ok (.pop, 1) := dL_law_331_k.2.2.2.2.2.2.2.2.2.2.2.2.2.1
theorem dL_law_351 : decode cL_law 351 = .ok (.aload_n 2, 1) := dL_law_331_k.2.2.2.2.2.2.2.2.2.2.2.2.2.2.1
theorem dL_law_352 : decode cL_law 352 = .ok (.aload_n 0, 1) := dL_law_331_k.2.2.2.2.2.2.2.2.2.2.2.2.2.2.2
theorem dL_law_353_k : decode cL_law 353 = .ok (.iload 4, 2) ∧ decode cL_law 355 = .ok (.iconst 1, 1) ∧ decode cL_law 356 = .ok (.iadd, 1) ∧ decode cL_law 357 = .ok (.iaload, 1) ∧ decode cL_law 358 = .ok (.aload_n 0, 1) ∧ decode cL_law 359 = .ok (.iload 4, 2) ∧ decode cL_law 361 = .ok (.iconst 2, 1) ∧ decode cL_law 362 = .ok (.iadd, 1) ∧ decode cL_law 363 = .ok (.iaload, 1) ∧ decode cL_law 364 = .ok (.invokevirtual 53, 3) ∧ decode cL_law 367 = .ok (.pop, 1) ∧ decode cL_law 368 = .ok (.goto 729, 3) ∧ decode cL_law 371 = .ok (.aload_n 1, 1) ∧ decode cL_law 372 = .ok (.aload_n 0, 1) ∧ decode cL_law 373 = .ok (.iload 4, 2) ∧ decode cL_law 375 = .ok (.iconst 1, 1) := by decide +kernel
theorem dL_law_353 : decode cL_law 353 = .ok (.iload 4, 2) := dL_law_353_k.1
theorem dL_law_355 : decode cL_law 355 = .ok (.iconst 1, 1) := dL_law_353_k.2.1
theorem dL_law_356 : decode cL_law 356 = .ok (.iadd, 1) := dL_law_353_k.2.2.1
theorem dL_law_357 : decode cL_law 357 = .ok (.iaload, 1) := dL_law_353_k.2.2.2.1
theorem dL_law_358 : decode cL_law 358 = .ok (.aload_n 0, 1) := dL_law_353_k.2.2.2.2.1
theorem dL_law_359 : decode cL_law 359 = .ok (.iload 4, 2) := dL_law_353_k.2.2.2.2.2.1
theorem dL_law_361 : decode cL_law 361 = .ok (.iconst 2, 1) := dL_law_353_k.2.2.2.2.2.2.1
theorem dL_law_362 : decode cL_law 362 = .ok (.iadd, 1) := dL_law_353_k.2.2.2.2.2.2.2.1
theorem dL_law_363 : decode cL_law 363 = .ok (.iaload, 1) := dL_law_353_k.2.2.2.2.2.2.2.2.1
theorem dL_law_364 : decode cL_law 364 = .ok (.invokevirtual 53, 3) := dL_law_353_k.2.2.2.2.2.2.2.2.2.1
theorem dL_law_367 : decode cL_law 367 = .ok (.pop, 1) := dL_law_353_k.2.2.2.2.2.2.2.2.2.2.1
theorem dL_law_368 : decode cL_law 368 = .ok (.goto 729, 3) := dL_law_353_k.2.2.2.2.2.2.2.2.2.2.2.1
theorem dL_law_371 : decode cL_law 371 = .ok (.aload_n 1, 1) := dL_law_353_k.2.2.2.2.2.2.2.2.2.2.2.2.1
theorem dL_law_372 : decode cL_law 372 = .ok (.aload_n 0, 1) := dL_law_353_k.2.2.2.2.2.2.2.2.2.2.2.2.2.1
theorem dL_law_373 : decode cL_law 373 = .ok (.iload 4, 2) := dL_law_353_k.2.2.2.2.2.2.2.2.2.2.2.2.2.2.1
theorem dL_law_375 : decode cL_law 375 = .ok (.iconst 1, 1) := dL_law_353_k.2.2.2.2.2.2.2.2.2.2.2.2.2.2.2
theorem dL_law_376_k : decode cL_law 376 = .ok (.iadd, 1) ∧ decode cL_law 377 = .ok (.iaload, 1) ∧ decode cL_law 378 = .ok (.invokevirtual 54, 3) ∧ decode cL_law 381 = .ok (.pop, 1) ∧ decode cL_law 382 = .ok (.aload_n 2, 1) ∧ decode cL_law 383 = .ok (.aload_n 0, 1) ∧ decode cL_law 384 = .ok (.iload 4, 2) ∧ decode cL_law 386 = .ok (.iconst 1, 1) ∧ decode cL_law 387 = .ok (.iadd, 1) ∧ decode cL_law 388 = .ok (.iaload, 1) ∧ decode cL_law 389 = .ok (.invokevirtual 57, 3) ∧ decode cL_law 392 = .ok (.pop, 1) ∧ decode cL_law 393 = .ok (.goto 704, 3) ∧ decode cL_law 396 = .ok (.aload_n 1, 1) ∧ decode cL_law 397 = .ok (.aload_n 0, 1) ∧ decode cL_law 398 = .ok (.iload 4, 2) := by decide +kernel
theorem dL_law_376 : decode cL_law 376 = .ok (.iadd, 1) := dL_law_376_k.1
theorem dL_law_377 : decode cL_law 377 = .ok (.iaload, 1) := dL_law_376_k.2.1
theorem dL_law_378 : decode cL_law 378 = .ok (.invokevirtual 54, 3) := dL_law_376_k.2.2.1
theorem dL_law_381 : decode cL_law 381 = .ok (.pop, 1) := dL_law_376_k.2.2.2.1
theorem dL_law_382 : decode cL_law 382 = .ok (.aload_n 2, 1) := dL_law_376_k.2.2.2.2.1
theorem dL_law_383 : decode cL_law 383 = .ok (.aload_n 0, 1) := dL_law_376_k.2.2.2.2.2.1
theorem dL_law_384 : decode cL_law 384 = .ok (.iload 4, 2) := dL_law_376_k.2.2.2.2.2.2.1
theorem dL_law_386 : decode cL_law 386 = .ok (.iconst 1, 1) := dL_law_376_k.2.2.2.2.2.2.2.1
theorem dL_law_387 : decode cL_law 387 = .ok (.iadd, 1) := dL_law_376_k.2.2.2.2.2.2.2.2.1
theorem dL_law_388 : decode cL_law 388 = .ok (.iaload, 1) := dL_law_376_k.2.2.2.2.2.2.2.2.2.1
theorem dL_law_389 : decode cL_law 389 = .ok (.invokevirtual 57, 3) := dL_law_376_k.2.2.2.2.2.2.2.2.2.2.1
theorem dL_law_392 : decode cL_law 392 = .ok (.pop, 1) := dL_law_376_k.2.2.2.2.2.2.2.2.2.2.2.1
theorem dL_law_393 : decode cL_law 393 = .ok (.goto 704, 3) := dL_law_376_k.2.2.2.2.2.2.2.2.2.2.2.2.1
theorem dL_law_396 : decode cL_law 396 = .ok (.aload_n 1, 1) := dL_law_376_k.2.2.2.2.2.2.2.2.2.2.2.2.2.1
theorem dL_law_397 : decode cL_law 397 = .ok (.aload_n 0, 1) := dL_law_376_k.2.2.2.2.2.2.2.2.2.2.2.2.2.2.1
theorem dL_law_398 : decode cL_law 398 = .ok (.iload 4, 2) := dL_law_376_k.2.2.2.2.2.2.2.2.2.2.2.2.2.2.2
theorem dL_law_400_k : decode cL_law 400 = .ok (.iconst 1, 1) ∧ decode cL_law 401 = .ok (.iadd, 1) ∧ decode cL_law 402 = .ok (.iaload, 1) ∧ decode cL_law 403 = .ok (.invokevirtual 58, 3) ∧ decode cL_law 406 = .ok (.pop, 1) ∧ decode cL_law 407 = .ok (.aload_n 2, 1) ∧ decode cL_law 408 = .ok (.aload_n 0, 1) ∧ decode cL_law 409 = .ok (.iload 4, 2) ∧ decode cL_law 411 = .ok (.iconst 1, 1) ∧ decode cL_law 412 = .ok (.iadd, 1) ∧ decode cL_law 413 = .ok (.iaload, 1) ∧ decode cL_law 414 = .ok (.invokevirtual 61, 3) ∧ decode cL_law 417 = .ok (.pop, 1) ∧ decode cL_law 418 = .ok (.goto 679, 3) ∧ decode cL_law 421 = .ok (.aload_n 1, 1) ∧ decode cL_law 422 = .ok (.aload_n 0, 1) := by decide +kernel
theorem dL_law_400 : decode cL_law 400 = .ok (.iconst 1, 1) := dL_law_400_k.1
theorem dL_law_401 : decode cL_law 401 = .ok (.iadd, 1) := dL_law_400_k.2.1
theorem dL_law_402 : decode cL_law 402 = .ok (.iaload, 1) := dL_law_400_k.2.2.1
theorem dL_law_403 : decode cL_law 403 = .ok (.invokevirtual 58, 3) := dL_law_400_k.2.2.2.1
theorem dL_law_406 : decode cL_law 406 = .ok (.pop, 1) := dL_law_400_k.2.2.2.2.1
theorem dL_law_407 : decode cL_law 407 = .ok (.aload_n 2, 1) := dL_law_400_k.2.2.2.2.2.1
theorem dL_law_408 : decode cL_law 408 = .ok (.aload_n 0, 1) := dL_law_400_k.2.2.2.2.2.2.1
theorem dL_law_409 : decode cL_law 409 = .ok (.iload 4, 2) := dL_law_400_k.2.2.2.2.2.2.2.1
theorem dL_law_411 : decode cL_law 411 = .ok (.iconst 1, 1) := dL_law_400_k.2.2.2.2.2.2.2.2.1
theorem dL_law_412 : decode cL_law 412 = .ok (.iadd, 1) := dL_law_400_k.2.2.2.2.2.2.2.2.2.1
theorem dL_law_413 : decode cL_law 413 = .ok (.iaload, 1) := dL_law_400_k.2.2.2.2.2.2.2.2.2.2.1
theorem dL_law_414 : decode cL_law 414 = .ok (.invokevirtual 61, 3) := dL_law_400_k.2.2.2.2.2.2.2.2.2.2.2.1
theorem dL_law_417 : decode cL_law 417 = .ok (.pop, 1) := dL_law_400_k.2.2.2.2.2.2.2.2.2.2.2.2.1
theorem dL_law_418 : decode cL_law 418 = .ok (.goto 679, 3) := dL_law_400_k.2.2.2.2.2.2.2.2.2.2.2.2.2.1
theorem dL_law_421 : decode cL_law 421 = .ok (.aload_n 1, 1) := dL_law_400_k.2.2.2.2.2.2.2.2.2.2.2.2.2.2.1
theorem dL_law_422 : decode cL_law 422 = .ok (.aload_n 0, 1) := dL_law_400_k.2.2.2.2.2.2.2.2.2.2.2.2.2.2.2
theorem dL_law_423_k : decode cL_law 423 = .ok (.iload 4, 2) ∧ decode cL_law 425 = .ok (.iconst 1, 1) ∧ decode cL_law 426 = .ok (.iadd, 1) ∧ decode cL_law 427 = .ok (.iaload, 1) ∧ decode cL_law 428 = .ok (.aload_n 3, 1) ∧ decode cL_law 429 = .ok (.invokestatic 62, 3) ∧ decode cL_law 432 = .ok (.istore 5, 2) ∧ decode cL_law 434 = .ok (.aload_n 2, 1) ∧ decode cL_law 435 = .ok (.aload_n 0, 1) ∧ decode cL_law 436 = .ok (.iload 4, 2) ∧ decode cL_law 438 = .ok (.iconst 1, 1) ∧ decode cL_law 439 = .ok (.iadd, 1) ∧ decode cL_law 440 = .ok (.iaload, 1) ∧ decode cL_law 441 = .ok (.invokevirtual 67, 3) ∧ decode cL_law 444 = .ok (.istore 6, 2) ∧ decode cL_law 446 = .ok (.goto 651, 3) := by decide +kernel
theorem dL_law_423 : decode cL_law 423 = .ok (.iload 4, 2) := dL_law_423_k.1
theorem dL_law_425 : decode cL_law 425 = .ok (.iconst 1, 1) := dL_law_423_k.2.1
theorem dL_law_426 : decode cL_law 426 = .ok (.iadd, 1) := dL_law_423_k.2.2.1
theorem dL_law_427 : decode cL_law 427 = .ok (.iaload, 1) := dL_law_423_k.2.2.2.1
theorem dL_law_428 : decode cL_law 428 = .ok (.aload_n 3, 1) := dL_law_423_k.2.2.2.2.1
theorem dL_law_429 : decode cL_law 429 = .ok (.invokestatic 62, 3) := dL_law_423_k.2.2.2.2.2.1
theorem dL_law_432 : decode cL_law 432 = .ok (.istore 5, 2) := dL_law_423_k.2.2.2.2.2.2.1
theorem dL_law_434 : decode cL_law 434 = .ok (.aload_n 2, 1) := dL_law_423_k.2.2.2.2.2.2.2.1
theorem dL_law_435 : decode cL_law 435 = .ok (.aload_n 0, 1) := dL_law_423_k.2.2.2.2.2.2.2.2.1
theorem dL_law_436 : decode cL_law 436 = .ok (.iload 4, 2) := dL_law_423_k.2.2.2.2.2.2.2.2.2.1
theorem dL_law_438 : decode cL_law 438 = .ok (.iconst 1, 1) := dL_law_423_k.2.2.2.2.2.2.2.2.2.2.1
theorem dL_law_439 : decode cL_law 439 = .ok (.iadd, 1) := dL_law_423_k.2.2.2.2.2.2.2.2.2.2.2.1
theorem dL_law_440 : decode cL_law 440 = .ok (.iaload, 1) := dL_law_423_k.2.2.2.2.2.2.2.2.2.2.2.2.1
theorem dL_law_441 : decode cL_law 441 = .ok (.invokevirtual 67, 3) := dL_law_423_k.2.2.2.2.2.2.2.2.2.2.2.2.2.1
theorem dL_law_444 : decode cL_law 444 = .ok (.istore 6, 2) := dL_law_423_k.2.2.2.2.2.2.2.2.2.2.2.2.2.2.1
theorem dL_law_446 : decode cL_law 446 = .ok (.goto 651, 3) := dL_law_423_k.2.2.2.2.2.2.2.2.2.2.2.2.2.2.2
theorem dL_law_449_k : decode cL_law 449 = .ok (.aload_n 1, 1) ∧ decode cL_law 450 = .ok (.aload_n 0, 1) ∧ decode cL_law 451 = .ok (.iload 4, 2) ∧ decode cL_law 453 = .ok (.iconst 1, 1) ∧ decode cL_law 454 = .ok (.iadd, 1) ∧ decode cL_law 455 = .ok (.iaload, 1) ∧ decode cL_law 456 = .ok (.aload_n 0, 1) ∧ decode cL_law 457 = .ok (.iload 4, 2) ∧ decode cL_law 459 = .ok (.iconst 2, 1) ∧ decode cL_law 460 = .ok (.iadd, 1) ∧ decode cL_law 461 = .ok (.iaload, 1) ∧ decode cL_law 462 = .ok (.ifCond .eq 7, 3) ∧ decode cL_law 465 = .ok (.iconst 1, 1) ∧ decode cL_law 466 = .ok (.goto 4, 3) ∧ decode cL_law 469 = .ok (.iconst 0, 1) ∧ decode cL_law 470 = .ok (.invokevirtual 68, 3) := by decide +kernel
theorem dL_law_449 : decode cL_law 449 = .ok (.aload_n 1, 1) := dL_law_449_k.1
theorem dL_law_450 : decode cL_law 450 = .ok (.aload_n 0, 1) := dL_law_449_k.2.1
theorem dL_law_451 : decode cL_law 451 = .ok (.iload 4, 2) := dL_law_449_k.2.2.1
theorem dL_law_453 : decode cL_law 453 = .ok (.iconst 1, 1) := dL_law_449_k.2.2.2.1
theorem dL_law_454 : decode cL_law 454 = .ok (.iadd, 1) := dL_law_449_k.2.2.2.2.1
theorem dL_law_455 : decode cL_law 455 = .ok (.iaload, 1) := dL_law_449_k.2.2.2.2.2.1
theorem dL_law_456 : decode cL_law 456 = .ok (.aload_n 0, 1) := dL_law_449_k.2.2.2.2.2.2.1
theorem dL_law_457 : decode cL_law 457 = .ok (.iload 4, 2) := dL_law_449_k.2.2.2.2.2.2.2.1
theorem dL_law_459 : decode cL_law 459 = .ok (.iconst 2, 1) := dL_law_449_k.2.2.2.2.2.2.2.2.1
theorem dL_law_460 : decode cL_law 460 = .ok (.iadd, 1) := dL_law_449_k.2.2.2.2.2.2.2.2.2.1
theorem dL_law_461 : decode cL_law 461 = .ok (.iaload, 1) := dL_law_449_k.2.2.2.2.2.2.2.2.2.2.1
theorem dL_law_462 : decode cL_law 462 = .ok (.ifCond .eq 7, 3) := dL_law_449_k.2.2.2.2.2.2.2.2.2.2.2.1
theorem dL_law_465 : decode cL_law 465 = .ok (.iconst 1, 1) := dL_law_449_k.2.2.2.2.2.2.2.2.2.2.2.2.1
theorem dL_law_466 : decode cL_law 466 = .ok (.goto 4, 3) := dL_law_449_k.2.2.2.2.2.2.2.2.2.2.2.2.2.1
theorem dL_law_469 : decode cL_law 469 = .ok (.iconst 0, 1) := dL_law_449_k.2.2.2.2.2.2.2.2.2.2.2.2.2.2.1
theorem dL_law_470 : decode cL_law 470 = .ok (.invokevirtual 68, 3) := dL_law_449_k.2.2.2.2.2.2.2.2.2.2.2.2.2.2.2
theorem dL_law_473_k : decode cL_law 473 = .ok (.pop2, 1) ∧ decode cL_law 474 = .ok (.aload_n 2, 1) ∧ decode cL_law 475 = .ok (.aload_n 0, 1) ∧ decode cL_law 476 = .ok (.iload 4, 2) ∧ decode cL_law 478 = .ok (.iconst 1, 1) ∧ decode cL_law 479 = .ok (.iadd, 1) ∧ decode cL_law 480 = .ok (.iaload, 1) ∧ decode cL_law 481 = .ok (.aload_n 0, 1) ∧ decode cL_law 482 = .ok (.iload 4, 2) ∧ decode cL_law 484 = .ok (.iconst 2, 1) ∧ decode cL_law 485 = .ok (.iadd, 1) ∧ decode cL_law 486 = .ok (.iaload, 1) ∧ decode cL_law 487 = .ok (.ifCond .eq 7, 3) ∧ decode cL_law 490 = .ok (.iconst 1, 1) ∧ decode cL_law 491 = .ok (.goto 4, 3) ∧ decode cL_law 494 = .ok (.iconst 0, 1) := by decide +kernel
theorem dL_law_473 : decode cL_law 473 = .ok (.pop2, 1) := dL_law_473_k.1
theorem dL_law_474 : decode cL_law 474 = .ok (.aload_n 2, 1) := dL_law_473_k.2.1
theorem dL_law_475 : decode cL_law 475 = .ok (.aload_n 0, 1) := dL_law_473_k.2.2.1
theorem dL_law_476 : decode cL_law 476 = .ok (.iload 4, 2) := dL_law_473_k.2.2.2.1
theorem dL_law_478 : decode cL_law 478 = .ok (.iconst 1, 1) := dL_law_473_k.2.2.2.2.1
theorem dL_law_479 : decode cL_law 479 = .ok (.iadd, 1) := dL_law_473_k.2.2.2.2.2.1
theorem dL_law_480 : decode cL_law 480 = .ok (.iaload, 1) := dL_law_473_k.2.2.2.2.2.2.1
theorem dL_law_481 : decode cL_law 481 = .ok (.aload_n 0, 1) := dL_law_473_k.2.2.2.2.2.2.2.1
theorem dL_law_482 : decode cL_law 482 = .ok (.iload 4, 2) := dL_law_473_k.2.2.2.2.2.2.2.2.1
theorem dL_law_484 : decode cL_law 484 = .ok (.iconst 2, 1) := dL_law_473_k.2.2.2.2.2.2.2.2.2.1
theorem dL_law_485 : decode cL_law 485 = .ok (.iadd, 1) := dL_law_473_k.2.2.2.2.2.2.2.2.2.2.1
theorem dL_law_486 : decode cL_law 486 = .ok (.iaload, 1) := dL_law_473_k.2.2.2.2.2.2.2.2.2.2.2.1
theorem dL_law_487 : decode cL_law 487 = .ok (.ifCond .eq 7, 3) := dL_law_473_k.2.2.2.2.2.2.2.2.2.2.2.2.1
theorem dL_law_490 : decode cL_law 490 = .ok (.iconst 1, 1) := dL_law_473_k.2.2.2.2.2.2.2.2.2.2.2.2.2.1
theorem dL_law_491 : decode cL_law 491 = .ok (.goto 4, 3) := dL_law_473_k.2.2.2.2.2.2.2.2.2.2.2.2.2.2.1
theorem dL_law_494 : decode cL_law 494 = .ok (.iconst 0, 1) := dL_law_473_k.2.2.2.2.2.2.2.2.2.2.2.2.2.2.2
theorem dL_law_495_k : decode cL_law 495 = .ok (.invokevirtual 72, 3) ∧ decode cL_law 498 = .ok (.pop2, 1) ∧ decode cL_law 499 = .ok (.goto 598, 3) ∧ decode cL_law 502 = .ok (.aload_n 1, 1) ∧ decode cL_law 503 = .ok (.aload_n 0, 1) ∧ decode cL_law 504 = .ok (.iload 4, 2) ∧ decode cL_law 506 = .ok (.iconst 1, 1) ∧ decode cL_law 507 = .ok (.iadd, 1) ∧ decode cL_law 508 = .ok (.iaload, 1) ∧ decode cL_law 509 = .ok (.invokevirtual 73, 3) ∧ decode cL_law 512 = .ok (.pop, 1) ∧ decode cL_law 513 = .ok (.aload_n 2, 1) ∧ decode cL_law 514 = .ok (.aload_n 0, 1) ∧ decode cL_law 515 = .ok (.iload 4, 2) ∧ decode cL_law 517 = .ok (.iconst 1, 1) ∧ decode cL_law 518 = .ok (.iadd, 1) := by decide +kernel
theorem dL_law_495 : decode cL_law 495 = .ok (.invokevirtual 72, 3) := dL_law_495_k.1
theorem dL_law_498 : decode cL_law 498 = .ok (.pop2, 1) := dL_law_495_k.2.1
theorem dL_law_499 : decode cL_law 499 = .ok (.goto 598, 3) := dL_law_495_k.2.2.1
theorem dL_law_502 : decode cL_law 502 = .ok (.aload_n 1, 1) := dL_law_495_k.2.2.2.1
theorem dL_law_503 : decode cL_law 503 = .ok (.aload_n 0, 1) := dL_law_495_k.2.2.2.2.1
theorem dL_law_504 : decode cL_law 504 = .ok (.iload 4, 2) := dL_law_495_k.2.2.2.2.2.1
theorem dL_law_506 : decode cL_law 506 = .ok (.iconst 1, 1) := dL_law_495_k.2.2.2.2.2.2.1
theorem dL_law_507 : decode cL_law 507 = .ok (.iadd, 1) := dL_law_495_k.2.2.2.2.2.2.2.1
theorem dL_law_508 : decode cL_law 508 = .ok (.iaload, 1) := dL_law_495_k.2.2.2.2.2.2.2.2.1
theorem dL_law_509 : decode cL_law 509 = .ok (.invokevirtual 73, 3) := dL_law_495_k.2.2.2.2.2.2.2.2.2.1
theorem dL_law_512 : decode cL_law 512 = .ok (.pop, 1) := dL_law_495_k.2.2.2.2.2.2.2.2.2.2.1
theorem dL_law_513 : decode cL_law 513 = .ok (.aload_n 2, 1) := dL_law_495_k.2.2.2.2.2.2.2.2.2.2.2.1
theorem dL_law_514 : decode cL_law 514 = .ok (.aload_n 0, 1) := dL_law_495_k.2.2.2.2.2.2.2.2.2.2.2.2.1
theorem dL_law_515 : decode cL_law 515 = .ok (.iload 4, 2) := dL_law_495_k.2.2.2.2.2.2.2.2.2.2.2.2.2.1
theorem dL_law_517 : decode cL_law 517 = .ok (.iconst 1, 1) := dL_law_495_k.2.2.2.2.2.2.2.2.2.2.2.2.2.2.1
theorem dL_law_518 : decode cL_law 518 = .ok (.iadd, 1) := dL_law_495_k.2.2.2.2.2.2.2.2.2.2.2.2.2.2.2
theorem dL_law_519_k : decode cL_law 519 = .ok (.iaload, 1) ∧ decode cL_law 520 = .ok (.invokevirtual 76, 3) ∧ decode cL_law 523 = .ok (.pop, 1) ∧ decode cL_law 524 = .ok (.goto 573, 3) ∧ decode cL_law 527 = .ok (.aload_n 1, 1) ∧ decode cL_law 528 = .ok (.aload_n 0, 1) ∧ decode cL_law 529 = .ok (.iload 4, 2) ∧ decode cL_law 531 = .ok (.iconst 1, 1) ∧ decode cL_law 532 = .ok (.iadd, 1) ∧ decode cL_law 533 = .ok (.iaload, 1) ∧ decode cL_law 534 = .ok (.invokevirtual 77, 3) ∧ decode cL_law 537 = .ok (.pop, 1) ∧ decode cL_law 538 = .ok (.aload_n 2, 1) ∧ decode cL_law 539 = .ok (.aload_n 0, 1) ∧ decode cL_law 540 = .ok (.iload 4, 2) ∧ decode cL_law 542 = .ok (.iconst 1, 1) := by decide +kernel
theorem dL_law_519 : decode cL_law 519 = .ok (.iaload, 1) := dL_law_519_k.1
theorem dL_law_520 : decode cL_law 520 = .ok (.invokevirtual 76, 3) := dL_law_519_k.2.1
theorem dL_law_523 : decode cL_law 523 = .ok (.pop, 1) := dL_law_519_k.2.2.1
theorem dL_law_524 : decode cL_law 524 = .ok (.goto 573, 3) := dL_law_519_k.2.2.2.1
theorem dL_law_527 : decode cL_law 527 = .ok (.aload_n 1, 1) := dL_law_519_k.2.2.2.2.1
theorem dL_law_528 : decode cL_law 528 = .ok (.aload_n 0, 1) := dL_law_519_k.2.2.2.2.2.1
theorem dL_law_529 : decode cL_law 529 = .ok (.iload 4, 2) := dL_law_519_k.2.2.2.2.2.2.1
theorem dL_law_531 : decode cL_law 531 = .ok (.iconst 1, 1) := dL_law_519_k.2.2.2.2.2.2.2.1
theorem dL_law_532 : decode cL_law 532 = .ok (.iadd, 1) := dL_law_519_k.2.2.2.2.2.2.2.2.1
theorem dL_law_533 : decode cL_law 533 = .ok (.iaload, 1) := dL_law_519_k.2.2.2.2.2.2.2.2.2.1
theorem dL_law_534 : decode cL_law 534 = .ok (.invokevirtual 77, 3) := dL_law_519_k.2.2.2.2.2.2.2.2.2.2.1
theorem dL_law_537 : decode cL_law 537 = .ok (.pop, 1) := dL_law_519_k.2.2.2.2.2.2.2.2.2.2.2.1
theorem dL_law_538 : decode cL_law 538 = .ok (.aload_n 2, 1) := dL_law_519_k.2.2.2.2.2.2.2.2.2.2.2.2.1
theorem dL_law_539 : decode cL_law 539 = .ok (.aload_n 0, 1) := dL_law_519_k.2.2.2.2.2.2.2.2.2.2.2.2.2.1
theorem dL_law_540 : decode cL_law 540 = .ok (.iload 4, 2) := dL_law_519_k.2.2.2.2.2.2.2.2.2.2.2.2.2.2.1
theorem dL_law_542 : decode cL_law 542 = .ok (.iconst 1, 1) := dL_law_519_k.2.2.2.2.2.2.2.2.2.2.2.2.2.2.2
theorem dL_law_543_k : decode cL_law 543 = .ok (.iadd, 1) ∧ decode cL_law 544 = .ok (.iaload, 1) ∧ decode cL_law 545 = .ok (.invokevirtual 80, 3) ∧ decode cL_law 548 = .ok (.pop, 1) ∧ decode cL_law 549 = .ok (.goto 548, 3) ∧ decode cL_law 552 = .ok (.aload_n 1, 1) ∧ decode cL_law 553 = .ok (.aload_n 0, 1) ∧ decode cL_law 554 = .ok (.iload 4, 2) ∧ decode cL_law 556 = .ok (.iconst 1, 1) ∧ decode cL_law 557 = .ok (.iadd, 1) ∧ decode cL_law 558 = .ok (.iaload, 1) ∧ decode cL_law 559 = .ok (.aload_n 0, 1) ∧ decode cL_law 560 = .ok (.iload 4, 2) ∧ decode cL_law 562 = .ok (.iconst 2, 1) ∧ decode cL_law 563 = .ok (.iadd, 1) ∧ decode cL_law 564 = .ok (.iaload, 1) := by decide +kernel
theorem dL_law_543 : decode cL_law 543 = .ok (.iadd, 1) := dL_law_543_k.1
theorem dL_law_544 : decode cL_law 544 = .ok (.iaload, 1) := dL_law_543_k.2.1
theorem dL_law_545 : decode cL_law 545 = .ok (.invokevirtual 80, 3) := dL_law_543_k.2.2.1
theorem dL_law_548 : decode cL_law 548 = .ok (.pop, 1) := dL_law_543_k.2.2.2.1
theorem dL_law_549 : decode cL_law 549 = .ok (.goto 548, 3) := dL_law_543_k.2.2.2.2.1
theorem dL_law_552 : decode cL_law 552 = .ok (.aload_n 1, 1) := dL_law_543_k.2.2.2.2.2.1
theorem dL_law_553 : decode cL_law 553 = .ok (.aload_n 0, 1) := dL_law_543_k.2.2.2.2.2.2.1
theorem dL_law_554 : decode cL_law 554 = .ok (.iload 4, 2) := dL_law_543_k.2.2.2.2.2.2.2.1
theorem dL_law_556 : decode cL_law 556 = .ok (.iconst 1, 1) := dL_law_543_k.2.2.2.2.2.2.2.2.1
theorem dL_law_557 : decode cL_law 557 = .ok (.iadd, 1) := dL_law_543_k.2.2.2.2.2.2.2.2.2.1
theorem dL_law_558 : decode cL_law 558 = .ok (.iaload, 1) := dL_law_543_k.2.2.2.2.2.2.2.2.2.2.1
theorem dL_law_559 : decode cL_law 559 = .ok (.aload_n 0, 1) := dL_law_543_k.2.2.2.2.2.2.2.2.2.2.2.1
theorem dL_law_560 : decode cL_law 560 = .ok (.iload 4, 2) := dL_law_543_k.2.2.2.2.2.2.2.2.2.2.2.2.1
theorem dL_law_562 : decode cL_law 562 = .ok (.iconst 2, 1) := dL_law_543_k.2.2.2.2.2.2.2.2.2.2.2.2.2.1
theorem dL_law_563 : decode cL_law 563 = .ok (.iadd, 1) := dL_law_543_k.2.2.2.2.2.2.2.2.2.2.2.2.2.2.1
theorem dL_law_564 : decode cL_law 564 = .ok (.iaload, 1) := dL_law_543_k.2.2.2.2.2.2.2.2.2.2.2.2.2.2.2
theorem dL_law_565_k : decode cL_law 565 = .ok (.aload_n 0, 1) ∧ decode cL_law 566 = .ok (.iload 4, 2) ∧ decode cL_law 568 = .ok (.iconst 3, 1) ∧ decode cL_law 569 = .ok (.iadd, 1) ∧ decode cL_law 570 = .ok (.iaload, 1) ∧ decode cL_law 571 = .ok (.ifCond .eq 7, 3) ∧ decode cL_law 574 = .ok (.iconst 1, 1) ∧ decode cL_law 575 = .ok (.goto 4, 3) ∧ decode cL_law 578 = .ok (.iconst 0, 1) ∧ decode cL_law 579 = .ok (.invokevirtual 81, 3) ∧ decode cL_law 582 = .ok (.pop, 1) ∧ decode cL_law 583 = .ok (.aload_n 2, 1) ∧ decode cL_law 584 = .ok (.aload_n 0, 1) ∧ decode cL_law 585 = .ok (.iload 4, 2) ∧ decode cL_law 587 = .ok (.iconst 1, 1) ∧ decode cL_law 588 = .ok (.iadd, 1) := by decide +kernel
theorem dL_law_565 : decode cL_law 565 = .ok (.aload_n 0, 1) := dL_law_565_k.1
theorem dL_law_566 : decode cL_law 566 = .ok (.iload 4, 2) := dL_law_565_k.2.1
theorem dL_law_568 : decode cL_law 568 = .ok (.iconst 3, 1) := dL_law_565_k.2.2.1
theorem dL_law_569 : decode cL_law 569 = .ok (.iadd, 1) := dL_law_565_k.2.2.2.1
theorem dL_law_570 : decode cL_law 570 = .ok (.iaload, 1) := dL_law_565_k.2.2.2.2.1
theorem dL_law_571 : decode cL_law 571 = .ok (.ifCond .eq 7, 3) := dL_law_565_k.2.2.2.2.2.1
theorem dL_law_574 : decode cL_law 574 = .ok (.iconst 1, 1) := dL_law_565_k.2.2.2.2.2.2.1
theorem dL_law_575 : decode cL_law 575 = .ok (.goto 4, 3) := dL_law_565_k.2.2.2.2.2.2.2.1
theorem dL_law_578 : decode cL_law 578 = .ok (.iconst 0, 1) := dL_law_565_k.2.2.2.2.2.2.2.2.1
theorem dL_law_579 : decode cL_law 579 = .ok (.invokevirtual 81, 3) := dL_law_565_k.2.2.2.2.2.2.2.2.2.1
theorem dL_law_582 : decode cL_law 582 = .ok (.pop, 1) := dL_law_565_k.2.2.2.2.2.2.2.2.2.2.1
theorem dL_law_583 : decode cL_law 583 = .ok (.aload_n 2, 1) := dL_law_565_k.2.2.2.2.2.2.2.2.2.2.2.1
theorem dL_law_584 : decode cL_law 584 = .ok (.aload_n 0, 1) := dL_law_565_k.2.2.2.2.2.2.2.2.2.2.2.2.1
theorem dL_law_585 : decode cL_law 585 = .ok (.iload 4, 2) := dL_law_565_k.2.2.2.2.2.2.2.2.2.2.2.2.2.1
theorem dL_law_587 : decode cL_law 587 = .ok (.iconst 1, 1) := dL_law_565_k.2.2.2.2.2.2.2.2.2.2.2.2.2.2.1
theorem dL_law_588 : decode cL_law 588 = .ok (.iadd, 1) := dL_law_565_k.2.2.2.2.2.2.2.2.2.2.2.2.2.2.2
theorem dL_law_589_k : decode cL_law 589 = .ok (.iaload, 1) ∧ decode cL_law 590 = .ok (.aload_n 0, 1) ∧ decode cL_law 591 = .ok (.iload 4, 2) ∧ decode cL_law 593 = .ok (.iconst 2, 1) ∧ decode cL_law 594 = .ok (.iadd, 1) ∧ decode cL_law 595 = .ok (.iaload, 1) ∧ decode cL_law 596 = .ok (.aload_n 0, 1) ∧ decode cL_law 597 = .ok (.iload 4, 2) ∧ decode cL_law 599 = .ok (.iconst 3, 1) ∧ decode cL_law 600 = .ok (.iadd, 1) ∧ decode cL_law 601 = .ok (.iaload, 1) ∧ decode cL_law 602 = .ok (.ifCond .eq 7, 3) ∧ decode cL_law 605 = .ok (.iconst 1, 1) ∧ decode cL_law 606 = .ok (.goto 4, 3) ∧ decode cL_law 609 = .ok (.iconst 0, 1) ∧ decode cL_law 610 = .ok (.invokevirtual 85, 3) := by decide +kernel
theorem dL_law_589 : decode cL_law 589 = .ok (.iaload, 1) := dL_law_589_k.1
theorem dL_law_590 : decode cL_law 590 = .ok (.aload_n 0, 1) := dL_law_589_k.2.1
theorem dL_law_591 : decode cL_law 591 = .ok (.iload 4, 2) := dL_law_589_k.2.2.1
theorem dL_law_593 : decode cL_law 593 = .ok (.iconst 2, 1) := dL_law_589_k.2.2.2.1
theorem dL_law_594 : decode cL_law 594 = .ok (.iadd, 1) := dL_law_589_k.2.2.2.2.1
theorem dL_law_595 : decode cL_law 595 = .ok (.iaload, 1) := dL_law_589_k.2.2.2.2.2.1
theorem dL_law_596 : decode cL_law 596 = .ok (.aload_n 0, 1) := dL_law_589_k.2.2.2.2.2.2.1
theorem dL_law_597 : decode cL_law 597 = .ok (.iload 4, 2) := dL_law_589_k.2.2.2.2.2.2.2.1
theorem dL_law_599 : decode cL_law 599 = .ok (.iconst 3, 1) := dL_law_589_k.2.2.2.2.2.2.2.2.1
theorem dL_law_600 : decode cL_law 600 = .ok (.iadd, 1) := dL_law_589_k.2.2.2.2.2.2.2.2.2.1
theorem dL_law_601 : decode cL_law 601 = .ok (.iaload, 1) := dL_law_589_k.2.2.2.2.2.2.2.2.2.2.1
theorem dL_law_602 : decode cL_law 602 = .ok (.ifCond .eq 7, 3) := dL_law_589_k.2.2.2.2.2.2.2.2.2.2.2.1
theorem dL_law_605 : decode cL_law 605 = .ok (.iconst 1, 1) := dL_law_589_k.2.2.2.2.2.2.2.2.2.2.2.2.1
theorem dL_law_606 : decode cL_law 606 = .ok (.goto 4, 3) := dL_law_589_k.2.2.2.2.2.2.2.2.2.2.2.2.2.1
theorem dL_law_609 : decode cL_law 609 = .ok (.iconst 0, 1) := dL_law_589_k.2.2.2.2.2.2.2.2.2.2.2.2.2.2.1
theorem dL_law_610 : decode cL_law 610 = .ok (.invokevirtual 85, 3) := dL_law_589_k.2.2.2.2.2.2.2.2.2.2.2.2.2.2.2
theorem dL_law_613_k : decode cL_law 613 = .ok (.pop, 1) ∧ decode cL_law 614 = .ok (.goto 483, 3) ∧ decode cL_law 617 = .ok (.aload_n 1, 1) ∧ decode cL_law 618 = .ok (.aload_n 0, 1) ∧ decode cL_law 619 = .ok (.iload 4, 2) ∧ decode cL_law 621 = .ok (.iconst 1, 1) ∧ decode cL_law 622 = .ok (.iadd, 1) ∧ decode cL_law 623 = .ok (.iaload, 1) ∧ decode cL_law 624 = .ok (.aload_n 0, 1) ∧ decode cL_law 625 = .ok (.iload 4, 2) ∧ decode cL_law 627 = .ok (.iconst 2, 1) ∧ decode cL_law 628 = .ok (.iadd, 1) ∧ decode cL_law 629 = .ok (.iaload, 1) ∧ decode cL_law 630 = .ok (.aload_n 0, 1) ∧ decode cL_law 631 = .ok (.iload 4, 2) ∧ decode cL_law 633 = .ok (.iconst 3, 1) := by decide +kernel
theorem dL_law_613 : decode cL_law 613 = .ok (.pop, 1) := dL_law_613_k.1
theorem dL_law_614 : decode cL_law 614 = .ok (.goto 483, 3) := dL_law_613_k.2.1
theorem dL_law_617 : decode cL_law 617 = .ok (.aload_n 1, 1) := dL_law_613_k.2.2.1
theorem dL_law_618 : decode cL_law 618 = .ok (.aload_n 0, 1) := dL_law_613_k.2.2.2.1
theorem dL_law_619 : decode cL_law 619 = .ok (.iload 4, 2) := dL_law_613_k.2.2.2.2.1
theorem dL_law_621 : decode cL_law 621 = .ok (.iconst 1, 1) := dL_law_613_k.2.2.2.2.2.1
theorem dL_law_622 : decode cL_law 622 = .ok (.iadd, 1) := dL_law_613_k.2.2.2.2.2.2.1
theorem dL_law_623 : decode cL_law 623 = .ok (.iaload, 1) := dL_law_613_k.2.2.2.2.2.2.2.1
theorem dL_law_624 : decode cL_law 624 = .ok (.aload_n 0, 1) := dL_law_613_k.2.2.2.2.2.2.2.2.1
theorem dL_law_625 : decode cL_law 625 = .ok (.iload 4, 2) := dL_law_613_k.2.2.2.2.2.2.2.2.2.1
theorem dL_law_627 : decode cL_law 627 = .ok (.iconst 2, 1) := dL_law_613_k.2.2.2.2.2.2.2.2.2.2.1
theorem dL_law_628 : decode cL_law 628 = .ok (.iadd, 1) := dL_law_613_k.2.2.2.2.2.2.2.2.2.2.2.1
theorem dL_law_629 : decode cL_law 629 = .ok (.iaload, 1) := dL_law_613_k.2.2.2.2.2.2.2.2.2.2.2.2.1
theorem dL_law_630 : decode cL_law 630 = .ok (.aload_n 0, 1) := dL_law_613_k.2.2.2.2.2.2.2.2.2.2.2.2.2.1
theorem dL_law_631 : decode cL_law 631 = .ok (.iload 4, 2) := dL_law_613_k.2.2.2.2.2.2.2.2.2.2.2.2.2.2.1
theorem dL_law_633 : decode cL_law 633 = .ok (.iconst 3, 1) := dL_law_613_k.2.2.2.2.2.2.2.2.2.2.2.2.2.2.2
theorem dL_law_634_k : decode cL_law 634 = .ok (.iadd, 1) ∧ decode cL_law 635 = .ok (.iaload, 1) ∧ decode cL_law 636 = .ok (.ifCond .eq 7, 3) ∧ decode cL_law 639 = .ok (.iconst 1, 1) ∧ decode cL_law 640 = .ok (.goto 4, 3) ∧ decode cL_law 643 = .ok (.iconst 0, 1) ∧ decode cL_law 644 = .ok (.invokevirtual 86, 3) ∧ decode cL_law 647 = .ok (.pop, 1) ∧ decode cL_law 648 = .ok (.aload_n 2, 1) ∧ decode cL_law 649 = .ok (.aload_n 0, 1) ∧ decode cL_law 650 = .ok (.iload 4, 2) ∧ decode cL_law 652 = .ok (.iconst 1, 1) ∧ decode cL_law 653 = .ok (.iadd, 1) ∧ decode cL_law 654 = .ok (.iaload, 1) ∧ decode cL_law 655 = .ok (.aload_n 0, 1) ∧ decode cL_law 656 = .ok (.iload 4, 2) := by decide +kernel
theorem dL_law_634 : decode cL_law 634 = .ok (.iadd, 1) := dL_law_634_k.1
theorem dL_law_635 : decode cL_law 635 = .ok (.iaload, 1) := dL_law_634_k.2.1
theorem dL_law_636 : decode cL_law 636 = .ok (.ifCond .eq 7, 3) := dL_law_634_k.2.2.1
theorem dL_law_639 : decode cL_law 639 = .ok (.iconst 1, 1) := dL_law_634_k.2.2.2.1
theorem dL_law_640 : decode cL_law 640 = .ok (.goto 4, 3) := dL_law_634_k.2.2.2.2.1
theorem dL_law_643 : decode cL_law 643 = .ok (.iconst 0, 1) := dL_law_634_k.2.2.2.2.2.1
theorem dL_law_644 : decode cL_law 644 = .ok (.invokevirtual 86, 3) := dL_law_634_k.2.2.2.2.2.2.1
theorem dL_law_647 : decode cL_law 647 = .ok (.pop, 1) := dL_law_634_k.2.2.2.2.2.2.2.1
theorem dL_law_648 : decode cL_law 648 = .ok (.aload_n 2, 1) := dL_law_634_k.2.2.2.2.2.2.2.2.1
theorem dL_law_649 : decode cL_law 649 = .ok (.aload_n 0, 1) := dL_law_634_k.2.2.2.2.2.2.2.2.2.1
theorem dL_law_650 : decode cL_law 650 = .ok (.iload 4, 2) := dL_law_634_k.2.2.2.2.2.2.2.2.2.2.1
theorem dL_law_652 : decode cL_law 652 = .ok (.iconst 1, 1) := dL_law_634_k.2.2.2.2.2.2.2.2.2.2.2.1
theorem dL_law_653 : decode cL_law 653 = .ok (.iadd, 1) := dL_law_634_k.2.2.2.2.2.2.2.2.2.2.2.2.1
theorem dL_law_654 : decode cL_law 654 = .ok (.iaload, 1) := dL_law_634_k.2.2.2.2.2.2.2.2.2.2.2.2.2.1
theorem dL_law_655 : decode cL_law 655 = .ok (.aload_n 0, 1) := dL_law_634_k.2.2.2.2.2.2.2.2.2.2.2.2.2.2.1
theorem dL_law_656 : decode cL_law 656 = .ok (.iload 4, 2) := dL_law_634_k.2.2.2.2.2.2.2.2.2.2.2.2.2.2.2
theorem dL_law_658_k : decode cL_law 658 = .ok (.iconst 2, 1) ∧ decode cL_law 659 = .ok (.iadd, 1) ∧ decode cL_law 660 = .ok (.iaload, 1) ∧ decode cL_law 661 = .ok (.aload_n 0, 1) ∧ decode cL_law 662 = .ok (.iload 4, 2) ∧ decode cL_law 664 = .ok (.iconst 3, 1) ∧ decode cL_law 665 = .ok (.iadd, 1) ∧ decode cL_law 666 = .ok (.iaload, 1) ∧ decode cL_law 667 = .ok (.ifCond .eq 7, 3) ∧ decode cL_law 670 = .ok (.iconst 1, 1) ∧ decode cL_law 671 = .ok (.goto 4, 3) ∧ decode cL_law 674 = .ok (.iconst 0, 1) ∧ decode cL_law 675 = .ok (.invokevirtual 89, 3) ∧ decode cL_law 678 = .ok (.pop, 1) ∧ decode cL_law 679 = .ok (.goto 418, 3) ∧ decode cL_law 682 = .ok (.aload_n 1, 1) := by decide +kernel
theorem dL_law_658 : decode cL_law 658 = .ok (.iconst 2, 1) := dL_law_658_k.1
theorem dL_law_659 : decode cL_law 659 = .ok (.iadd, 1) := dL_law_658_k.2.1
theorem dL_law_660 : decode cL_law 660 = .ok (.iaload, 1) := dL_law_658_k.2.2.1
theorem dL_law_661 : decode cL_law 661 = .ok (.aload_n 0, 1) := dL_law_658_k.2.2.2.1
theorem dL_law_662 : decode cL_law 662 = .ok (.iload 4, 2) := dL_law_658_k.2.2.2.2.1
theorem dL_law_664 : decode cL_law 664 = .ok (.iconst 3, 1) := dL_law_658_k.2.2.2.2.2.1
theorem dL_law_665 : decode cL_law 665 = .ok (.iadd, 1) := dL_law_658_k.2.2.2.2.2.2.1
theorem dL_law_666 : decode cL_law 666 = .ok (.iaload, 1) := dL_law_658_k.2.2.2.2.2.2.2.1
theorem dL_law_667 : decode cL_law 667 = .ok (.ifCond .eq 7, 3) := dL_law_658_k.2.2.2.2.2.2.2.2.1
theorem dL_law_670 : decode cL_law 670 = .ok (.iconst 1, 1) := dL_law_658_k.2.2.2.2.2.2.2.2.2.1
theorem dL_law_671 : decode cL_law 671 = .ok (.goto 4, 3) := dL_law_658_k.2.2.2.2.2.2.2.2.2.2.1
theorem dL_law_674 : decode cL_law 674 = .ok (.iconst 0, 1) := dL_law_658_k.2.2.2.2.2.2.2.2.2.2.2.1
theorem dL_law_675 : decode cL_law 675 = .ok (.invokevirtual 89, 3) := dL_law_658_k.2.2.2.2.2.2.2.2.2.2.2.2.1
theorem dL_law_678 : decode cL_law 678 = .ok (.pop, 1) := dL_law_658_k.2.2.2.2.2.2.2.2.2.2.2.2.2.1
theorem dL_law_679 : decode cL_law 679 = .ok (.goto 418, 3) := dL_law_658_k.2.2.2.2.2.2.2.2.2.2.2.2.2.2.1
theorem dL_law_682 : decode cL_law 682 = .ok (.aload_n 1, 1) := dL_law_658_k.2.2.2.2.2.2.2.2.2.2.2.2.2.2.2
theorem dL_law_683_k : decode cL_law 683 = .ok (.aload_n 0, 1) ∧ decode cL_law 684 = .ok (.iload 4, 2) ∧ decode cL_law 686 = .ok (.iconst 1, 1) ∧ decode cL_law 687 = .ok (.iadd, 1) ∧ decode cL_law 688 = .ok (.iaload, 1) ∧ decode cL_law 689 = .ok (.invokevirtual 90, 3) ∧ decode cL_law 692 = .ok (.pop, 1) ∧ decode cL_law 693 = .ok (.aload_n 2, 1) ∧ decode cL_law 694 = .ok (.aload_n 0, 1) ∧ decode cL_law 695 = .ok (.iload 4, 2) ∧ decode cL_law 697 = .ok (.iconst 1, 1) ∧ decode cL_law 698 = .ok (.iadd, 1) ∧ decode cL_law 699 = .ok (.iaload, 1) ∧ decode cL_law 700 = .ok (.invokevirtual 93, 3) ∧ decode cL_law 703 = .ok (.pop, 1) ∧ decode cL_law 704 = .ok (.goto 393, 3) := by decide +kernel
theorem dL_law_683 : decode cL_law 683 = .ok (.aload_n 0, 1) := dL_law_683_k.1
theorem dL_law_684 : decode cL_law 684 = .ok (.iload 4, 2) := dL_law_683_k.2.1
theorem dL_law_686 : decode cL_law 686 = .ok (.iconst 1, 1) := dL_law_683_k.2.2.1
theorem dL_law_687 : decode cL_law 687 = .ok (.iadd, 1) := dL_law_683_k.2.2.2.1
theorem dL_law_688 : decode cL_law 688 = .ok (.iaload, 1) := dL_law_683_k.2.2.2.2.1
theorem dL_law_689 : decode cL_law 689 = .ok (.invokevirtual 90, 3) := dL_law_683_k.2.2.2.2.2.1
theorem dL_law_692 : decode cL_law 692 = .ok (.pop, 1) := dL_law_683_k.2.2.2.2.2.2.1
theorem dL_law_693 : decode cL_law 693 = .ok (.aload_n 2, 1) := dL_law_683_k.2.2.2.2.2.2.2.1
theorem dL_law_694 : decode cL_law 694 = .ok (.aload_n 0, 1) := dL_law_683_k.2.2.2.2.2.2.2.2.1
theorem dL_law_695 : decode cL_law 695 = .ok (.iload 4, 2) := dL_law_683_k.2.2.2.2.2.2.2.2.2.1
theorem dL_law_697 : decode cL_law 697 = .ok (.iconst 1, 1) := dL_law_683_k.2.2.2.2.2.2.2.2.2.2.1
theorem dL_law_698 : decode cL_law 698 = .ok (.iadd, 1) := dL_law_683_k.2.2.2.2.2.2.2.2.2.2.2.1
theorem dL_law_699 : decode cL_law 699 = .ok (.iaload, 1) := dL_law_683_k.2.2.2.2.2.2.2.2.2.2.2.2.1
theorem dL_law_700 : decode cL_law 700 = .ok (.invokevirtual 93, 3) := dL_law_683_k.2.2.2.2.2.2.2.2.2.2.2.2.2.1
theorem dL_law_703 : decode cL_law 703 = .ok (.pop, 1) := dL_law_683_k.2.2.2.2.2.2.2.2.2.2.2.2.2.2.1
theorem dL_law_704 : decode cL_law 704 = .ok (.goto 393, 3) := dL_law_683_k.2.2.2.2.2.2.2.2.2.2.2.2.2.2.2
theorem dL_law_707_k : decode cL_law 707 = .ok (.aload_n 1, 1) ∧ decode cL_law 708 = .ok (.aload_n 0, 1) ∧ decode cL_law 709 = .ok (.iload 4, 2) ∧ decode cL_law 711 = .ok (.iconst 1, 1) ∧ decode cL_law 712 = .ok (.iadd, 1) ∧ decode cL_law 713 = .ok (.iaload, 1) ∧ decode cL_law 714 = .ok (.invokevirtual 94, 3) ∧ decode cL_law 717 = .ok (.pop, 1) ∧ decode cL_law 718 = .ok (.aload_n 2, 1) ∧ decode cL_law 719 = .ok (.aload_n 0, 1) ∧ decode cL_law 720 = .ok (.iload 4, 2) ∧ decode cL_law 722 = .ok (.iconst 1, 1) ∧ decode cL_law 723 = .ok (.iadd, 1) ∧ decode cL_law 724 = .ok (.iaload, 1) ∧ decode cL_law 725 = .ok (.invokevirtual 97, 3) ∧ decode cL_law 728 = .ok (.pop, 1) := by decide +kernel
theorem dL_law_707 : decode cL_law 707 = .ok (.aload_n 1, 1) := dL_law_707_k.1
theorem dL_law_708 : decode cL_law 708 = .ok (.aload_n 0, 1) := dL_law_707_k.2.1
theorem dL_law_709 : decode cL_law 709 = .ok (.iload 4, 2) := dL_law_707_k.2.2.1
theorem dL_law_711 : decode cL_law 711 = .ok (.iconst 1, 1) := dL_law_707_k.2.2.2.1
theorem dL_law_712 : decode cL_law 712 = .ok (.iadd, 1) := dL_law_707_k.2.2.2.2.1
theorem dL_law_713 : decode cL_law 713 = .ok (.iaload, 1) := dL_law_707_k.2.2.2.2.2.1
theorem dL_law_714 : decode cL_law 714 = .ok (.invokevirtual 94, 3) := dL_law_707_k.2.2.2.2.2.2.1
theorem dL_law_717 : decode cL_law 717 = .ok (.pop, 1) := dL_law_707_k.2.2.2.2.2.2.2.1
theorem dL_law_718 : decode cL_law 718 = .ok (.aload_n 2, 1) := dL_law_707_k.2.2.2.2.2.2.2.2.1
theorem dL_law_719 : decode cL_law 719 = .ok (.aload_n 0, 1) := dL_law_707_k.2.2.2.2.2.2.2.2.2.1
theorem dL_law_720 : decode cL_law 720 = .ok (.iload 4, 2) := dL_law_707_k.2.2.2.2.2.2.2.2.2.2.1
theorem dL_law_722 : decode cL_law 722 = .ok (.iconst 1, 1) := dL_law_707_k.2.2.2.2.2.2.2.2.2.2.2.1
theorem dL_law_723 : decode cL_law 723 = .ok (.iadd, 1) := dL_law_707_k.2.2.2.2.2.2.2.2.2.2.2.2.1
theorem dL_law_724 : decode cL_law 724 = .ok (.iaload, 1) := dL_law_707_k.2.2.2.2.2.2.2.2.2.2.2.2.2.1
theorem dL_law_725 : decode cL_law 725 = .ok (.invokevirtual 97, 3) := dL_law_707_k.2.2.2.2.2.2.2.2.2.2.2.2.2.2.1
theorem dL_law_728 : decode cL_law 728 = .ok (.pop, 1) := dL_law_707_k.2.2.2.2.2.2.2.2.2.2.2.2.2.2.2
theorem dL_law_729_k : decode cL_law 729 = .ok (.goto 368, 3) ∧ decode cL_law 732 = .ok (.aload_n 1, 1) ∧ decode cL_law 733 = .ok (.aload_n 0, 1) ∧ decode cL_law 734 = .ok (.iload 4, 2) ∧ decode cL_law 736 = .ok (.iconst 1, 1) ∧ decode cL_law 737 = .ok (.iadd, 1) ∧ decode cL_law 738 = .ok (.iaload, 1) ∧ decode cL_law 739 = .ok (.aload_n 0, 1) ∧ decode cL_law 740 = .ok (.iload 4, 2) ∧ decode cL_law 742 = .ok (.iconst 2, 1) ∧ decode cL_law 743 = .ok (.iadd, 1) ∧ decode cL_law 744 = .ok (.iaload, 1) ∧ decode cL_law 745 = .ok (.invokevirtual 98, 3) ∧ decode cL_law 748 = .ok (.pop, 1) ∧ decode cL_law 749 = .ok (.aload_n 2, 1) ∧ decode cL_law 750 = .ok (.aload_n 0, 1) := by decide +kernel
theorem dL_law_729 : decode cL_law 729 = .ok (.goto 368, 3) := dL_law_729_k.1
theorem dL_law_732 : decode cL_law 732 = .ok (.aload_n 1, 1) := dL_law_729_k.2.1
theorem dL_law_733 : decode cL_law 733 = .ok (.aload_n 0, 1) := dL_law_729_k.2.2.1
theorem dL_law_734 : decode cL_law 734 = .ok (.iload 4, 2) := dL_law_729_k.2.2.2.1
theorem dL_law_736 : decode cL_law 736 = .ok (.iconst 1, 1) := dL_law_729_k.2.2.2.2.1
theorem dL_law_737 : decode cL_law 737 = .ok (.iadd, 1) := dL_law_729_k.2.2.2.2.2.1
theorem dL_law_738 : decode cL_law 738 = .ok (.iaload, 1) := dL_law_729_k.2.2.2.2.2.2.1
theorem dL_law_739 : decode cL_law 739 = .ok (.aload_n 0, 1) := dL_law_729_k.2.2.2.2.2.2.2.1
theorem dL_law_740 : decode cL_law 740 = .ok (.iload 4, 2) := dL_law_729_k.2.2.2.2.2.2.2.2.1
theorem dL_law_742 : decode cL_law 742 = .ok (.iconst 2, 1) := dL_law_729_k.2.2.2.2.2.2.2.2.2.1
theorem dL_law_743 : decode cL_law 743 = .ok (.iadd, 1) := dL_law_729_k.2.2.2.2.2.2.2.2.2.2.1
theorem dL_law_744 : decode cL_law 744 = .ok (.iaload, 1) := dL_law_729_k.2.2.2.2.2.2.2.2.2.2.2.1
theorem dL_law_745 : decode cL_law 745 = .ok (.invokevirtual 98, 3) := dL_law_729_k.2.2.2.2.2.2.2.2.2.2.2.2.1
theorem dL_law_748 : decode cL_law 748 = .ok (.pop, 1) := dL_law_729_k.2.2.2.2.2.2.2.2.2.2.2.2.2.1
theorem dL_law_749 : decode cL_law 749 = .ok (.aload_n 2, 1) := dL_law_729_k.2.2.2.2.2.2.2.2.2.2.2.2.2.2.1
theorem dL_law_750 : decode cL_law 750 = .ok (.aload_n 0, 1) := dL_law_729_k.2.2.2.2.2.2.2.2.2.2.2.2.2.2.2
theorem dL_law_751_k : decode cL_law 751 = .ok (.iload 4, 2) ∧ decode cL_law 753 = .ok (.iconst 1, 1) ∧ decode cL_law 754 = .ok (.iadd, 1) ∧ decode cL_law 755 = .ok (.iaload, 1) ∧ decode cL_law 756 = .ok (.aload_n 0, 1) ∧ decode cL_law 757 = .ok (.iload 4, 2) ∧ decode cL_law 759 = .ok (.iconst 2, 1) ∧ decode cL_law 760 = .ok (.iadd, 1) ∧ decode cL_law 761 = .ok (.iaload, 1) ∧ decode cL_law 762 = .ok (.invokevirtual 101, 3) ∧ decode cL_law 765 = .ok (.pop, 1) ∧ decode cL_law 766 = .ok (.goto 331, 3) ∧ decode cL_law 769 = .ok (.aload_n 1, 1) ∧ decode cL_law 770 = .ok (.aload_n 0, 1) ∧ decode cL_law 771 = .ok (.iload 4, 2) ∧ decode cL_law 773 = .ok (.iconst 1, 1) := by decide +kernel
theorem dL_law_751 : decode cL_law 751 = .ok (.iload 4, 2) := dL_law_751_k.1
theorem dL_law_753 : decode cL_law 753 = .ok (.iconst 1, 1) := dL_law_751_k.2.1
theorem dL_law_754 : decode cL_law 754 = .ok (.iadd, 1) := dL_law_751_k.2.2.1
theorem dL_law_755 : decode cL_law 755 = .ok (.iaload, 1) := dL_law_751_k.2.2.2.1
theorem dL_law_756 : decode cL_law 756 = .ok (.aload_n 0, 1) := dL_law_751_k.2.2.2.2.1
theorem dL_law_757 : decode cL_law 757 = .ok (.iload 4, 2) := dL_law_751_k.2.2.2.2.2.1
theorem dL_law_759 : decode cL_law 759 = .ok (.iconst 2, 1) := dL_law_751_k.2.2.2.2.2.2.1
theorem dL_law_760 : decode cL_law 760 = .ok (.iadd, 1) := dL_law_751_k.2.2.2.2.2.2.2.1
theorem dL_law_761 : decode cL_law 761 = .ok (.iaload, 1) := dL_law_751_k.2.2.2.2.2.2.2.2.1
theorem dL_law_762 : decode cL_law 762 = .ok (.invokevirtual 101, 3) := dL_law_751_k.2.2.2.2.2.2.2.2.2.1
theorem dL_law_765 : decode cL_law 765 = .ok (.pop, 1) := dL_law_751_k.2.2.2.2.2.2.2.2.2.2.1
theorem dL_law_766 : decode cL_law 766 = .ok (.goto 331, 3) := dL_law_751_k.2.2.2.2.2.2.2.2.2.2.2.1
theorem dL_law_769 : decode cL_law 769 = .ok (.aload_n 1, 1) := dL_law_751_k.2.2.2.2.2.2.2.2.2.2.2.2.1
theorem dL_law_770 : decode cL_law 770 = .ok (.aload_n 0, 1) := dL_law_751_k.2.2.2.2.2.2.2.2.2.2.2.2.2.1
theorem dL_law_771 : decode cL_law 771 = .ok (.iload 4, 2) := dL_law_751_k.2.2.2.2.2.2.2.2.2.2.2.2.2.2.1
theorem dL_law_773 : decode cL_law 773 = .ok (.iconst 1, 1) := dL_law_751_k.2.2.2.2.2.2.2.2.2.2.2.2.2.2.2
theorem dL_law_774_k : decode cL_law 774 = .ok (.iadd, 1) ∧ decode cL_law 775 = .ok (.iaload, 1) ∧ decode cL_law 776 = .ok (.aload_n 0, 1) ∧ decode cL_law 777 = .ok (.iload 4, 2) ∧ decode cL_law 779 = .ok (.iconst 2, 1) ∧ decode cL_law 780 = .ok (.iadd, 1) ∧ decode cL_law 781 = .ok (.iaload, 1) ∧ decode cL_law 782 = .ok (.invokevirtual 102, 3) ∧ decode cL_law 785 = .ok (.pop, 1) ∧ decode cL_law 786 = .ok (.aload_n 2, 1) ∧ decode cL_law 787 = .ok (.aload_n 0, 1) ∧ decode cL_law 788 = .ok (.iload 4, 2) ∧ decode cL_law 790 = .ok (.iconst 1, 1) ∧ decode cL_law 791 = .ok (.iadd, 1) ∧ decode cL_law 792 = .ok (.iaload, 1) ∧ decode cL_law 793 = .ok (.aload_n 0, 1) := by decide +kernel
theorem dL_law_774 : decode cL_law 774 = .ok (.iadd, 1) := dL_law_774_k.1
theorem dL_law_775 : decode cL_law 775 = .ok (.iaload, 1) := dL_law_774_k.2.1
theorem dL_law_776 : decode cL_law 776 = .ok (.aload_n 0, 1) := dL_law_774_k.2.2.1
theorem dL_law_777 : decode cL_law 777 = .ok (.iload 4, 2) := dL_law_774_k.2.2.2.1
theorem dL_law_779 : decode cL_law 779 = .ok (.iconst 2, 1) := dL_law_774_k.2.2.2.2.1
theorem dL_law_780 : decode cL_law 780 = .ok (.iadd, 1) := dL_law_774_k.2.2.2.2.2.1
theorem dL_law_781 : decode cL_law 781 = .ok (.iaload, 1) := dL_law_774_k.2.2.2.2.2.2.1
theorem dL_law_782 : decode cL_law 782 = .ok (.invokevirtual 102, 3) := dL_law_774_k.2.2.2.2.2.2.2.1
theorem dL_law_785 : decode cL_law 785 = .ok (.pop, 1) := dL_law_774_k.2.2.2.2.2.2.2.2.1
theorem dL_law_786 : decode cL_law 786 = .ok (.aload_n 2, 1) := dL_law_774_k.2.2.2.2.2.2.2.2.2.1
theorem dL_law_787 : decode cL_law 787 = .ok (.aload_n 0, 1) := dL_law_774_k.2.2.2.2.2.2.2.2.2.2.1
theorem dL_law_788 : decode cL_law 788 = .ok (.iload 4, 2) := dL_law_774_k.2.2.2.2.2.2.2.2.2.2.2.1
theorem dL_law_790 : decode cL_law 790 = .ok (.iconst 1, 1) := dL_law_774_k.2.2.2.2.2.2.2.2.2.2.2.2.1
theorem dL_law_791 : decode cL_law 791 = .ok (.iadd, 1) := dL_law_774_k.2.2.2.2.2.2.2.2.2.2.2.2.2.1
theorem dL_law_792 : decode cL_law 792 = .ok (.iaload, 1) := dL_law_774_k.2.2.2.2.2.2.2.2.2.2.2.2.2.2.1
theorem dL_law_793 : decode cL_law 793 = .ok (.aload_n 0, 1) := dL_law_774_k.2.2.2.2.2.2.2.2.2.2.2.2.2.2.2
theorem dL_law_794_k : decode cL_law 794 = .ok (.iload 4, 2) ∧ decode cL_law 796 = .ok (.iconst 2, 1) ∧ decode cL_law 797 = .ok (.iadd, 1) ∧ decode cL_law 798 = .ok (.iaload, 1) ∧ decode cL_law 799 = .ok (.invokevirtual 106, 3) ∧ decode cL_law 802 = .ok (.pop, 1) ∧ decode cL_law 803 = .ok (.goto 294, 3) ∧ decode cL_law 806 = .ok (.aload_n 1, 1) ∧ decode cL_law 807 = .ok (.aload_n 0, 1) ∧ decode cL_law 808 = .ok (.iload 4, 2) ∧ decode cL_law 810 = .ok (.iconst 1, 1) ∧ decode cL_law 811 = .ok (.iadd, 1) ∧ decode cL_law 812 = .ok (.iaload, 1) ∧ decode cL_law 813 = .ok (.aload_n 0, 1) ∧ decode cL_law 814 = .ok (.iload 4, 2) ∧ decode cL_law 816 = .ok (.iconst 2, 1) := by decide +kernel
theorem dL_law_794 : decode cL_law 794 = .ok (.iload 4, 2) := dL_law_794_k.1
theorem dL_law_796 : decode cL_law 796 = .ok (.iconst 2, 1) := dL_law_794_k.2.1
theorem dL_law_797 : decode cL_law 797 = .ok (.iadd, 1) := dL_law_794_k.2.2.1
theorem dL_law_798 : decode cL_law 798 = .ok (.iaload, 1) := dL_law_794_k.2.2.2.1
theorem dL_law_799 : decode cL_law 799 = .ok (.invokevirtual 106, 3) := dL_law_794_k.2.2.2.2.1
theorem dL_law_802 : decode cL_law 802 = .ok (.pop, 1) := dL_law_794_k.2.2.2.2.2.1
theorem dL_law_803 : decode cL_law 803 = .ok (.goto 294, 3) := dL_law_794_k.2.2.2.2.2.2.1
theorem dL_law_806 : decode cL_law 806 = .ok (.aload_n 1, 1) := dL_law_794_k.2.2.2.2.2.2.2.1
theorem dL_law_807 : decode cL_law 807 = .ok (.aload_n 0, 1) := dL_law_794_k.2.2.2.2.2.2.2.2.1
theorem dL_law_808 : decode cL_law 808 = .ok (.iload 4, 2) := dL_law_794_k.2.2.2.2.2.2.2.2.2.1
theorem dL_law_810 : decode cL_law 810 = .ok (.iconst 1, 1) := dL_law_794_k.2.2.2.2.2.2.2.2.2.2.1
theorem dL_law_811 : decode cL_law 811 = .ok (.iadd, 1) := dL_law_794_k.2.2.2.2.2.2.2.2.2.2.2.1
theorem dL_law_812 : decode cL_law 812 = .ok (.iaload, 1) := dL_law_794_k.2.2.2.2.2.2.2.2.2.2.2.2.1
theorem dL_law_813 : decode cL_law 813 = .ok (.aload_n 0, 1) := dL_law_794_k.2.2.2.2.2.2.2.2.2.2.2.2.2.1
theorem dL_law_814 : decode cL_law 814 = .ok (.iload 4, 2) := dL_law_794_k.2.2.2.2.2.2.2.2.2.2.2.2.2.2.1
theorem dL_law_816 : decode cL_law 816 = .ok (.iconst 2, 1) := dL_law_794_k.2.2.2.2.2.2.2.2.2.2.2.2.2.2.2
theorem dL_law_817_k : decode cL_law 817 = .ok (.iadd, 1) ∧ decode cL_law 818 = .ok (.iaload, 1) ∧ decode cL_law 819 = .ok (.invokevirtual 107, 3) ∧ decode cL_law 822 = .ok (.pop, 1) ∧ decode cL_law 823 = .ok (.aload_n 2, 1) ∧ decode cL_law 824 = .ok (.aload_n 0, 1) ∧ decode cL_law 825 = .ok (.iload 4, 2) ∧ decode cL_law 827 = .ok (.iconst 1, 1) ∧ decode cL_law 828 = .ok (.iadd, 1) ∧ decode cL_law 829 = .ok (.iaload, 1) ∧ decode cL_law 830 = .ok (.aload_n 0, 1) ∧ decode cL_law 831 = .ok (.iload 4, 2) ∧ decode cL_law 833 = .ok (.iconst 2, 1) ∧ decode cL_law 834 = .ok (.iadd, 1) ∧ decode cL_law 835 = .ok (.iaload, 1) ∧ decode cL_law 836 = .ok (.invokevirtual 110, 3) := by decide +kernel
theorem dL_law_817 : decode cL_law 817 = .ok (.iadd, 1) := dL_law_817_k.1
theorem dL_law_818 : decode cL_law 818 = .ok (.iaload, 1) := dL_law_817_k.2.1
theorem dL_law_819 : decode cL_law 819 = .ok (.invokevirtual 107, 3) := dL_law_817_k.2.2.1
theorem dL_law_822 : decode cL_law 822 = .ok (.pop, 1) := dL_law_817_k.2.2.2.1
theorem dL_law_823 : decode cL_law 823 = .ok (.aload_n 2, 1) := dL_law_817_k.2.2.2.2.1
theorem dL_law_824 : decode cL_law 824 = .ok (.aload_n 0, 1) := dL_law_817_k.2.2.2.2.2.1
theorem dL_law_825 : decode cL_law 825 = .ok (.iload 4, 2) := dL_law_817_k.2.2.2.2.2.2.1
theorem dL_law_827 : decode cL_law 827 = .ok (.iconst 1, 1) := dL_law_817_k.2.2.2.2.2.2.2.1
theorem dL_law_828 : decode cL_law 828 = .ok (.iadd, 1) := dL_law_817_k.2.2.2.2.2.2.2.2.1
theorem dL_law_829 : decode cL_law 829 = .ok (.iaload, 1) := dL_law_817_k.2.2.2.2.2.2.2.2.2.1
theorem dL_law_830 : decode cL_law 830 = .ok (.aload_n 0, 1) := dL_law_817_k.2.2.2.2.2.2.2.2.2.2.1
theorem dL_law_831 : decode cL_law 831 = .ok (.iload 4, 2) := dL_law_817_k.2.2.2.2.2.2.2.2.2.2.2.1
theorem dL_law_833 : decode cL_law 833 = .ok (.iconst 2, 1) := dL_law_817_k.2.2.2.2.2.2.2.2.2.2.2.2.1
theorem dL_law_834 : decode cL_law 834 = .ok (.iadd, 1) := dL_law_817_k.2.2.2.2.2.2.2.2.2.2.2.2.2.1
theorem dL_law_835 : decode cL_law 835 = .ok (.iaload, 1) := dL_law_817_k.2.2.2.2.2.2.2.2.2.2.2.2.2.2.1
theorem dL_law_836 : decode cL_law 836 = .ok (.invokevirtual 110, 3) := dL_law_817_k.2.2.2.2.2.2.2.2.2.2.2.2.2.2.2
theorem dL_law_839_k : decode cL_law 839 = .ok (.pop, 1) ∧ decode cL_law 840 = .ok (.goto 257, 3) ∧ decode cL_law 843 = .ok (.aload_n 1, 1) ∧ decode cL_law 844 = .ok (.aload_n 0, 1) ∧ decode cL_law 845 = .ok (.iload 4, 2) ∧ decode cL_law 847 = .ok (.iconst 1, 1) ∧ decode cL_law 848 = .ok (.iadd, 1) ∧ decode cL_law 849 = .ok (.iaload, 1) ∧ decode cL_law 850 = .ok (.invokevirtual 111, 3) ∧ decode cL_law 853 = .ok (.pop, 1) ∧ decode cL_law 854 = .ok (.aload_n 2, 1) ∧ decode cL_law 855 = .ok (.aload_n 0, 1) ∧ decode cL_law 856 = .ok (.iload 4, 2) ∧ decode cL_law 858 = .ok (.iconst 1, 1) ∧ decode cL_law 859 = .ok (.iadd, 1) ∧ decode cL_law 860 = .ok (.iaload, 1) := by decide +kernel
theorem dL_law_839 : decode cL_law 839 = .ok (.pop, 1) := dL_law_839_k.1
theorem dL_law_840 : decode cL_law 840 = .ok (.goto 257, 3) := dL_law_839_k.2.1
theorem dL_law_843 : decode cL_law 843 = .ok (.aload_n 1, 1) := dL_law_839_k.2.2.1
theorem dL_law_844 : decode cL_law 844 = .ok (.aload_n 0, 1) := dL_law_839_k.2.2.2.1
theorem dL_law_845 : decode cL_law 845 = .ok (.iload 4, 2) := dL_law_839_k.2.2.2.2.1
theorem dL_law_847 : decode cL_law 847 = .ok (.iconst 1, 1) := dL_law_839_k.2.2.2.2.2.1
theorem dL_law_848 : decode cL_law 848 = .ok (.iadd, 1) := dL_law_839_k.2.2.2.2.2.2.1
theorem dL_law_849 : decode cL_law 849 = .ok (.iaload, 1) := dL_law_839_k.2.2.2.2.2.2.2.1
theorem dL_law_850 : decode cL_law 850 = .ok (.invokevirtual 111, 3) := dL_law_839_k.2.2.2.2.2.2.2.2.1
theorem dL_law_853 : decode cL_law 853 = .ok (.pop, 1) := dL_law_839_k.2.2.2.2.2.2.2.2.2.1
theorem dL_law_854 : decode cL_law 854 = .ok (.aload_n 2, 1) := dL_law_839_k.2.2.2.2.2.2.2.2.2.2.1
theorem dL_law_855 : decode cL_law 855 = .ok (.aload_n 0, 1) := dL_law_839_k.2.2.2.2.2.2.2.2.2.2.2.1
theorem dL_law_856 : decode cL_law 856 = .ok (.iload 4, 2) := dL_law_839_k.2.2.2.2.2.2.2.2.2.2.2.2.1
theorem dL_law_858 : decode cL_law 858 = .ok (.iconst 1, 1) := dL_law_839_k.2.2.2.2.2.2.2.2.2.2.2.2.2.1
theorem dL_law_859 : decode cL_law 859 = .ok (.iadd, 1) := dL_law_839_k.2.2.2.2.2.2.2.2.2.2.2.2.2.2.1
theorem dL_law_860 : decode cL_law 860 = .ok (.iaload, 1) := dL_law_839_k.2.2.2.2.2.2.2.2.2.2.2.2.2.2.2
theorem dL_law_861_k : decode cL_law 861 = .ok (.invokevirtual 114, 3) ∧ decode cL_law 864 = .ok (.pop, 1) ∧ decode cL_law 865 = .ok (.goto 232, 3) ∧ decode cL_law 868 = .ok (.aload_n 1, 1) ∧ decode cL_law 869 = .ok (.aload_n 0, 1) ∧ decode cL_law 870 = .ok (.iload 4, 2) ∧ decode cL_law 872 = .ok (.iconst 1, 1) ∧ decode cL_law 873 = .ok (.iadd, 1) ∧ decode cL_law 874 = .ok (.iaload, 1) ∧ decode cL_law 875 = .ok (.invokevirtual 115, 3) ∧ decode cL_law 878 = .ok (.pop, 1) ∧ decode cL_law 879 = .ok (.aload_n 2, 1) ∧ decode cL_law 880 = .ok (.aload_n 0, 1) ∧ decode cL_law 881 = .ok (.iload 4, 2) ∧ decode cL_law 883 = .ok (.iconst 1, 1) ∧ decode cL_law 884 = .ok (.iadd, 1) := by decide +kernel
theorem dL_law_861 : decode cL_law 861 = .ok (.invokevirtual 114, 3) := dL_law_861_k.1
theorem dL_law_864 : decode cL_law 864 = .ok (.pop, 1) := dL_law_861_k.2.1
theorem dL_law_865 : decode cL_law 865 = .ok (.goto 232, 3) := dL_law_861_k.2.2.1
theorem dL_law_868 : decode cL_law 868 = .ok (.aload_n 1, 1) := dL_law_861_k.2.2.2.1
theorem dL_law_869 : decode cL_law 869 = .ok (.aload_n 0, 1) := dL_law_861_k.2.2.2.2.1
theorem dL_law_870 : decode cL_law 870 = .ok (.iload 4, 2) := dL_law_861_k.2.2.2.2.2.1
theorem dL_law_872 : decode cL_law 872 = .ok (.iconst 1, 1) := dL_law_861_k.2.2.2.2.2.2.1
theorem dL_law_873 : decode cL_law 873 = .ok (.iadd, 1) := dL_law_861_k.2.2.2.2.2.2.2.1
theorem dL_law_874 : decode cL_law 874 = .ok (.iaload, 1) := dL_law_861_k.2.2.2.2.2.2.2.2.1
theorem dL_law_875 : decode cL_law 875 = .ok (.invokevirtual 115, 3) := dL_law_861_k.2.2.2.2.2.2.2.2.2.1
theorem dL_law_878 : decode cL_law 878 = .ok (.pop, 1) := dL_law_861_k.2.2.2.2.2.2.2.2.2.2.1
theorem dL_law_879 : decode cL_law 879 = .ok (.aload_n 2, 1) := dL_law_861_k.2.2.2.2.2.2.2.2.2.2.2.1
theorem dL_law_880 : decode cL_law 880 = .ok (.aload_n 0, 1) := dL_law_861_k.2.2.2.2.2.2.2.2.2.2.2.2.1
theorem dL_law_881 : decode cL_law 881 = .ok (.iload 4, 2) := dL_law_861_k.2.2.2.2.2.2.2.2.2.2.2.2.2.1
theorem dL_law_883 : decode cL_law 883 = .ok (.iconst 1, 1) := dL_law_861_k.2.2.2.2.2.2.2.2.2.2.2.2.2.2.1
theorem dL_law_884 : decode cL_law 884 = .ok (.iadd, 1) := dL_law_861_k.2.2.2.2.2.2.2.2.2.2.2.2.2.2.2
theorem dL_law_885_k : decode cL_law 885 = .ok (.iaload, 1) ∧ decode cL_law 886 = .ok (.invokevirtual 118, 3) ∧ decode cL_law 889 = .ok (.pop, 1) ∧ decode cL_law 890 = .ok (.goto 207, 3) ∧ decode cL_law 893 = .ok (.aload_n 1, 1) ∧ decode cL_law 894 = .ok (.aload_n 0, 1) ∧ decode cL_law 895 = .ok (.iload 4, 2) ∧ decode cL_law 897 = .ok (.iconst 1, 1) ∧ decode cL_law 898 = .ok (.iadd, 1) ∧ decode cL_law 899 = .ok (.iaload, 1) ∧ decode cL_law 900 = .ok (.aload_n 0, 1) ∧ decode cL_law 901 = .ok (.iload 4, 2) ∧ decode cL_law 903 = .ok (.iconst 2, 1) ∧ decode cL_law 904 = .ok (.iadd, 1) ∧ decode cL_law 905 = .ok (.iaload, 1) ∧ decode cL_law 906 = .ok (.ifCond .eq 7, 3) := by decide +kernel
theorem dL_law_885 : decode cL_law 885 = .ok (.iaload, 1) := dL_law_885_k.1
theorem dL_law_886 : decode cL_law 886 = .ok (.invokevirtual 118, 3) := dL_law_885_k.2.1
theorem dL_law_889 : decode cL_law 889 = .ok (.pop, 1) := dL_law_885_k.2.2.1
theorem dL_law_890 : decode cL_law 890 = .ok (.goto 207, 3) := dL_law_885_k.2.2.2.1
theorem dL_law_893 : decode cL_law 893 = .ok (.aload_n 1, 1) := dL_law_885_k.2.2.2.2.1
theorem dL_law_894 : decode cL_law 894 = .ok (.aload_n 0, 1) := dL_law_885_k.2.2.2.2.2.1
theorem dL_law_895 : decode cL_law 895 = .ok (.iload 4, 2) := dL_law_885_k.2.2.2.2.2.2.1
theorem dL_law_897 : decode cL_law 897 = .ok (.iconst 1, 1) := dL_law_885_k.2.2.2.2.2.2.2.1
theorem dL_law_898 : decode cL_law 898 = .ok (.iadd, 1) := dL_law_885_k.2.2.2.2.2.2.2.2.1
theorem dL_law_899 : decode cL_law 899 = .ok (.iaload, 1) := dL_law_885_k.2.2.2.2.2.2.2.2.2.1
theorem dL_law_900 : decode cL_law 900 = .ok (.aload_n 0, 1) := dL_law_885_k.2.2.2.2.2.2.2.2.2.2.1
theorem dL_law_901 : decode cL_law 901 = .ok (.iload 4, 2) := dL_law_885_k.2.2.2.2.2.2.2.2.2.2.2.1
theorem dL_law_903 : decode cL_law 903 = .ok (.iconst 2, 1) := dL_law_885_k.2.2.2.2.2.2.2.2.2.2.2.2.1
theorem dL_law_904 : decode cL_law 904 = .ok (.iadd, 1) := dL_law_885_k.2.2.2.2.2.2.2.2.2.2.2.2.2.1
theorem dL_law_905 : decode cL_law 905 = .ok (.iaload, 1) := dL_law_885_k.2.2.2.2.2.2.2.2.2.2.2.2.2.2.1
theorem dL_law_906 : decode cL_law 906 = .ok (.ifCond .eq 7, 3) := dL_law_885_k.2.2.2.2.2.2.2.2.2.2.2.2.2.2.2
theorem dL_law_909_k : decode cL_law 909 = .ok (.iconst 1, 1) ∧ decode cL_law 910 = .ok (.goto 4, 3) ∧ decode cL_law 913 = .ok (.iconst 0, 1) ∧ decode cL_law 914 = .ok (.invokevirtual 119, 3) ∧ decode cL_law 917 = .ok (.pop, 1) ∧ decode cL_law 918 = .ok (.aload_n 2, 1) ∧ decode cL_law 919 = .ok (.aload_n 0, 1) ∧ decode cL_law 920 = .ok (.iload 4, 2) ∧ decode cL_law 922 = .ok (.iconst 1, 1) ∧ decode cL_law 923 = .ok (.iadd, 1) ∧ decode cL_law 924 = .ok (.iaload, 1) ∧ decode cL_law 925 = .ok (.aload_n 0, 1) ∧ decode cL_law 926 = .ok (.iload 4, 2) ∧ decode cL_law 928 = .ok (.iconst 2, 1) ∧ decode cL_law 929 = .ok (.iadd, 1) ∧ decode cL_law 930 = .ok (.iaload, 1) := by decide +kernel
theorem dL_law_909 : decode cL_law 909 = .ok (.iconst 1, 1) := dL_law_909_k.1
theorem dL_law_910 : decode cL_law 910 = .ok (.goto 4, 3) := dL_law_909_k.2.1
theorem dL_law_913 : decode cL_law 913 = .ok (.iconst 0, 1) := dL_law_909_k.2.2.1
theorem dL_law_914 : decode cL_law 914 = .ok (.invokevirtual 119, 3) := dL_law_909_k.2.2.2.1
theorem dL_law_917 : decode cL_law 917 = .ok (.pop, 1) := dL_law_909_k.2.2.2.2.1
theorem dL_law_918 : decode cL_law 918 = .ok (.aload_n 2, 1) := dL_law_909_k.2.2.2.2.2.1
theorem dL_law_919 : decode cL_law 919 = .ok (.aload_n 0, 1) := dL_law_909_k.2.2.2.2.2.2.1
theorem dL_law_920 : decode cL_law 920 = .ok (.iload 4, 2) := dL_law_909_k.2.2.2.2.2.2.2.1
theorem dL_law_922 : decode cL_law 922 = .ok (.iconst 1, 1) := dL_law_909_k.2.2.2.2.2.2.2.2.1
theorem dL_law_923 : decode cL_law 923 = .ok (.iadd, 1) := dL_law_909_k.2.2.2.2.2.2.2.2.2.1
theorem dL_law_924 : decode cL_law 924 = .ok (.iaload, 1) := dL_law_909_k.2.2.2.2.2.2.2.2.2.2.1
theorem dL_law_925 : decode cL_law 925 = .ok (.aload_n 0, 1) := dL_law_909_k.2.2.2.2.2.2.2.2.2.2.2.1
theorem dL_law_926 : decode cL_law 926 = .ok (.iload 4, 2) := dL_law_909_k.2.2.2.2.2.2.2.2.2.2.2.2.1
theorem dL_law_928 : decode cL_law 928 = .ok (.iconst 2, 1) := dL_law_909_k.2.2.2.2.2.2.2.2.2.2.2.2.2.1
theorem dL_law_929 : decode cL_law 929 = .ok (.iadd, 1) := dL_law_909_k.2.2.2.2.2.2.2.2.2.2.2.2.2.2.1
theorem dL_law_930 : decode cL_law 930 = .ok (.iaload, 1) := dL_law_909_k.2.2.2.2.2.2.2.2.2.2.2.2.2.2.2
theorem dL_law_931_k : decode cL_law 931 = .ok (.ifCond .eq 7, 3) ∧ decode cL_law 934 = .ok (.iconst 1, 1) ∧ decode cL_law 935 = .ok (.goto 4, 3) ∧ decode cL_law 938 = .ok (.iconst 0, 1) ∧ decode cL_law 939 = .ok (.invokevirtual 123, 3) ∧ decode cL_law 942 = .ok (.pop, 1) ∧ decode cL_law 943 = .ok (.goto 154, 3) ∧ decode cL_law 946 = .ok (.aload_n 1, 1) ∧ decode cL_law 947 = .ok (.aload_n 0, 1) ∧ decode cL_law 948 = .ok (.iload 4, 2) ∧ decode cL_law 950 = .ok (.iconst 1, 1) ∧ decode cL_law 951 = .ok (.iadd, 1) ∧ decode cL_law 952 = .ok (.iaload, 1) ∧ decode cL_law 953 = .ok (.aload_n 0, 1) ∧ decode cL_law 954 = .ok (.iload 4, 2) ∧ decode cL_law 956 = .ok (.iconst 2, 1) := by decide +kernel
theorem dL_law_931 : decode cL_law 931 = .ok (.ifCond .eq 7, 3) := dL_law_931_k.1
theorem dL_law_934 : decode cL_law 934 = .ok (.iconst 1, 1) := dL_law_931_k.2.1
theorem dL_law_935 : decode cL_law 935 = .ok (.goto 4, 3) := dL_law_931_k.2.2.1
theorem dL_law_938 : decode cL_law 938 = .ok (.iconst 0, 1) := dL_law_931_k.2.2.2.1
theorem dL_law_939 : decode cL_law 939 = .ok (.invokevirtual 123, 3) := dL_law_931_k.2.2.2.2.1
theorem dL_law_942 : decode cL_law 942 = .ok (.pop, 1) := dL_law_931_k.2.2.2.2.2.1
theorem dL_law_943 : decode cL_law 943 = .ok (.goto 154, 3) := dL_law_931_k.2.2.2.2.2.2.1
theorem dL_law_946 : decode cL_law 946 = .ok (.aload_n 1, 1) := dL_law_931_k.2.2.2.2.2.2.2.1
theorem dL_law_947 : decode cL_law 947 = .ok (.aload_n 0, 1) := dL_law_931_k.2.2.2.2.2.2.2.2.1
theorem dL_law_948 : decode cL_law 948 = .ok (.iload 4, 2) := dL_law_931_k.2.2.2.2.2.2.2.2.2.1
theorem dL_law_950 : decode cL_law 950 = .ok (.iconst 1, 1) := dL_law_931_k.2.2.2.2.2.2.2.2.2.2.1
theorem dL_law_951 : decode cL_law 951 = .ok (.iadd, 1) := dL_law_931_k.2.2.2.2.2.2.2.2.2.2.2.1
theorem dL_law_952 : decode cL_law 952 = .ok (.iaload, 1) := dL_law_931_k.2.2.2.2.2.2.2.2.2.2.2.2.1
theorem dL_law_953 : decode cL_law 953 = .ok (.aload_n 0, 1) := dL_law_931_k.2.2.2.2.2.2.2.2.2.2.2.2.2.1
theorem dL_law_954 : decode cL_law 954 = .ok (.iload 4, 2) := dL_law_931_k.2.2.2.2.2.2.2.2.2.2.2.2.2.2.1
theorem dL_law_956 : decode cL_law 956 = .ok (.iconst 2, 1) := dL_law_931_k.2.2.2.2.2.2.2.2.2.2.2.2.2.2.2
theorem dL_law_957_k : decode cL_law 957 = .ok (.iadd, 1) ∧ decode cL_law 958 = .ok (.iaload, 1) ∧ decode cL_law 959 = .ok (.invokevirtual 124, 3) ∧ decode cL_law 962 = .ok (.pop, 1) ∧ decode cL_law 963 = .ok (.aload_n 2, 1) ∧ decode cL_law 964 = .ok (.aload_n 0, 1) ∧ decode cL_law 965 = .ok (.iload 4, 2) ∧ decode cL_law 967 = .ok (.iconst 1, 1) ∧ decode cL_law 968 = .ok (.iadd, 1) ∧ decode cL_law 969 = .ok (.iaload, 1) ∧ decode cL_law 970 = .ok (.aload_n 0, 1) ∧ decode cL_law 971 = .ok (.iload 4, 2) ∧ decode cL_law 973 = .ok (.iconst 2, 1) ∧ decode cL_law 974 = .ok (.iadd, 1) ∧ decode cL_law 975 = .ok (.iaload, 1) ∧ decode cL_law 976 = .ok (.invokevirtual 127, 3) := by decide +kernel
theorem dL_law_957 : decode cL_law 957 = .ok (.iadd, 1) := dL_law_957_k.1
theorem dL_law_958 : decode cL_law 958 = .ok (.iaload, 1) := dL_law_957_k.2.1
theorem dL_law_959 : decode cL_law 959 = .ok (.invokevirtual 124, 3) := dL_law_957_k.2.2.1
theorem dL_law_962 : decode cL_law 962 = .ok (.pop, 1) := dL_law_957_k.2.2.2.1
theorem dL_law_963 : decode cL_law 963 = .ok (.aload_n 2, 1) := dL_law_957_k.2.2.2.2.1
theorem dL_law_964 : decode cL_law 964 = .ok (.aload_n 0, 1) := dL_law_957_k.2.2.2.2.2.1
theorem dL_law_965 : decode cL_law 965 = .ok (.iload 4, 2) := dL_law_957_k.2.2.2.2.2.2.1
theorem dL_law_967 : decode cL_law 967 = .ok (.iconst 1, 1) := dL_law_957_k.2.2.2.2.2.2.2.1
theorem dL_law_968 : decode cL_law 968 = .ok (.iadd, 1) := dL_law_957_k.2.2.2.2.2.2.2.2.1
theorem dL_law_969 : decode cL_law 969 = .ok (.iaload, 1) := dL_law_957_k.2.2.2.2.2.2.2.2.2.1
theorem dL_law_970 : decode cL_law 970 = .ok (.aload_n 0, 1) := dL_law_957_k.2.2.2.2.2.2.2.2.2.2.1
theorem dL_law_971 : decode cL_law 971 = .ok (.iload 4, 2) := dL_law_957_k.2.2.2.2.2.2.2.2.2.2.2.1
theorem dL_law_973 : decode cL_law 973 = .ok (.iconst 2, 1) := dL_law_957_k.2.2.2.2.2.2.2.2.2.2.2.2.1
theorem dL_law_974 : decode cL_law 974 = .ok (.iadd, 1) := dL_law_957_k.2.2.2.2.2.2.2.2.2.2.2.2.2.1
theorem dL_law_975 : decode cL_law 975 = .ok (.iaload, 1) := dL_law_957_k.2.2.2.2.2.2.2.2.2.2.2.2.2.2.1
theorem dL_law_976 : decode cL_law 976 = .ok (.invokevirtual 127, 3) := dL_law_957_k.2.2.2.2.2.2.2.2.2.2.2.2.2.2.2
theorem dL_law_979_k : decode cL_law 979 = .ok (.pop, 1) ∧ decode cL_law 980 = .ok (.goto 117, 3) ∧ decode cL_law 983 = .ok (.aload_n 1, 1) ∧ decode cL_law 984 = .ok (.invokevirtual 128, 3) ∧ decode cL_law 987 = .ok (.pop, 1) ∧ decode cL_law 988 = .ok (.aload_n 2, 1) ∧ decode cL_law 989 = .ok (.invokevirtual 131, 3) ∧ decode cL_law 992 = .ok (.pop, 1) ∧ decode cL_law 993 = .ok (.goto 104, 3) ∧ decode cL_law 996 = .ok (.aload_n 1, 1) ∧ decode cL_law 997 = .ok (.aload_n 0, 1) ∧ decode cL_law 998 = .ok (.iload 4, 2) ∧ decode cL_law 1000 = .ok (.iconst 1, 1) ∧ decode cL_law 1001 = .ok (.iadd, 1) ∧ decode cL_law 1002 = .ok (.iaload, 1) ∧ decode cL_law 1003 = .ok (.invokevirtual 132, 3) := by decide +kernel
theorem dL_law_979 : decode cL_law 979 = .ok (.pop, 1) := dL_law_979_k.1
theorem dL_law_980 : decode cL_law 980 = .ok (.goto 117, 3) := dL_law_979_k.2.1
theorem dL_law_983 : decode cL_law 983 = .ok (.aload_n 1, 1) := dL_law_979_k.2.2.1
theorem dL_law_984 : decode cL_law 984 = .ok (.invokevirtual 128, 3) := dL_law_979_k.2.2.2.1
theorem dL_law_987 : decode cL_law 987 = .ok (.pop, 1) := dL_law_979_k.2.2.2.2.1
theorem dL_law_988 : decode cL_law 988 = .ok (.aload_n 2, 1) := dL_law_979_k.2.2.2.2.2.1
theorem dL_law_989 : decode cL_law 989 = .ok (.invokevirtual 131, 3) := dL_law_979_k.2.2.2.2.2.2.1
theorem dL_law_992 : decode cL_law 992 = .ok (.pop, 1) := dL_law_979_k.2.2.2.2.2.2.2.1
theorem dL_law_993 : decode cL_law 993 = .ok (.goto 104, 3) := dL_law_979_k.2.2.2.2.2.2.2.2.1
theorem dL_law_996 : decode cL_law 996 = .ok (.aload_n 1, 1) := dL_law_979_k.2.2.2.2.2.2.2.2.2.1
theorem dL_law_997 : decode cL_law 997 = .ok (.aload_n 0, 1) := dL_law_979_k.2.2.2.2.2.2.2.2.2.2.1
theorem dL_law_998 : decode cL_law 998 = .ok (.iload 4, 2) := dL_law_979_k.2.2.2.2.2.2.2.2.2.2.2.1
theorem dL_law_1000 : decode cL_law 1000 = .ok (.iconst 1, 1) := dL_law_979_k.2.2.2.2.2.2.2.2.2.2.2.2.1
theorem dL_law_1001 : decode cL_law 1001 = .ok (.iadd, 1) := dL_law_979_k.2.2.2.2.2.2.2.2.2.2.2.2.2.1
theorem dL_law_1002 : decode cL_law 1002 = .ok (.iaload, 1) := dL_law_979_k.2.2.2.2.2.2.2.2.2.2.2.2.2.2.1
theorem dL_law_1003 : decode cL_law 1003 = .ok (.invokevirtual 132, 3) := dL_law_979_k.2.2.2.2.2.2.2.2.2.2.2.2.2.2.2
theorem dL_law_1006_k : decode cL_law 1006 = .ok (.pop, 1) ∧ decode cL_law 1007 = .ok (.aload_n 2, 1) ∧ decode cL_law 1008 = .ok (.aload_n 0, 1) ∧ decode cL_law 1009 = .ok (.iload 4, 2) ∧ decode cL_law 1011 = .ok (.iconst 1, 1) ∧ decode cL_law 1012 = .ok (.iadd, 1) ∧ decode cL_law 1013 = .ok (.iaload, 1) ∧ decode cL_law 1014 = .ok (.invokevirtual 135, 3) ∧ decode cL_law 1017 = .ok (.pop, 1) ∧ decode cL_law 1018 = .ok (.goto 79, 3) ∧ decode cL_law 1021 = .ok (.aload_n 1, 1) ∧ decode cL_law 1022 = .ok (.invokevirtual 136, 3) ∧ decode cL_law 1025 = .ok (.pop, 1) ∧ decode cL_law 1026 = .ok (.aload_n 2, 1) ∧ decode cL_law 1027 = .ok (.invokevirtual 139, 3) ∧ decode cL_law 1030 = .ok (.pop, 1) := by decide +kernel
theorem dL_law_1006 : decode cL_law 1006 = .ok (.pop, 1) := dL_law_1006_k.1
theorem dL_law_1007 : decode cL_law 1007 = .ok (.aload_n 2, 1) := dL_law_1006_k.2.1
theorem dL_law_1008 : decode cL_law 1008 = .ok (.aload_n 0, 1) := dL_law_1006_k.2.2.1
theorem dL_law_1009 : decode cL_law 1009 = .ok (.iload 4, 2) := dL_law_1006_k.2.2.2.1
theorem dL_law_1011 : decode cL_law 1011 = .ok (.iconst 1, 1) := dL_law_1006_k.2.2.2.2.1
theorem dL_law_1012 : decode cL_law 1012 = .ok (.iadd, 1) := dL_law_1006_k.2.2.2.2.2.1
theorem dL_law_1013 : decode cL_law 1013 = .ok (.iaload, 1) := dL_law_1006_k.2.2.2.2.2.2.1
theorem dL_law_1014 : decode cL_law 1014 = .ok (.invokevirtual 135, 3) := dL_law_1006_k.2.2.2.2.2.2.2.1
theorem dL_law_1017 : decode cL_law 1017 = .ok (.pop, 1) := dL_law_1006_k.2.2.2.2.2.2.2.2.1
theorem dL_law_1018 : decode cL_law 1018 = .ok (.goto 79, 3) := dL_law_1006_k.2.2.2.2.2.2.2.2.2.1
theorem dL_law_1021 : decode cL_law 1021 = .ok (.aload_n 1, 1) := dL_law_1006_k.2.2.2.2.2.2.2.2.2.2.1
theorem dL_law_1022 : decode cL_law 1022 = .ok (.invokevirtual 136, 3) := dL_law_1006_k.2.2.2.2.2.2.2.2.2.2.2.1
theorem dL_law_1025 : decode cL_law 1025 = .ok (.pop, 1) := dL_law_1006_k.2.2.2.2.2.2.2.2.2.2.2.2.1
theorem dL_law_1026 : decode cL_law 1026 = .ok (.aload_n 2, 1) := dL_law_1006_k.2.2.2.2.2.2.2.2.2.2.2.2.2.1
theorem dL_law_1027 : decode cL_law 1027 = .ok (.invokevirtual 139, 3) := dL_law_1006_k.2.2.2.2.2.2.2.2.2.2.2.2.2.2.1
theorem dL_law_1030 : decode cL_law 1030 = .ok (.pop, 1) := dL_law_1006_k.2.2.2.2.2.2.2.2.2.2.2.2.2.2.2
theorem dL_law_1031_k : decode cL_law 1031 = .ok (.goto 66, 3) ∧ decode cL_law 1034 = .ok (.aload_n 1, 1) ∧ decode cL_law 1035 = .ok (.invokevirtual 140, 3) ∧ decode cL_law 1038 = .ok (.aload_n 2, 1) ∧ decode cL_law 1039 = .ok (.invokevirtual 143, 3) ∧ decode cL_law 1042 = .ok (.if_icmp .eq 55, 3) ∧ decode cL_law 1045 = .ok (.iconst 0, 1) ∧ decode cL_law 1046 = .ok (.ireturn, 1) ∧ decode cL_law 1047 = .ok (.aload_n 1, 1) ∧ decode cL_law 1048 = .ok (.aload_n 0, 1) ∧ decode cL_law 1049 = .ok (.iload 4, 2) ∧ decode cL_law 1051 = .ok (.iconst 1, 1) ∧ decode cL_law 1052 = .ok (.iadd, 1) ∧ decode cL_law 1053 = .ok (.iaload, 1) ∧ decode cL_law 1054 = .ok (.invokevirtual 144, 3) ∧ decode cL_law 1057 = .ok (.pop, 1) := by decide +kernel
theorem dL_law_1031 : decode cL_law 1031 = .ok (.goto 66, 3) := dL_law_1031_k.1
theorem dL_law_1034 : decode cL_law 1034 = .ok (.aload_n 1, 1) := dL_law_1031_k.2.1
theorem dL_law_1035 : decode cL_law 1035 = .ok (.invokevirtual 140, 3) := dL_law_1031_k.2.2.1
theorem dL_law_1038 : decode cL_law 1038 = .ok (.aload_n 2, 1) := dL_law_1031_k.2.2.2.1
theorem dL_law_1039 : decode cL_law 1039 = .ok (.invokevirtual 143, 3) := dL_law_1031_k.2.2.2.2.1
theorem dL_law_1042 : decode cL_law 1042 = .ok (.if_icmp .eq 55, 3) := dL_law_1031_k.2.2.2.2.2.1
theorem dL_law_1045 : decode cL_law 1045 = .ok (.iconst 0, 1) := dL_law_1031_k.2.2.2.2.2.2.1
theorem dL_law_1046 : decode cL_law 1046 = .ok (.ireturn, 1) := dL_law_1031_k.2.2.2.2.2.2.2.1
theorem dL_law_1047 : decode cL_law 1047 = .ok (.aload_n 1, 1) := dL_law_1031_k.2.2.2.2.2.2.2.2.1
theorem dL_law_1048 : decode cL_law 1048 = .ok (.aload_n 0, 1) := dL_law_1031_k.2.2.2.2.2.2.2.2.2.1
theorem dL_law_1049 : decode cL_law 1049 = .ok (.iload 4, 2) := dL_law_1031_k.2.2.2.2.2.2.2.2.2.2.1
theorem dL_law_1051 : decode cL_law 1051 = .ok (.iconst 1, 1) := dL_law_1031_k.2.2.2.2.2.2.2.2.2.2.2.1
theorem dL_law_1052 : decode cL_law 1052 = .ok (.iadd, 1) := dL_law_1031_k.2.2.2.2.2.2.2.2.2.2.2.2.1
theorem dL_law_1053 : decode cL_law 1053 = .ok (.iaload, 1) := dL_law_1031_k.2.2.2.2.2.2.2.2.2.2.2.2.2.1
theorem dL_law_1054 : decode cL_law 1054 = .ok (.invokevirtual 144, 3) := dL_law_1031_k.2.2.2.2.2.2.2.2.2.2.2.2.2.2.1
theorem dL_law_1057 : decode cL_law 1057 = .ok (.pop, 1) := dL_law_1031_k.2.2.2.2.2.2.2.2.2.2.2.2.2.2.2
theorem dL_law_1058_k : decode cL_law 1058 = .ok (.aload_n 2, 1) ∧ decode cL_law 1059 = .ok (.aload_n 0, 1) ∧ decode cL_law 1060 = .ok (.iload 4, 2) ∧ decode cL_law 1062 = .ok (.iconst 1, 1) ∧ decode cL_law 1063 = .ok (.iadd, 1) ∧ decode cL_law 1064 = .ok (.iaload, 1) ∧ decode cL_law 1065 = .ok (.invokevirtual 148, 3) ∧ decode cL_law 1068 = .ok (.pop, 1) ∧ decode cL_law 1069 = .ok (.goto 28, 3) ∧ decode cL_law 1072 = .ok (.aload_n 1, 1) ∧ decode cL_law 1073 = .ok (.aload_n 0, 1) ∧ decode cL_law 1074 = .ok (.iload 4, 2) ∧ decode cL_law 1076 = .ok (.iconst 1, 1) ∧ decode cL_law 1077 = .ok (.iadd, 1) ∧ decode cL_law 1078 = .ok (.iaload, 1) ∧ decode cL_law 1079 = .ok (.invokevirtual 149, 3) := by decide +kernel
theorem dL_law_1058 : decode cL_law 1058 = .ok (.aload_n 2, 1) := dL_law_1058_k.1
theorem dL_law_1059 : decode cL_law 1059 = .ok (.aload_n 0, 1) := dL_law_1058_k.2.1
theorem dL_law_1060 : decode cL_law 1060 = .ok (.iload 4, 2) := dL_law_1058_k.2.2.1
theorem dL_law_1062 : decode cL_law 1062 = .ok (.iconst 1, 1) := dL_law_1058_k.2.2.2.1
theorem dL_law_1063 : decode cL_law 1063 = .ok (.iadd, 1) := dL_law_1058_k.2.2.2.2.1
theorem dL_law_1064 : decode cL_law 1064 = .ok (.iaload, 1) := dL_law_1058_k.2.2.2.2.2.1
theorem dL_law_1065 : decode cL_law 1065 = .ok (.invokevirtual 148, 3) := dL_law_1058_k.2.2.2.2.2.2.1
theorem dL_law_1068 : decode cL_law 1068 = .ok (.pop, 1) := dL_law_1058_k.2.2.2.2.2.2.2.1
theorem dL_law_1069 : decode cL_law 1069 = .ok (.goto 28, 3) := dL_law_1058_k.2.2.2.2.2.2.2.2.1
theorem dL_law_1072 : decode cL_law 1072 = .ok (.aload_n 1, 1) := dL_law_1058_k.2.2.2.2.2.2.2.2.2.1
theorem dL_law_1073 : decode cL_law 1073 = .ok (.aload_n 0, 1) := dL_law_1058_k.2.2.2.2.2.2.2.2.2.2.1
theorem dL_law_1074 : decode cL_law 1074 = .ok (.iload 4, 2) := dL_law_1058_k.2.2.2.2.2.2.2.2.2.2.2.1
theorem dL_law_1076 : decode cL_law 1076 = .ok (.iconst 1, 1) := dL_law_1058_k.2.2.2.2.2.2.2.2.2.2.2.2.1
theorem dL_law_1077 : decode cL_law 1077 = .ok (.iadd, 1) := dL_law_1058_k.2.2.2.2.2.2.2.2.2.2.2.2.2.1
theorem dL_law_1078 : decode cL_law 1078 = .ok (.iaload, 1) := dL_law_1058_k.2.2.2.2.2.2.2.2.2.2.2.2.2.2.1
theorem dL_law_1079 : decode cL_law 1079 = .ok (.invokevirtual 149, 3) := dL_law_1058_k.2.2.2.2.2.2.2.2.2.2.2.2.2.2.2
theorem dL_law_1082_k : decode cL_law 1082 = .ok (.pop, 1) ∧ decode cL_law 1083 = .ok (.aload_n 2, 1) ∧ decode cL_law 1084 = .ok (.aload_n 0, 1) ∧ decode cL_law 1085 = .ok (.iload 4, 2) ∧ decode cL_law 1087 = .ok (.iconst 1, 1) ∧ decode cL_law 1088 = .ok (.iadd, 1) ∧ decode cL_law 1089 = .ok (.iaload, 1) ∧ decode cL_law 1090 = .ok (.invokevirtual 152, 3) ∧ decode cL_law 1093 = .ok (.pop, 1) ∧ decode cL_law 1094 = .ok (.goto 3, 3) ∧ decode cL_law 1097 = .ok (.iinc 4 4, 3) ∧ decode cL_law 1100 = .ok (.goto (-1077), 3) ∧ decode cL_law 1103 = .ok (.iconst 1, 1) ∧ decode cL_law 1104 = .ok (.ireturn, 1) := by decide +kernel
theorem dL_law_1082 : decode cL_law 1082 = .ok (.pop, 1) := dL_law_1082_k.1
theorem dL_law_1083 : decode cL_law 1083 = .ok (.aload_n 2, 1) := dL_law_1082_k.2.1
theorem dL_law_1084 : decode cL_law 1084 = .ok (.aload_n 0, 1) := dL_law_1082_k.2.2.1
theorem dL_law_1085 : decode cL_law 1085 = .ok (.iload 4, 2) := dL_law_1082_k.2.2.2.1
theorem dL_law_1087 : decode cL_law 1087 = .ok (.iconst 1, 1) := dL_law_1082_k.2.2.2.2.1
theorem dL_law_1088 : decode cL_law 1088 = .ok (.iadd, 1) := dL_law_1082_k.2.2.2.2.2.1
theorem dL_law_1089 : decode cL_law 1089 = .ok (.iaload, 1) := dL_law_1082_k.2.2.2.2.2.2.1
theorem dL_law_1090 : decode cL_law 1090 = .ok (.invokevirtual 152, 3) := dL_law_1082_k.2.2.2.2.2.2.2.1
theorem dL_law_1093 : decode cL_law 1093 = .ok (.pop, 1) := dL_law_1082_k.2.2.2.2.2.2.2.2.1
theorem dL_law_1094 : decode cL_law 1094 = .ok (.goto 3, 3) := dL_law_1082_k.2.2.2.2.2.2.2.2.2.1
theorem dL_law_1097 : decode cL_law 1097 = .ok (.iinc 4 4, 3) := dL_law_1082_k.2.2.2.2.2.2.2.2.2.2.1
theorem dL_law_1100 : decode cL_law 1100 = .ok (.goto (-1077), 3) := dL_law_1082_k.2.2.2.2.2.2.2.2.2.2.2.1
theorem dL_law_1103 : decode cL_law 1103 = .ok (.iconst 1, 1) := dL_law_1082_k.2.2.2.2.2.2.2.2.2.2.2.2.1
theorem dL_law_1104 : decode cL_law 1104 = .ok (.ireturn, 1) := dL_law_1082_k.2.2.2.2.2.2.2.2.2.2.2.2.2
