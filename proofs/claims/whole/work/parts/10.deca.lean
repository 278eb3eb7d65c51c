/-! the instructions of each method, decoded (laid by program out of the printed names) -/
theorem dX0_init_0 : decode cX0_init 0 = .ok (.aload_n 0, 1) := by decide +kernel
theorem dX0_init_1 : decode cX0_init 1 = .ok (.invokespecial 3, 3) := by decide +kernel
theorem dX0_init_4 : decode cX0_init 4 = .ok (.aload_n 0, 1) := by decide +kernel
theorem dX0_init_5 : decode cX0_init 5 = .ok (.bipush 40, 2) := by decide +kernel
theorem dX0_init_7 : decode cX0_init 7 = .ok (.newarray .int, 2) := by decide +kernel
theorem dX0_init_9 : decode cX0_init 9 = .ok (.putfield 11, 3) := by decide +kernel
theorem dX0_init_12 : decode cX0_init 12 = .ok (.return_, 1) := by decide +kernel
theorem dX0_isUnder_0 : decode cX0_isUnder 0 = .ok (.iload_n 0, 1) := by decide +kernel
theorem dX0_isUnder_1 : decode cX0_isUnder 1 = .ok (.istore_n 2, 1) := by decide +kernel
theorem dX0_isUnder_2 : decode cX0_isUnder 2 = .ok (.iconst 0, 1) := by decide +kernel
theorem dX0_isUnder_3 : decode cX0_isUnder 3 = .ok (.istore_n 3, 1) := by decide +kernel
theorem dX0_isUnder_4 : decode cX0_isUnder 4 = .ok (.iload_n 3, 1) := by decide +kernel
theorem dX0_isUnder_5 : decode cX0_isUnder 5 = .ok (.getstatic 15, 3) := by decide +kernel
theorem dX0_isUnder_8 : decode cX0_isUnder 8 = .ok (.arraylength, 1) := by decide +kernel
theorem dX0_isUnder_9 : decode cX0_isUnder 9 = .ok (.if_icmp .ge 19, 3) := by decide +kernel
theorem dX0_isUnder_12 : decode cX0_isUnder 12 = .ok (.iload_n 2, 1) := by decide +kernel
theorem dX0_isUnder_13 : decode cX0_isUnder 13 = .ok (.iload_n 1, 1) := by decide +kernel
theorem dX0_isUnder_14 : decode cX0_isUnder 14 = .ok (.if_icmp .le 14, 3) := by decide +kernel
theorem dX0_isUnder_17 : decode cX0_isUnder 17 = .ok (.iload_n 2, 1) := by decide +kernel
theorem dX0_isUnder_18 : decode cX0_isUnder 18 = .ok (.invokestatic 18, 3) := by decide +kernel
theorem dX0_isUnder_21 : decode cX0_isUnder 21 = .ok (.istore_n 2, 1) := by decide +kernel
theorem dX0_isUnder_22 : decode cX0_isUnder 22 = .ok (.iinc 3 1, 3) := by decide +kernel
theorem dX0_isUnder_25 : decode cX0_isUnder 25 = .ok (.goto (-21), 3) := by decide +kernel
theorem dX0_isUnder_28 : decode cX0_isUnder 28 = .ok (.iload_n 2, 1) := by decide +kernel
theorem dX0_isUnder_29 : decode cX0_isUnder 29 = .ok (.iload_n 1, 1) := by decide +kernel
theorem dX0_isUnder_30 : decode cX0_isUnder 30 = .ok (.if_icmp .ne 7, 3) := by decide +kernel
theorem dX0_isUnder_33 : decode cX0_isUnder 33 = .ok (.iconst 1, 1) := by decide +kernel
theorem dX0_isUnder_34 : decode cX0_isUnder 34 = .ok (.goto 4, 3) := by decide +kernel
theorem dX0_isUnder_37 : decode cX0_isUnder 37 = .ok (.iconst 0, 1) := by decide +kernel
theorem dX0_isUnder_38 : decode cX0_isUnder 38 = .ok (.ireturn, 1) := by decide +kernel
theorem dX0_kindAbove_0 : decode cX0_kindAbove 0 = .ok (.iload_n 0, 1) := by decide +kernel
theorem dX0_kindAbove_1 : decode cX0_kindAbove 1 = .ok (.ifCond .lt 19, 3) := by decide +kernel
theorem dX0_kindAbove_4 : decode cX0_kindAbove 4 = .ok (.iload_n 0, 1) := by decide +kernel
theorem dX0_kindAbove_5 : decode cX0_kindAbove 5 = .ok (.getstatic 15, 3) := by decide +kernel
theorem dX0_kindAbove_8 : decode cX0_kindAbove 8 = .ok (.arraylength, 1) := by decide +kernel
theorem dX0_kindAbove_9 : decode cX0_kindAbove 9 = .ok (.if_icmp .ge 11, 3) := by decide +kernel
theorem dX0_kindAbove_12 : decode cX0_kindAbove 12 = .ok (.getstatic 15, 3) := by decide +kernel
theorem dX0_kindAbove_15 : decode cX0_kindAbove 15 = .ok (.iload_n 0, 1) := by decide +kernel
theorem dX0_kindAbove_16 : decode cX0_kindAbove 16 = .ok (.iaload, 1) := by decide +kernel
theorem dX0_kindAbove_17 : decode cX0_kindAbove 17 = .ok (.goto 4, 3) := by decide +kernel
theorem dX0_kindAbove_20 : decode cX0_kindAbove 20 = .ok (.iconst (-1), 1) := by decide +kernel
theorem dX0_kindAbove_21 : decode cX0_kindAbove 21 = .ok (.ireturn, 1) := by decide +kernel
theorem dX0_forget_0 : decode cX0_forget 0 = .ok (.aload_n 0, 1) := by decide +kernel
theorem dX0_forget_1 : decode cX0_forget 1 = .ok (.iconst 0, 1) := by decide +kernel
theorem dX0_forget_2 : decode cX0_forget 2 = .ok (.putfield 22, 3) := by decide +kernel
theorem dX0_forget_5 : decode cX0_forget 5 = .ok (.return_, 1) := by decide +kernel
theorem dX0_start_0 : decode cX0_start 0 = .ok (.aload_n 0, 1) := by decide +kernel
theorem dX0_start_1 : decode cX0_start 1 = .ok (.aload_n 1, 1) := by decide +kernel
theorem dX0_start_2 : decode cX0_start 2 = .ok (.aload_n 1, 1) := by decide +kernel
theorem dX0_start_3 : decode cX0_start 3 = .ok (.getfield 26, 3) := by decide +kernel
theorem dX0_start_6 : decode cX0_start 6 = .ok (.iload_n 2, 1) := by decide +kernel
theorem dX0_start_7 : decode cX0_start 7 = .ok (.iload_n 3, 1) := by decide +kernel
theorem dX0_start_8 : decode cX0_start 8 = .ok (.iconst 0, 1) := by decide +kernel
theorem dX0_start_9 : decode cX0_start 9 = .ok (.invokestatic 31, 3) := by decide +kernel
theorem dX0_start_12 : decode cX0_start 12 = .ok (.ireturn, 1) := by decide +kernel
theorem dX0_play_0 : decode cX0_play 0 = .ok (.iload_n 2, 1) := by decide +kernel
theorem dX0_play_1 : decode cX0_play 1 = .ok (.iload_n 3, 1) := by decide +kernel
theorem dX0_play_2 : decode cX0_play 2 = .ok (.invokestatic 35, 3) := by decide +kernel
theorem dX0_play_5 : decode cX0_play 5 = .ok (.istore 6, 2) := by decide +kernel
theorem dX0_play_7 : decode cX0_play 7 = .ok (.iload 6, 2) := by decide +kernel
theorem dX0_play_9 : decode cX0_play 9 = .ok (.ifCond .lt 10, 3) := by decide +kernel
theorem dX0_play_12 : decode cX0_play 12 = .ok (.iload 5, 2) := by decide +kernel
theorem dX0_play_14 : decode cX0_play 14 = .ok (.bipush 40, 2) := by decide +kernel
theorem dX0_play_16 : decode cX0_play 16 = .ok (.if_icmp .le 5, 3) := by decide +kernel
theorem dX0_play_19 : decode cX0_play 19 = .ok (.iconst 0, 1) := by decide +kernel
theorem dX0_play_20 : decode cX0_play 20 = .ok (.ireturn, 1) := by decide +kernel
theorem dX0_play_21 : decode cX0_play 21 = .ok (.aload_n 1, 1) := by decide +kernel
theorem dX0_play_22 : decode cX0_play 22 = .ok (.getfield 26, 3) := by decide +kernel
theorem dX0_play_25 : decode cX0_play 25 = .ok (.istore 7, 2) := by decide +kernel
theorem dX0_play_27 : decode cX0_play 27 = .ok (.iload 6, 2) := by decide +kernel
theorem dX0_play_29 : decode cX0_play 29 = .ok (.invokestatic 18, 3) := by decide +kernel
theorem dX0_play_32 : decode cX0_play 32 = .ok (.istore 8, 2) := by decide +kernel
theorem dX0_play_34 : decode cX0_play 34 = .ok (.iload 5, 2) := by decide +kernel
theorem dX0_play_36 : decode cX0_play 36 = .ok (.iconst 1, 1) := by decide +kernel
theorem dX0_play_37 : decode cX0_play 37 = .ok (.iadd, 1) := by decide +kernel
theorem dX0_play_38 : decode cX0_play 38 = .ok (.istore 9, 2) := by decide +kernel
theorem dX0_play_40 : decode cX0_play 40 = .ok (.getstatic 39, 3) := by decide +kernel
theorem dX0_play_43 : decode cX0_play 43 = .ok (.iconst 3, 1) := by decide +kernel
theorem dX0_play_44 : decode cX0_play 44 = .ok (.iload 6, 2) := by decide +kernel
theorem dX0_play_46 : decode cX0_play 46 = .ok (.imul, 1) := by decide +kernel
theorem dX0_play_47 : decode cX0_play 47 = .ok (.iload_n 3, 1) := by decide +kernel
theorem dX0_play_48 : decode cX0_play 48 = .ok (.iadd, 1) := by decide +kernel
theorem dX0_play_49 : decode cX0_play 49 = .ok (.iaload, 1) := by decide +kernel
theorem dX0_play_50 : decode cX0_play 50 = .ok (.istore 10, 2) := by decide +kernel
theorem dX0_play_52 : decode cX0_play 52 = .ok (.aload_n 0, 1) := by decide +kernel
theorem dX0_play_53 : decode cX0_play 53 = .ok (.iload 10, 2) := by decide +kernel
theorem dX0_play_55 : decode cX0_play 55 = .ok (.invokevirtual 42, 3) := by decide +kernel
theorem dX0_play_58 : decode cX0_play 58 = .ok (.iload 10, 2) := by decide +kernel
theorem dX0_play_60 : decode cX0_play 60 = .ok (.lookupswitch 234 #[(10, 76), (11, 87), (12, 102), (20, 133), (21, 148), (30, 173), (40, 190), (41, 208)], 76) := by decide +kernel
theorem dX0_play_136 : decode cX0_play 136 = .ok (.iload 4, 2) := by decide +kernel
theorem dX0_play_138 : decode cX0_play 138 = .ok (.aload_n 1, 1) := by decide +kernel
theorem dX0_play_139 : decode cX0_play 139 = .ok (.getfield 46, 3) := by decide +kernel
theorem dX0_play_142 : decode cX0_play 142 = .ok (.getfield 50, 3) := by decide +kernel
theorem dX0_play_145 : decode cX0_play 145 = .ok (.iadd, 1) := by decide +kernel
theorem dX0_play_146 : decode cX0_play 146 = .ok (.ireturn, 1) := by decide +kernel
theorem dX0_play_147 : decode cX0_play 147 = .ok (.aload_n 0, 1) := by decide +kernel
theorem dX0_play_148 : decode cX0_play 148 = .ok (.aload_n 1, 1) := by decide +kernel
theorem dX0_play_149 : decode cX0_play 149 = .ok (.iload 7, 2) := by decide +kernel
theorem dX0_play_151 : decode cX0_play 151 = .ok (.iconst 0, 1) := by decide +kernel
theorem dX0_play_152 : decode cX0_play 152 = .ok (.iload 4, 2) := by decide +kernel
theorem dX0_play_154 : decode cX0_play 154 = .ok (.iload 9, 2) := by decide +kernel
theorem dX0_play_156 : decode cX0_play 156 = .ok (.invokestatic 31, 3) := by decide +kernel
theorem dX0_play_159 : decode cX0_play 159 = .ok (.iconst 3, 1) := by decide +kernel
theorem dX0_play_160 : decode cX0_play 160 = .ok (.imul, 1) := by decide +kernel
theorem dX0_play_161 : decode cX0_play 161 = .ok (.ireturn, 1) := by decide +kernel
theorem dX0_play_162 : decode cX0_play 162 = .ok (.aload_n 0, 1) := by decide +kernel
theorem dX0_play_163 : decode cX0_play 163 = .ok (.aload_n 1, 1) := by decide +kernel
theorem dX0_play_164 : decode cX0_play 164 = .ok (.iload 7, 2) := by decide +kernel
theorem dX0_play_166 : decode cX0_play 166 = .ok (.iconst 1, 1) := by decide +kernel
theorem dX0_play_167 : decode cX0_play 167 = .ok (.iload 4, 2) := by decide +kernel
theorem dX0_play_169 : decode cX0_play 169 = .ok (.iload 9, 2) := by decide +kernel
theorem dX0_play_171 : decode cX0_play 171 = .ok (.invokestatic 31, 3) := by decide +kernel
theorem dX0_play_174 : decode cX0_play 174 = .ok (.aload_n 0, 1) := by decide +kernel
theorem dX0_play_175 : decode cX0_play 175 = .ok (.aload_n 1, 1) := by decide +kernel
theorem dX0_play_176 : decode cX0_play 176 = .ok (.iload 7, 2) := by decide +kernel
theorem dX0_play_178 : decode cX0_play 178 = .ok (.iconst 0, 1) := by decide +kernel
theorem dX0_play_179 : decode cX0_play 179 = .ok (.iload 4, 2) := by decide +kernel
theorem dX0_play_181 : decode cX0_play 181 = .ok (.aload_n 1, 1) := by decide +kernel
theorem dX0_play_182 : decode cX0_play 182 = .ok (.getfield 55, 3) := by decide +kernel
theorem dX0_play_185 : decode cX0_play 185 = .ok (.iadd, 1) := by decide +kernel
theorem dX0_play_186 : decode cX0_play 186 = .ok (.iload 9, 2) := by decide +kernel
theorem dX0_play_188 : decode cX0_play 188 = .ok (.invokestatic 31, 3) := by decide +kernel
theorem dX0_play_191 : decode cX0_play 191 = .ok (.isub, 1) := by decide +kernel
theorem dX0_play_192 : decode cX0_play 192 = .ok (.ireturn, 1) := by decide +kernel
theorem dX0_play_193 : decode cX0_play 193 = .ok (.aload_n 0, 1) := by decide +kernel
theorem dX0_play_194 : decode cX0_play 194 = .ok (.aload_n 1, 1) := by decide +kernel
theorem dX0_play_195 : decode cX0_play 195 = .ok (.iload 8, 2) := by decide +kernel
theorem dX0_play_197 : decode cX0_play 197 = .ok (.iconst 0, 1) := by decide +kernel
theorem dX0_play_198 : decode cX0_play 198 = .ok (.iload 4, 2) := by decide +kernel
theorem dX0_play_200 : decode cX0_play 200 = .ok (.iload 9, 2) := by decide +kernel
theorem dX0_play_202 : decode cX0_play 202 = .ok (.invokestatic 31, 3) := by decide +kernel
theorem dX0_play_205 : decode cX0_play 205 = .ok (.iconst 5, 1) := by decide +kernel
theorem dX0_play_206 : decode cX0_play 206 = .ok (.ixor, 1) := by decide +kernel
theorem dX0_play_207 : decode cX0_play 207 = .ok (.ireturn, 1) := by decide +kernel
theorem dX0_play_208 : decode cX0_play 208 = .ok (.aload_n 0, 1) := by decide +kernel
theorem dX0_play_209 : decode cX0_play 209 = .ok (.aload_n 1, 1) := by decide +kernel
theorem dX0_play_210 : decode cX0_play 210 = .ok (.iload 8, 2) := by decide +kernel
theorem dX0_play_212 : decode cX0_play 212 = .ok (.iconst 2, 1) := by decide +kernel
theorem dX0_play_213 : decode cX0_play 213 = .ok (.iload 4, 2) := by decide +kernel
theorem dX0_play_215 : decode cX0_play 215 = .ok (.iload 9, 2) := by decide +kernel
theorem dX0_play_217 : decode cX0_play 217 = .ok (.invokestatic 31, 3) := by decide +kernel
theorem dX0_play_220 : decode cX0_play 220 = .ok (.aload_n 0, 1) := by decide +kernel
theorem dX0_play_221 : decode cX0_play 221 = .ok (.aload_n 1, 1) := by decide +kernel
theorem dX0_play_222 : decode cX0_play 222 = .ok (.iload 7, 2) := by decide +kernel
theorem dX0_play_224 : decode cX0_play 224 = .ok (.iconst 0, 1) := by decide +kernel
theorem dX0_play_225 : decode cX0_play 225 = .ok (.iconst 0, 1) := by decide +kernel
theorem dX0_play_226 : decode cX0_play 226 = .ok (.iload 9, 2) := by decide +kernel
theorem dX0_play_228 : decode cX0_play 228 = .ok (.invokestatic 31, 3) := by decide +kernel
theorem dX0_play_231 : decode cX0_play 231 = .ok (.iadd, 1) := by decide +kernel
theorem dX0_play_232 : decode cX0_play 232 = .ok (.ireturn, 1) := by decide +kernel
theorem dX0_play_233 : decode cX0_play 233 = .ok (.aload_n 0, 1) := by decide +kernel
theorem dX0_play_234 : decode cX0_play 234 = .ok (.aload_n 1, 1) := by decide +kernel
theorem dX0_play_235 : decode cX0_play 235 = .ok (.iload 8, 2) := by decide +kernel
theorem dX0_play_237 : decode cX0_play 237 = .ok (.iconst 1, 1) := by decide +kernel
theorem dX0_play_238 : decode cX0_play 238 = .ok (.iload 4, 2) := by decide +kernel
theorem dX0_play_240 : decode cX0_play 240 = .ok (.iconst 1, 1) := by decide +kernel
theorem dX0_play_241 : decode cX0_play 241 = .ok (.isub, 1) := by decide +kernel
theorem dX0_play_242 : decode cX0_play 242 = .ok (.iload 9, 2) := by decide +kernel
theorem dX0_play_244 : decode cX0_play 244 = .ok (.invokestatic 31, 3) := by decide +kernel
theorem dX0_play_247 : decode cX0_play 247 = .ok (.iconst 2, 1) := by decide +kernel
theorem dX0_play_248 : decode cX0_play 248 = .ok (.imul, 1) := by decide +kernel
theorem dX0_play_249 : decode cX0_play 249 = .ok (.ireturn, 1) := by decide +kernel
theorem dX0_play_250 : decode cX0_play 250 = .ok (.aload_n 0, 1) := by decide +kernel
theorem dX0_play_251 : decode cX0_play 251 = .ok (.aload_n 1, 1) := by decide +kernel
theorem dX0_play_252 : decode cX0_play 252 = .ok (.iload 8, 2) := by decide +kernel
theorem dX0_play_254 : decode cX0_play 254 = .ok (.iconst 0, 1) := by decide +kernel
theorem dX0_play_255 : decode cX0_play 255 = .ok (.iload 4, 2) := by decide +kernel
theorem dX0_play_257 : decode cX0_play 257 = .ok (.iload 9, 2) := by decide +kernel
theorem dX0_play_259 : decode cX0_play 259 = .ok (.invokestatic 31, 3) := by decide +kernel
theorem dX0_play_262 : decode cX0_play 262 = .ok (.aload_n 1, 1) := by decide +kernel
theorem dX0_play_263 : decode cX0_play 263 = .ok (.getfield 55, 3) := by decide +kernel
theorem dX0_play_266 : decode cX0_play 266 = .ok (.iadd, 1) := by decide +kernel
theorem dX0_play_267 : decode cX0_play 267 = .ok (.ireturn, 1) := by decide +kernel
theorem dX0_play_268 : decode cX0_play 268 = .ok (.aload_n 0, 1) := by decide +kernel
theorem dX0_play_269 : decode cX0_play 269 = .ok (.aload_n 1, 1) := by decide +kernel
theorem dX0_play_270 : decode cX0_play 270 = .ok (.iload 8, 2) := by decide +kernel
theorem dX0_play_272 : decode cX0_play 272 = .ok (.iconst 1, 1) := by decide +kernel
theorem dX0_play_273 : decode cX0_play 273 = .ok (.iload 4, 2) := by decide +kernel
theorem dX0_play_275 : decode cX0_play 275 = .ok (.iload 9, 2) := by decide +kernel
theorem dX0_play_277 : decode cX0_play 277 = .ok (.invokestatic 31, 3) := by decide +kernel
theorem dX0_play_280 : decode cX0_play 280 = .ok (.aload_n 0, 1) := by decide +kernel
theorem dX0_play_281 : decode cX0_play 281 = .ok (.aload_n 1, 1) := by decide +kernel
theorem dX0_play_282 : decode cX0_play 282 = .ok (.iload 8, 2) := by decide +kernel
theorem dX0_play_284 : decode cX0_play 284 = .ok (.iconst 0, 1) := by decide +kernel
theorem dX0_play_285 : decode cX0_play 285 = .ok (.iload 4, 2) := by decide +kernel
theorem dX0_play_287 : decode cX0_play 287 = .ok (.iload 9, 2) := by decide +kernel
theorem dX0_play_289 : decode cX0_play 289 = .ok (.invokestatic 31, 3) := by decide +kernel
theorem dX0_play_292 : decode cX0_play 292 = .ok (.isub, 1) := by decide +kernel
theorem dX0_play_293 : decode cX0_play 293 = .ok (.ireturn, 1) := by decide +kernel
theorem dX0_play_294 : decode cX0_play 294 = .ok (.iconst 0, 1) := by decide +kernel
theorem dX0_play_295 : decode cX0_play 295 = .ok (.ireturn, 1) := by decide +kernel
theorem dX0_kindWithBody_0 : decode cX0_kindWithBody 0 = .ok (.iload_n 0, 1) := by decide +kernel
theorem dX0_kindWithBody_1 : decode cX0_kindWithBody 1 = .ok (.istore_n 2, 1) := by decide +kernel
theorem dX0_kindWithBody_2 : decode cX0_kindWithBody 2 = .ok (.iconst 0, 1) := by decide +kernel
theorem dX0_kindWithBody_3 : decode cX0_kindWithBody 3 = .ok (.istore_n 3, 1) := by decide +kernel
theorem dX0_kindWithBody_4 : decode cX0_kindWithBody 4 = .ok (.iload_n 3, 1) := by decide +kernel
theorem dX0_kindWithBody_5 : decode cX0_kindWithBody 5 = .ok (.getstatic 15, 3) := by decide +kernel
theorem dX0_kindWithBody_8 : decode cX0_kindWithBody 8 = .ok (.arraylength, 1) := by decide +kernel
theorem dX0_kindWithBody_9 : decode cX0_kindWithBody 9 = .ok (.if_icmp .ge 50, 3) := by decide +kernel
theorem dX0_kindWithBody_12 : decode cX0_kindWithBody 12 = .ok (.iload_n 2, 1) := by decide +kernel
theorem dX0_kindWithBody_13 : decode cX0_kindWithBody 13 = .ok (.ifCond .lt 46, 3) := by decide +kernel
theorem dX0_kindWithBody_16 : decode cX0_kindWithBody 16 = .ok (.iconst 3, 1) := by decide +kernel
theorem dX0_kindWithBody_17 : decode cX0_kindWithBody 17 = .ok (.iload_n 2, 1) := by decide +kernel
theorem dX0_kindWithBody_18 : decode cX0_kindWithBody 18 = .ok (.imul, 1) := by decide +kernel
theorem dX0_kindWithBody_19 : decode cX0_kindWithBody 19 = .ok (.iload_n 1, 1) := by decide +kernel
theorem dX0_kindWithBody_20 : decode cX0_kindWithBody 20 = .ok (.iadd, 1) := by decide +kernel
theorem dX0_kindWithBody_21 : decode cX0_kindWithBody 21 = .ok (.istore 4, 2) := by decide +kernel
theorem dX0_kindWithBody_23 : decode cX0_kindWithBody 23 = .ok (.iload 4, 2) := by decide +kernel
theorem dX0_kindWithBody_25 : decode cX0_kindWithBody 25 = .ok (.ifCond .lt 23, 3) := by decide +kernel
theorem dX0_kindWithBody_28 : decode cX0_kindWithBody 28 = .ok (.iload 4, 2) := by decide +kernel
theorem dX0_kindWithBody_30 : decode cX0_kindWithBody 30 = .ok (.getstatic 39, 3) := by decide +kernel
theorem dX0_kindWithBody_33 : decode cX0_kindWithBody 33 = .ok (.arraylength, 1) := by decide +kernel
theorem dX0_kindWithBody_34 : decode cX0_kindWithBody 34 = .ok (.if_icmp .ge 14, 3) := by decide +kernel
theorem dX0_kindWithBody_37 : decode cX0_kindWithBody 37 = .ok (.getstatic 39, 3) := by decide +kernel
theorem dX0_kindWithBody_40 : decode cX0_kindWithBody 40 = .ok (.iload 4, 2) := by decide +kernel
theorem dX0_kindWithBody_42 : decode cX0_kindWithBody 42 = .ok (.iaload, 1) := by decide +kernel
theorem dX0_kindWithBody_43 : decode cX0_kindWithBody 43 = .ok (.ifCond .eq 5, 3) := by decide +kernel
theorem dX0_kindWithBody_46 : decode cX0_kindWithBody 46 = .ok (.iload_n 2, 1) := by decide +kernel
theorem dX0_kindWithBody_47 : decode cX0_kindWithBody 47 = .ok (.ireturn, 1) := by decide +kernel
theorem dX0_kindWithBody_48 : decode cX0_kindWithBody 48 = .ok (.iload_n 2, 1) := by decide +kernel
theorem dX0_kindWithBody_49 : decode cX0_kindWithBody 49 = .ok (.invokestatic 18, 3) := by decide +kernel
theorem dX0_kindWithBody_52 : decode cX0_kindWithBody 52 = .ok (.istore_n 2, 1) := by decide +kernel
theorem dX0_kindWithBody_53 : decode cX0_kindWithBody 53 = .ok (.iinc 3 1, 3) := by decide +kernel
theorem dX0_kindWithBody_56 : decode cX0_kindWithBody 56 = .ok (.goto (-52), 3) := by decide +kernel
theorem dX0_kindWithBody_59 : decode cX0_kindWithBody 59 = .ok (.iconst (-1), 1) := by decide +kernel
theorem dX0_kindWithBody_60 : decode cX0_kindWithBody 60 = .ok (.ireturn, 1) := by decide +kernel
theorem dX0_note_0 : decode cX0_note 0 = .ok (.aload_n 0, 1) := by decide +kernel
theorem dX0_note_1 : decode cX0_note 1 = .ok (.getfield 22, 3) := by decide +kernel
theorem dX0_note_4 : decode cX0_note 4 = .ok (.ifCond .lt 25, 3) := by decide +kernel
theorem dX0_note_7 : decode cX0_note 7 = .ok (.aload_n 0, 1) := by decide +kernel
theorem dX0_note_8 : decode cX0_note 8 = .ok (.getfield 22, 3) := by decide +kernel
theorem dX0_note_11 : decode cX0_note 11 = .ok (.aload_n 0, 1) := by decide +kernel
theorem dX0_note_12 : decode cX0_note 12 = .ok (.getfield 11, 3) := by decide +kernel
theorem dX0_note_15 : decode cX0_note 15 = .ok (.arraylength, 1) := by decide +kernel
theorem dX0_note_16 : decode cX0_note 16 = .ok (.if_icmp .ge 13, 3) := by decide +kernel
theorem dX0_note_19 : decode cX0_note 19 = .ok (.aload_n 0, 1) := by decide +kernel
theorem dX0_note_20 : decode cX0_note 20 = .ok (.getfield 11, 3) := by decide +kernel
theorem dX0_note_23 : decode cX0_note 23 = .ok (.aload_n 0, 1) := by decide +kernel
theorem dX0_note_24 : decode cX0_note 24 = .ok (.getfield 22, 3) := by decide +kernel
theorem dX0_note_27 : decode cX0_note 27 = .ok (.iload_n 1, 1) := by decide +kernel
theorem dX0_note_28 : decode cX0_note 28 = .ok (.iastore, 1) := by decide +kernel
theorem dX0_note_29 : decode cX0_note 29 = .ok (.aload_n 0, 1) := by decide +kernel
theorem dX0_note_30 : decode cX0_note 30 = .ok (.dup, 1) := by decide +kernel
theorem dX0_note_31 : decode cX0_note 31 = .ok (.getfield 22, 3) := by decide +kernel
theorem dX0_note_34 : decode cX0_note 34 = .ok (.iconst 1, 1) := by decide +kernel
theorem dX0_note_35 : decode cX0_note 35 = .ok (.iadd, 1) := by decide +kernel
theorem dX0_note_36 : decode cX0_note 36 = .ok (.putfield 22, 3) := by decide +kernel
theorem dX0_note_39 : decode cX0_note 39 = .ok (.return_, 1) := by decide +kernel
theorem dX1_init_0 : decode cX1_init 0 = .ok (.aload_n 0, 1) := by decide +kernel
theorem dX1_init_1 : decode cX1_init 1 = .ok (.invokespecial 3, 3) := by decide +kernel
theorem dX1_init_4 : decode cX1_init 4 = .ok (.aload_n 0, 1) := by decide +kernel
theorem dX1_init_5 : decode cX1_init 5 = .ok (.bipush 8, 2) := by decide +kernel
theorem dX1_init_7 : decode cX1_init 7 = .ok (.newarray .int, 2) := by decide +kernel
theorem dX1_init_9 : decode cX1_init 9 = .ok (.putfield 9, 3) := by decide +kernel
theorem dX1_init_12 : decode cX1_init 12 = .ok (.aload_n 0, 1) := by decide +kernel
theorem dX1_init_13 : decode cX1_init 13 = .ok (.bipush 8, 2) := by decide +kernel
theorem dX1_init_15 : decode cX1_init 15 = .ok (.newarray .int, 2) := by decide +kernel
theorem dX1_init_17 : decode cX1_init 17 = .ok (.putfield 15, 3) := by decide +kernel
theorem dX1_init_20 : decode cX1_init 20 = .ok (.aload_n 0, 1) := by decide +kernel
theorem dX1_init_21 : decode cX1_init 21 = .ok (.bipush 8, 2) := by decide +kernel
theorem dX1_init_23 : decode cX1_init 23 = .ok (.newarray .int, 2) := by decide +kernel
theorem dX1_init_25 : decode cX1_init 25 = .ok (.putfield 18, 3) := by decide +kernel
theorem dX1_init_28 : decode cX1_init 28 = .ok (.return_, 1) := by decide +kernel
theorem dX1_clear_0 : decode cX1_clear 0 = .ok (.aload_n 0, 1) := by decide +kernel
theorem dX1_clear_1 : decode cX1_clear 1 = .ok (.iconst 0, 1) := by decide +kernel
theorem dX1_clear_2 : decode cX1_clear 2 = .ok (.putfield 21, 3) := by decide +kernel
theorem dX1_clear_5 : decode cX1_clear 5 = .ok (.return_, 1) := by decide +kernel
theorem dX1_put_0 : decode cX1_put 0 = .ok (.aload_n 0, 1) := by decide +kernel
theorem dX1_put_1 : decode cX1_put 1 = .ok (.getfield 21, 3) := by decide +kernel
theorem dX1_put_4 : decode cX1_put 4 = .ok (.aload_n 0, 1) := by decide +kernel
theorem dX1_put_5 : decode cX1_put 5 = .ok (.getfield 9, 3) := by decide +kernel
theorem dX1_put_8 : decode cX1_put 8 = .ok (.arraylength, 1) := by decide +kernel
theorem dX1_put_9 : decode cX1_put 9 = .ok (.if_icmp .lt 7, 3) := by decide +kernel
theorem dX1_put_12 : decode cX1_put 12 = .ok (.aload_n 0, 1) := by decide +kernel
theorem dX1_put_13 : decode cX1_put 13 = .ok (.invokevirtual 25, 3) := by decide +kernel
theorem dX1_put_16 : decode cX1_put 16 = .ok (.aload_n 0, 1) := by decide +kernel
theorem dX1_put_17 : decode cX1_put 17 = .ok (.getfield 21, 3) := by decide +kernel
theorem dX1_put_20 : decode cX1_put 20 = .ok (.istore_n 3, 1) := by decide +kernel
theorem dX1_put_21 : decode cX1_put 21 = .ok (.iload_n 3, 1) := by decide +kernel
theorem dX1_put_22 : decode cX1_put 22 = .ok (.ifCond .le 66, 3) := by decide +kernel
theorem dX1_put_25 : decode cX1_put 25 = .ok (.iload_n 2, 1) := by decide +kernel
theorem dX1_put_26 : decode cX1_put 26 = .ok (.aload_n 0, 1) := by decide +kernel
theorem dX1_put_27 : decode cX1_put 27 = .ok (.getfield 9, 3) := by decide +kernel
theorem dX1_put_30 : decode cX1_put 30 = .ok (.iload_n 3, 1) := by decide +kernel
theorem dX1_put_31 : decode cX1_put 31 = .ok (.iconst 1, 1) := by decide +kernel
theorem dX1_put_32 : decode cX1_put 32 = .ok (.isub, 1) := by decide +kernel
theorem dX1_put_33 : decode cX1_put 33 = .ok (.iaload, 1) := by decide +kernel
theorem dX1_put_34 : decode cX1_put 34 = .ok (.invokestatic 28, 3) := by decide +kernel
theorem dX1_put_37 : decode cX1_put 37 = .ok (.ifCond .eq 51, 3) := by decide +kernel
theorem dX1_put_40 : decode cX1_put 40 = .ok (.aload_n 0, 1) := by decide +kernel
theorem dX1_put_41 : decode cX1_put 41 = .ok (.getfield 9, 3) := by decide +kernel
theorem dX1_put_44 : decode cX1_put 44 = .ok (.iload_n 3, 1) := by decide +kernel
theorem dX1_put_45 : decode cX1_put 45 = .ok (.aload_n 0, 1) := by decide +kernel
theorem dX1_put_46 : decode cX1_put 46 = .ok (.getfield 9, 3) := by decide +kernel
theorem dX1_put_49 : decode cX1_put 49 = .ok (.iload_n 3, 1) := by decide +kernel
theorem dX1_put_50 : decode cX1_put 50 = .ok (.iconst 1, 1) := by decide +kernel
theorem dX1_put_51 : decode cX1_put 51 = .ok (.isub, 1) := by decide +kernel
theorem dX1_put_52 : decode cX1_put 52 = .ok (.iaload, 1) := by decide +kernel
theorem dX1_put_53 : decode cX1_put 53 = .ok (.iastore, 1) := by decide +kernel
theorem dX1_put_54 : decode cX1_put 54 = .ok (.aload_n 0, 1) := by decide +kernel
theorem dX1_put_55 : decode cX1_put 55 = .ok (.getfield 15, 3) := by decide +kernel
theorem dX1_put_58 : decode cX1_put 58 = .ok (.iload_n 3, 1) := by decide +kernel
theorem dX1_put_59 : decode cX1_put 59 = .ok (.aload_n 0, 1) := by decide +kernel
theorem dX1_put_60 : decode cX1_put 60 = .ok (.getfield 15, 3) := by decide +kernel
theorem dX1_put_63 : decode cX1_put 63 = .ok (.iload_n 3, 1) := by decide +kernel
theorem dX1_put_64 : decode cX1_put 64 = .ok (.iconst 1, 1) := by decide +kernel
theorem dX1_put_65 : decode cX1_put 65 = .ok (.isub, 1) := by decide +kernel
theorem dX1_put_66 : decode cX1_put 66 = .ok (.iaload, 1) := by decide +kernel
theorem dX1_put_67 : decode cX1_put 67 = .ok (.iastore, 1) := by decide +kernel
theorem dX1_put_68 : decode cX1_put 68 = .ok (.aload_n 0, 1) := by decide +kernel
theorem dX1_put_69 : decode cX1_put 69 = .ok (.getfield 18, 3) := by decide +kernel
theorem dX1_put_72 : decode cX1_put 72 = .ok (.iload_n 3, 1) := by decide +kernel
theorem dX1_put_73 : decode cX1_put 73 = .ok (.aload_n 0, 1) := by decide +kernel
theorem dX1_put_74 : decode cX1_put 74 = .ok (.getfield 18, 3) := by decide +kernel
theorem dX1_put_77 : decode cX1_put 77 = .ok (.iload_n 3, 1) := by decide +kernel
theorem dX1_put_78 : decode cX1_put 78 = .ok (.iconst 1, 1) := by decide +kernel
theorem dX1_put_79 : decode cX1_put 79 = .ok (.isub, 1) := by decide +kernel
theorem dX1_put_80 : decode cX1_put 80 = .ok (.iaload, 1) := by decide +kernel
theorem dX1_put_81 : decode cX1_put 81 = .ok (.iastore, 1) := by decide +kernel
theorem dX1_put_82 : decode cX1_put 82 = .ok (.iinc 3 (-1), 3) := by decide +kernel
theorem dX1_put_85 : decode cX1_put 85 = .ok (.goto (-64), 3) := by decide +kernel
theorem dX1_put_88 : decode cX1_put 88 = .ok (.aload_n 0, 1) := by decide +kernel
theorem dX1_put_89 : decode cX1_put 89 = .ok (.getfield 9, 3) := by decide +kernel
theorem dX1_put_92 : decode cX1_put 92 = .ok (.iload_n 3, 1) := by decide +kernel
theorem dX1_put_93 : decode cX1_put 93 = .ok (.iload_n 2, 1) := by decide +kernel
theorem dX1_put_94 : decode cX1_put 94 = .ok (.iastore, 1) := by decide +kernel
theorem dX1_put_95 : decode cX1_put 95 = .ok (.aload_n 0, 1) := by decide +kernel
theorem dX1_put_96 : decode cX1_put 96 = .ok (.getfield 15, 3) := by decide +kernel
theorem dX1_put_99 : decode cX1_put 99 = .ok (.iload_n 3, 1) := by decide +kernel
theorem dX1_put_100 : decode cX1_put 100 = .ok (.aload_n 1, 1) := by decide +kernel
theorem dX1_put_101 : decode cX1_put 101 = .ok (.aload_n 1, 1) := by decide +kernel
theorem dX1_put_102 : decode cX1_put 102 = .ok (.getfield 32, 3) := by decide +kernel
theorem dX1_put_105 : decode cX1_put 105 = .ok (.iload_n 2, 1) := by decide +kernel
theorem dX1_put_106 : decode cX1_put 106 = .ok (.invokevirtual 37, 3) := by decide +kernel
theorem dX1_put_109 : decode cX1_put 109 = .ok (.iastore, 1) := by decide +kernel
theorem dX1_put_110 : decode cX1_put 110 = .ok (.aload_n 0, 1) := by decide +kernel
theorem dX1_put_111 : decode cX1_put 111 = .ok (.getfield 18, 3) := by decide +kernel
theorem dX1_put_114 : decode cX1_put 114 = .ok (.iload_n 3, 1) := by decide +kernel
theorem dX1_put_115 : decode cX1_put 115 = .ok (.aload_n 1, 1) := by decide +kernel
theorem dX1_put_116 : decode cX1_put 116 = .ok (.aload_n 1, 1) := by decide +kernel
theorem dX1_put_117 : decode cX1_put 117 = .ok (.getfield 41, 3) := by decide +kernel
theorem dX1_put_120 : decode cX1_put 120 = .ok (.iload_n 2, 1) := by decide +kernel
theorem dX1_put_121 : decode cX1_put 121 = .ok (.invokevirtual 37, 3) := by decide +kernel
theorem dX1_put_124 : decode cX1_put 124 = .ok (.iastore, 1) := by decide +kernel
theorem dX1_put_125 : decode cX1_put 125 = .ok (.aload_n 0, 1) := by decide +kernel
theorem dX1_put_126 : decode cX1_put 126 = .ok (.dup, 1) := by decide +kernel
theorem dX1_put_127 : decode cX1_put 127 = .ok (.getfield 21, 3) := by decide +kernel
theorem dX1_put_130 : decode cX1_put 130 = .ok (.iconst 1, 1) := by decide +kernel
theorem dX1_put_131 : decode cX1_put 131 = .ok (.iadd, 1) := by decide +kernel
theorem dX1_put_132 : decode cX1_put 132 = .ok (.putfield 21, 3) := by decide +kernel
theorem dX1_put_135 : decode cX1_put 135 = .ok (.return_, 1) := by decide +kernel
theorem dX1_widen_0 : decode cX1_widen 0 = .ok (.aload_n 0, 1) := by decide +kernel
theorem dX1_widen_1 : decode cX1_widen 1 = .ok (.aload_n 0, 1) := by decide +kernel
theorem dX1_widen_2 : decode cX1_widen 2 = .ok (.getfield 9, 3) := by decide +kernel
theorem dX1_widen_5 : decode cX1_widen 5 = .ok (.iconst 2, 1) := by decide +kernel
theorem dX1_widen_6 : decode cX1_widen 6 = .ok (.aload_n 0, 1) := by decide +kernel
theorem dX1_widen_7 : decode cX1_widen 7 = .ok (.getfield 9, 3) := by decide +kernel
theorem dX1_widen_10 : decode cX1_widen 10 = .ok (.arraylength, 1) := by decide +kernel
theorem dX1_widen_11 : decode cX1_widen 11 = .ok (.imul, 1) := by decide +kernel
theorem dX1_widen_12 : decode cX1_widen 12 = .ok (.invokestatic 44, 3) := by decide +kernel
theorem dX1_widen_15 : decode cX1_widen 15 = .ok (.putfield 9, 3) := by decide +kernel
theorem dX1_widen_18 : decode cX1_widen 18 = .ok (.aload_n 0, 1) := by decide +kernel
theorem dX1_widen_19 : decode cX1_widen 19 = .ok (.aload_n 0, 1) := by decide +kernel
theorem dX1_widen_20 : decode cX1_widen 20 = .ok (.getfield 15, 3) := by decide +kernel
theorem dX1_widen_23 : decode cX1_widen 23 = .ok (.aload_n 0, 1) := by decide +kernel
theorem dX1_widen_24 : decode cX1_widen 24 = .ok (.getfield 9, 3) := by decide +kernel
theorem dX1_widen_27 : decode cX1_widen 27 = .ok (.arraylength, 1) := by decide +kernel
theorem dX1_widen_28 : decode cX1_widen 28 = .ok (.invokestatic 44, 3) := by decide +kernel
theorem dX1_widen_31 : decode cX1_widen 31 = .ok (.putfield 15, 3) := by decide +kernel
theorem dX1_widen_34 : decode cX1_widen 34 = .ok (.aload_n 0, 1) := by decide +kernel
theorem dX1_widen_35 : decode cX1_widen 35 = .ok (.aload_n 0, 1) := by decide +kernel
theorem dX1_widen_36 : decode cX1_widen 36 = .ok (.getfield 18, 3) := by decide +kernel
theorem dX1_widen_39 : decode cX1_widen 39 = .ok (.aload_n 0, 1) := by decide +kernel
theorem dX1_widen_40 : decode cX1_widen 40 = .ok (.getfield 9, 3) := by decide +kernel
theorem dX1_widen_43 : decode cX1_widen 43 = .ok (.arraylength, 1) := by decide +kernel
theorem dX1_widen_44 : decode cX1_widen 44 = .ok (.invokestatic 44, 3) := by decide +kernel
theorem dX1_widen_47 : decode cX1_widen 47 = .ok (.putfield 18, 3) := by decide +kernel
theorem dX1_widen_50 : decode cX1_widen 50 = .ok (.return_, 1) := by decide +kernel
theorem dX1_comesAhead_0 : decode cX1_comesAhead 0 = .ok (.iload_n 0, 1) := by decide +kernel
theorem dX1_comesAhead_1 : decode cX1_comesAhead 1 = .ok (.iload_n 1, 1) := by decide +kernel
theorem dX1_comesAhead_2 : decode cX1_comesAhead 2 = .ok (.ixor, 1) := by decide +kernel
theorem dX1_comesAhead_3 : decode cX1_comesAhead 3 = .ok (.istore_n 2, 1) := by decide +kernel
theorem dX1_comesAhead_4 : decode cX1_comesAhead 4 = .ok (.iload_n 0, 1) := by decide +kernel
theorem dX1_comesAhead_5 : decode cX1_comesAhead 5 = .ok (.iload_n 2, 1) := by decide +kernel
theorem dX1_comesAhead_6 : decode cX1_comesAhead 6 = .ok (.iand, 1) := by decide +kernel
theorem dX1_comesAhead_7 : decode cX1_comesAhead 7 = .ok (.iload_n 2, 1) := by decide +kernel
theorem dX1_comesAhead_8 : decode cX1_comesAhead 8 = .ok (.ineg, 1) := by decide +kernel
theorem dX1_comesAhead_9 : decode cX1_comesAhead 9 = .ok (.iand, 1) := by decide +kernel
theorem dX1_comesAhead_10 : decode cX1_comesAhead 10 = .ok (.ifCond .eq 7, 3) := by decide +kernel
theorem dX1_comesAhead_13 : decode cX1_comesAhead 13 = .ok (.iconst 1, 1) := by decide +kernel
theorem dX1_comesAhead_14 : decode cX1_comesAhead 14 = .ok (.goto 4, 3) := by decide +kernel
theorem dX1_comesAhead_17 : decode cX1_comesAhead 17 = .ok (.iconst 0, 1) := by decide +kernel
theorem dX1_comesAhead_18 : decode cX1_comesAhead 18 = .ok (.ireturn, 1) := by decide +kernel
theorem dX1_placeOf_0 : decode cX1_placeOf 0 = .ok (.iconst 0, 1) := by decide +kernel
theorem dX1_placeOf_1 : decode cX1_placeOf 1 = .ok (.istore_n 2, 1) := by decide +kernel
theorem dX1_placeOf_2 : decode cX1_placeOf 2 = .ok (.iload_n 2, 1) := by decide +kernel
theorem dX1_placeOf_3 : decode cX1_placeOf 3 = .ok (.aload_n 0, 1) := by decide +kernel
theorem dX1_placeOf_4 : decode cX1_placeOf 4 = .ok (.getfield 21, 3) := by decide +kernel
theorem dX1_placeOf_7 : decode cX1_placeOf 7 = .ok (.if_icmp .ge 21, 3) := by decide +kernel
theorem dX1_placeOf_10 : decode cX1_placeOf 10 = .ok (.aload_n 0, 1) := by decide +kernel
theorem dX1_placeOf_11 : decode cX1_placeOf 11 = .ok (.getfield 9, 3) := by decide +kernel
theorem dX1_placeOf_14 : decode cX1_placeOf 14 = .ok (.iload_n 2, 1) := by decide +kernel
theorem dX1_placeOf_15 : decode cX1_placeOf 15 = .ok (.iaload, 1) := by decide +kernel
theorem dX1_placeOf_16 : decode cX1_placeOf 16 = .ok (.iload_n 1, 1) := by decide +kernel
theorem dX1_placeOf_17 : decode cX1_placeOf 17 = .ok (.if_icmp .ne 5, 3) := by decide +kernel
theorem dX1_placeOf_20 : decode cX1_placeOf 20 = .ok (.iload_n 2, 1) := by decide +kernel
theorem dX1_placeOf_21 : decode cX1_placeOf 21 = .ok (.ireturn, 1) := by decide +kernel
theorem dX1_placeOf_22 : decode cX1_placeOf 22 = .ok (.iinc 2 1, 3) := by decide +kernel
theorem dX1_placeOf_25 : decode cX1_placeOf 25 = .ok (.goto (-23), 3) := by decide +kernel
theorem dX1_placeOf_28 : decode cX1_placeOf 28 = .ok (.iconst (-1), 1) := by decide +kernel
theorem dX1_placeOf_29 : decode cX1_placeOf 29 = .ok (.ireturn, 1) := by decide +kernel
theorem dX1_costAt_0 : decode cX1_costAt 0 = .ok (.aload_n 0, 1) := by decide +kernel
theorem dX1_costAt_1 : decode cX1_costAt 1 = .ok (.getfield 15, 3) := by decide +kernel
theorem dX1_costAt_4 : decode cX1_costAt 4 = .ok (.iload_n 1, 1) := by decide +kernel
theorem dX1_costAt_5 : decode cX1_costAt 5 = .ok (.iaload, 1) := by decide +kernel
theorem dX1_costAt_6 : decode cX1_costAt 6 = .ok (.i2l, 1) := by decide +kernel
theorem dX1_costAt_7 : decode cX1_costAt 7 = .ok (.iload_n 3, 1) := by decide +kernel
theorem dX1_costAt_8 : decode cX1_costAt 8 = .ok (.i2l, 1) := by decide +kernel
theorem dX1_costAt_9 : decode cX1_costAt 9 = .ok (.lmul, 1) := by decide +kernel
theorem dX1_costAt_10 : decode cX1_costAt 10 = .ok (.aload_n 0, 1) := by decide +kernel
theorem dX1_costAt_11 : decode cX1_costAt 11 = .ok (.getfield 18, 3) := by decide +kernel
theorem dX1_costAt_14 : decode cX1_costAt 14 = .ok (.iload_n 1, 1) := by decide +kernel
theorem dX1_costAt_15 : decode cX1_costAt 15 = .ok (.iaload, 1) := by decide +kernel
theorem dX1_costAt_16 : decode cX1_costAt 16 = .ok (.i2l, 1) := by decide +kernel
theorem dX1_costAt_17 : decode cX1_costAt 17 = .ok (.iload_n 2, 1) := by decide +kernel
theorem dX1_costAt_18 : decode cX1_costAt 18 = .ok (.i2l, 1) := by decide +kernel
theorem dX1_costAt_19 : decode cX1_costAt 19 = .ok (.lmul, 1) := by decide +kernel
theorem dX1_costAt_20 : decode cX1_costAt 20 = .ok (.ladd, 1) := by decide +kernel
theorem dX1_costAt_21 : decode cX1_costAt 21 = .ok (.lreturn, 1) := by decide +kernel
theorem dX1_cheapestAt_0 : decode cX1_cheapestAt 0 = .ok (.iconst (-1), 1) := by decide +kernel
theorem dX1_cheapestAt_1 : decode cX1_cheapestAt 1 = .ok (.istore 4, 2) := by decide +kernel
theorem dX1_cheapestAt_3 : decode cX1_cheapestAt 3 = .ok (.lconst 0, 1) := by decide +kernel
theorem dX1_cheapestAt_4 : decode cX1_cheapestAt 4 = .ok (.lstore 5, 2) := by decide +kernel
theorem dX1_cheapestAt_6 : decode cX1_cheapestAt 6 = .ok (.iconst 0, 1) := by decide +kernel
theorem dX1_cheapestAt_7 : decode cX1_cheapestAt 7 = .ok (.istore 7, 2) := by decide +kernel
theorem dX1_cheapestAt_9 : decode cX1_cheapestAt 9 = .ok (.iload 7, 2) := by decide +kernel
theorem dX1_cheapestAt_11 : decode cX1_cheapestAt 11 = .ok (.aload_n 0, 1) := by decide +kernel
theorem dX1_cheapestAt_12 : decode cX1_cheapestAt 12 = .ok (.getfield 21, 3) := by decide +kernel
theorem dX1_cheapestAt_15 : decode cX1_cheapestAt 15 = .ok (.if_icmp .ge 60, 3) := by decide +kernel
theorem dX1_cheapestAt_18 : decode cX1_cheapestAt 18 = .ok (.aload_n 0, 1) := by decide +kernel
theorem dX1_cheapestAt_19 : decode cX1_cheapestAt 19 = .ok (.iload 7, 2) := by decide +kernel
theorem dX1_cheapestAt_21 : decode cX1_cheapestAt 21 = .ok (.iload_n 1, 1) := by decide +kernel
theorem dX1_cheapestAt_22 : decode cX1_cheapestAt 22 = .ok (.iload_n 2, 1) := by decide +kernel
theorem dX1_cheapestAt_23 : decode cX1_cheapestAt 23 = .ok (.invokevirtual 50, 3) := by decide +kernel
theorem dX1_cheapestAt_26 : decode cX1_cheapestAt 26 = .ok (.lstore 8, 2) := by decide +kernel
theorem dX1_cheapestAt_28 : decode cX1_cheapestAt 28 = .ok (.iload 4, 2) := by decide +kernel
theorem dX1_cheapestAt_30 : decode cX1_cheapestAt 30 = .ok (.ifCond .lt 31, 3) := by decide +kernel
theorem dX1_cheapestAt_33 : decode cX1_cheapestAt 33 = .ok (.lload 8, 2) := by decide +kernel
theorem dX1_cheapestAt_35 : decode cX1_cheapestAt 35 = .ok (.lload 5, 2) := by decide +kernel
theorem dX1_cheapestAt_37 : decode cX1_cheapestAt 37 = .ok (.lcmp, 1) := by decide +kernel
theorem dX1_cheapestAt_38 : decode cX1_cheapestAt 38 = .ok (.ifCond .lt 23, 3) := by decide +kernel
theorem dX1_cheapestAt_41 : decode cX1_cheapestAt 41 = .ok (.lload 8, 2) := by decide +kernel
theorem dX1_cheapestAt_43 : decode cX1_cheapestAt 43 = .ok (.lload 5, 2) := by decide +kernel
theorem dX1_cheapestAt_45 : decode cX1_cheapestAt 45 = .ok (.lcmp, 1) := by decide +kernel
theorem dX1_cheapestAt_46 : decode cX1_cheapestAt 46 = .ok (.ifCond .ne 23, 3) := by decide +kernel
theorem dX1_cheapestAt_49 : decode cX1_cheapestAt 49 = .ok (.aload_n 0, 1) := by decide +kernel
theorem dX1_cheapestAt_50 : decode cX1_cheapestAt 50 = .ok (.iload 7, 2) := by decide +kernel
theorem dX1_cheapestAt_52 : decode cX1_cheapestAt 52 = .ok (.iload 4, 2) := by decide +kernel
theorem dX1_cheapestAt_54 : decode cX1_cheapestAt 54 = .ok (.iload_n 3, 1) := by decide +kernel
theorem dX1_cheapestAt_55 : decode cX1_cheapestAt 55 = .ok (.invokevirtual 54, 3) := by decide +kernel
theorem dX1_cheapestAt_58 : decode cX1_cheapestAt 58 = .ok (.ifCond .eq 11, 3) := by decide +kernel
theorem dX1_cheapestAt_61 : decode cX1_cheapestAt 61 = .ok (.iload 7, 2) := by decide +kernel
theorem dX1_cheapestAt_63 : decode cX1_cheapestAt 63 = .ok (.istore 4, 2) := by decide +kernel
theorem dX1_cheapestAt_65 : decode cX1_cheapestAt 65 = .ok (.lload 8, 2) := by decide +kernel
theorem dX1_cheapestAt_67 : decode cX1_cheapestAt 67 = .ok (.lstore 5, 2) := by decide +kernel
theorem dX1_cheapestAt_69 : decode cX1_cheapestAt 69 = .ok (.iinc 7 1, 3) := by decide +kernel
theorem dX1_cheapestAt_72 : decode cX1_cheapestAt 72 = .ok (.goto (-63), 3) := by decide +kernel
theorem dX1_cheapestAt_75 : decode cX1_cheapestAt 75 = .ok (.iload 4, 2) := by decide +kernel
theorem dX1_cheapestAt_77 : decode cX1_cheapestAt 77 = .ok (.ireturn, 1) := by decide +kernel
theorem dX1_leadsAmongLike_0 : decode cX1_leadsAmongLike 0 = .ok (.iload_n 3, 1) := by decide +kernel
theorem dX1_leadsAmongLike_1 : decode cX1_leadsAmongLike 1 = .ok (.iconst 1, 1) := by decide +kernel
theorem dX1_leadsAmongLike_2 : decode cX1_leadsAmongLike 2 = .ok (.if_icmp .ne 18, 3) := by decide +kernel
theorem dX1_leadsAmongLike_5 : decode cX1_leadsAmongLike 5 = .ok (.aload_n 0, 1) := by decide +kernel
theorem dX1_leadsAmongLike_6 : decode cX1_leadsAmongLike 6 = .ok (.getfield 18, 3) := by decide +kernel
theorem dX1_leadsAmongLike_9 : decode cX1_leadsAmongLike 9 = .ok (.iload_n 1, 1) := by decide +kernel
theorem dX1_leadsAmongLike_10 : decode cX1_leadsAmongLike 10 = .ok (.iaload, 1) := by decide +kernel
theorem dX1_leadsAmongLike_11 : decode cX1_leadsAmongLike 11 = .ok (.aload_n 0, 1) := by decide +kernel
theorem dX1_leadsAmongLike_12 : decode cX1_leadsAmongLike 12 = .ok (.getfield 18, 3) := by decide +kernel
theorem dX1_leadsAmongLike_15 : decode cX1_leadsAmongLike 15 = .ok (.iload_n 2, 1) := by decide +kernel
theorem dX1_leadsAmongLike_16 : decode cX1_leadsAmongLike 16 = .ok (.iaload, 1) := by decide +kernel
theorem dX1_leadsAmongLike_17 : decode cX1_leadsAmongLike 17 = .ok (.if_icmp .lt 23, 3) := by decide +kernel
theorem dX1_leadsAmongLike_20 : decode cX1_leadsAmongLike 20 = .ok (.iload_n 3, 1) := by decide +kernel
theorem dX1_leadsAmongLike_21 : decode cX1_leadsAmongLike 21 = .ok (.iconst 2, 1) := by decide +kernel
theorem dX1_leadsAmongLike_22 : decode cX1_leadsAmongLike 22 = .ok (.if_icmp .ne 22, 3) := by decide +kernel
theorem dX1_leadsAmongLike_25 : decode cX1_leadsAmongLike 25 = .ok (.aload_n 0, 1) := by decide +kernel
theorem dX1_leadsAmongLike_26 : decode cX1_leadsAmongLike 26 = .ok (.getfield 18, 3) := by decide +kernel
theorem dX1_leadsAmongLike_29 : decode cX1_leadsAmongLike 29 = .ok (.iload_n 1, 1) := by decide +kernel
theorem dX1_leadsAmongLike_30 : decode cX1_leadsAmongLike 30 = .ok (.iaload, 1) := by decide +kernel
theorem dX1_leadsAmongLike_31 : decode cX1_leadsAmongLike 31 = .ok (.aload_n 0, 1) := by decide +kernel
theorem dX1_leadsAmongLike_32 : decode cX1_leadsAmongLike 32 = .ok (.getfield 18, 3) := by decide +kernel
theorem dX1_leadsAmongLike_35 : decode cX1_leadsAmongLike 35 = .ok (.iload_n 2, 1) := by decide +kernel
theorem dX1_leadsAmongLike_36 : decode cX1_leadsAmongLike 36 = .ok (.iaload, 1) := by decide +kernel
theorem dX1_leadsAmongLike_37 : decode cX1_leadsAmongLike 37 = .ok (.if_icmp .le 7, 3) := by decide +kernel
theorem dX1_leadsAmongLike_40 : decode cX1_leadsAmongLike 40 = .ok (.iconst 1, 1) := by decide +kernel
theorem dX1_leadsAmongLike_41 : decode cX1_leadsAmongLike 41 = .ok (.goto 4, 3) := by decide +kernel
theorem dX1_leadsAmongLike_44 : decode cX1_leadsAmongLike 44 = .ok (.iconst 0, 1) := by decide +kernel
theorem dX1_leadsAmongLike_45 : decode cX1_leadsAmongLike 45 = .ok (.ireturn, 1) := by decide +kernel
theorem dX1_leastAt_0 : decode cX1_leastAt 0 = .ok (.aload_n 0, 1) := by decide +kernel
theorem dX1_leastAt_1 : decode cX1_leastAt 1 = .ok (.iload_n 1, 1) := by decide +kernel
theorem dX1_leastAt_2 : decode cX1_leastAt 2 = .ok (.iload_n 2, 1) := by decide +kernel
theorem dX1_leastAt_3 : decode cX1_leastAt 3 = .ok (.iconst 0, 1) := by decide +kernel
theorem dX1_leastAt_4 : decode cX1_leastAt 4 = .ok (.invokevirtual 58, 3) := by decide +kernel
theorem dX1_leastAt_7 : decode cX1_leastAt 7 = .ok (.istore_n 3, 1) := by decide +kernel
theorem dX1_leastAt_8 : decode cX1_leastAt 8 = .ok (.iload_n 3, 1) := by decide +kernel
theorem dX1_leastAt_9 : decode cX1_leastAt 9 = .ok (.ifCond .ge 7, 3) := by decide +kernel
theorem dX1_leastAt_12 : decode cX1_leastAt 12 = .ok (.lconst 0, 1) := by decide +kernel
theorem dX1_leastAt_13 : decode cX1_leastAt 13 = .ok (.goto 10, 3) := by decide +kernel
theorem dX1_leastAt_16 : decode cX1_leastAt 16 = .ok (.aload_n 0, 1) := by decide +kernel
theorem dX1_leastAt_17 : decode cX1_leastAt 17 = .ok (.iload_n 3, 1) := by decide +kernel
theorem dX1_leastAt_18 : decode cX1_leastAt 18 = .ok (.iload_n 1, 1) := by decide +kernel
theorem dX1_leastAt_19 : decode cX1_leastAt 19 = .ok (.iload_n 2, 1) := by decide +kernel
theorem dX1_leastAt_20 : decode cX1_leastAt 20 = .ok (.invokevirtual 50, 3) := by decide +kernel
theorem dX1_leastAt_23 : decode cX1_leastAt 23 = .ok (.lreturn, 1) := by decide +kernel
theorem dX1_nextAbove_0 : decode cX1_nextAbove 0 = .ok (.iconst (-1), 1) := by decide +kernel
theorem dX1_nextAbove_1 : decode cX1_nextAbove 1 = .ok (.istore_n 2, 1) := by decide +kernel
theorem dX1_nextAbove_2 : decode cX1_nextAbove 2 = .ok (.iconst 0, 1) := by decide +kernel
theorem dX1_nextAbove_3 : decode cX1_nextAbove 3 = .ok (.istore_n 3, 1) := by decide +kernel
theorem dX1_nextAbove_4 : decode cX1_nextAbove 4 = .ok (.iload_n 3, 1) := by decide +kernel
theorem dX1_nextAbove_5 : decode cX1_nextAbove 5 = .ok (.aload_n 0, 1) := by decide +kernel
theorem dX1_nextAbove_6 : decode cX1_nextAbove 6 = .ok (.getfield 21, 3) := by decide +kernel
theorem dX1_nextAbove_9 : decode cX1_nextAbove 9 = .ok (.if_icmp .ge 40, 3) := by decide +kernel
theorem dX1_nextAbove_12 : decode cX1_nextAbove 12 = .ok (.aload_n 0, 1) := by decide +kernel
theorem dX1_nextAbove_13 : decode cX1_nextAbove 13 = .ok (.getfield 18, 3) := by decide +kernel
theorem dX1_nextAbove_16 : decode cX1_nextAbove 16 = .ok (.iload_n 3, 1) := by decide +kernel
theorem dX1_nextAbove_17 : decode cX1_nextAbove 17 = .ok (.iaload, 1) := by decide +kernel
theorem dX1_nextAbove_18 : decode cX1_nextAbove 18 = .ok (.aload_n 0, 1) := by decide +kernel
theorem dX1_nextAbove_19 : decode cX1_nextAbove 19 = .ok (.getfield 18, 3) := by decide +kernel
theorem dX1_nextAbove_22 : decode cX1_nextAbove 22 = .ok (.iload_n 1, 1) := by decide +kernel
theorem dX1_nextAbove_23 : decode cX1_nextAbove 23 = .ok (.iaload, 1) := by decide +kernel
theorem dX1_nextAbove_24 : decode cX1_nextAbove 24 = .ok (.if_icmp .ge 19, 3) := by decide +kernel
theorem dX1_nextAbove_27 : decode cX1_nextAbove 27 = .ok (.iload_n 2, 1) := by decide +kernel
theorem dX1_nextAbove_28 : decode cX1_nextAbove 28 = .ok (.ifCond .lt 13, 3) := by decide +kernel
theorem dX1_nextAbove_31 : decode cX1_nextAbove 31 = .ok (.aload_n 0, 1) := by decide +kernel
theorem dX1_nextAbove_32 : decode cX1_nextAbove 32 = .ok (.iload_n 1, 1) := by decide +kernel
theorem dX1_nextAbove_33 : decode cX1_nextAbove 33 = .ok (.iload_n 3, 1) := by decide +kernel
theorem dX1_nextAbove_34 : decode cX1_nextAbove 34 = .ok (.iload_n 2, 1) := by decide +kernel
theorem dX1_nextAbove_35 : decode cX1_nextAbove 35 = .ok (.invokevirtual 62, 3) := by decide +kernel
theorem dX1_nextAbove_38 : decode cX1_nextAbove 38 = .ok (.ifCond .eq 5, 3) := by decide +kernel
theorem dX1_nextAbove_41 : decode cX1_nextAbove 41 = .ok (.iload_n 3, 1) := by decide +kernel
theorem dX1_nextAbove_42 : decode cX1_nextAbove 42 = .ok (.istore_n 2, 1) := by decide +kernel
theorem dX1_nextAbove_43 : decode cX1_nextAbove 43 = .ok (.iinc 3 1, 3) := by decide +kernel
theorem dX1_nextAbove_46 : decode cX1_nextAbove 46 = .ok (.goto (-42), 3) := by decide +kernel
theorem dX1_nextAbove_49 : decode cX1_nextAbove 49 = .ok (.iload_n 2, 1) := by decide +kernel
theorem dX1_nextAbove_50 : decode cX1_nextAbove 50 = .ok (.ireturn, 1) := by decide +kernel
theorem dX1_meetsSooner_0 : decode cX1_meetsSooner 0 = .ok (.aload_n 0, 1) := by decide +kernel
theorem dX1_meetsSooner_1 : decode cX1_meetsSooner 1 = .ok (.getfield 15, 3) := by decide +kernel
theorem dX1_meetsSooner_4 : decode cX1_meetsSooner 4 = .ok (.iload_n 2, 1) := by decide +kernel
theorem dX1_meetsSooner_5 : decode cX1_meetsSooner 5 = .ok (.iaload, 1) := by decide +kernel
theorem dX1_meetsSooner_6 : decode cX1_meetsSooner 6 = .ok (.aload_n 0, 1) := by decide +kernel
theorem dX1_meetsSooner_7 : decode cX1_meetsSooner 7 = .ok (.getfield 15, 3) := by decide +kernel
theorem dX1_meetsSooner_10 : decode cX1_meetsSooner 10 = .ok (.iload_n 1, 1) := by decide +kernel
theorem dX1_meetsSooner_11 : decode cX1_meetsSooner 11 = .ok (.iaload, 1) := by decide +kernel
theorem dX1_meetsSooner_12 : decode cX1_meetsSooner 12 = .ok (.isub, 1) := by decide +kernel
theorem dX1_meetsSooner_13 : decode cX1_meetsSooner 13 = .ok (.i2l, 1) := by decide +kernel
theorem dX1_meetsSooner_14 : decode cX1_meetsSooner 14 = .ok (.aload_n 0, 1) := by decide +kernel
theorem dX1_meetsSooner_15 : decode cX1_meetsSooner 15 = .ok (.getfield 18, 3) := by decide +kernel
theorem dX1_meetsSooner_18 : decode cX1_meetsSooner 18 = .ok (.iload_n 1, 1) := by decide +kernel
theorem dX1_meetsSooner_19 : decode cX1_meetsSooner 19 = .ok (.iaload, 1) := by decide +kernel
theorem dX1_meetsSooner_20 : decode cX1_meetsSooner 20 = .ok (.aload_n 0, 1) := by decide +kernel
theorem dX1_meetsSooner_21 : decode cX1_meetsSooner 21 = .ok (.getfield 18, 3) := by decide +kernel
theorem dX1_meetsSooner_24 : decode cX1_meetsSooner 24 = .ok (.iload_n 3, 1) := by decide +kernel
theorem dX1_meetsSooner_25 : decode cX1_meetsSooner 25 = .ok (.iaload, 1) := by decide +kernel
theorem dX1_meetsSooner_26 : decode cX1_meetsSooner 26 = .ok (.isub, 1) := by decide +kernel
theorem dX1_meetsSooner_27 : decode cX1_meetsSooner 27 = .ok (.i2l, 1) := by decide +kernel
theorem dX1_meetsSooner_28 : decode cX1_meetsSooner 28 = .ok (.lmul, 1) := by decide +kernel
theorem dX1_meetsSooner_29 : decode cX1_meetsSooner 29 = .ok (.lstore 4, 2) := by decide +kernel
theorem dX1_meetsSooner_31 : decode cX1_meetsSooner 31 = .ok (.aload_n 0, 1) := by decide +kernel
theorem dX1_meetsSooner_32 : decode cX1_meetsSooner 32 = .ok (.getfield 15, 3) := by decide +kernel
theorem dX1_meetsSooner_35 : decode cX1_meetsSooner 35 = .ok (.iload_n 3, 1) := by decide +kernel
theorem dX1_meetsSooner_36 : decode cX1_meetsSooner 36 = .ok (.iaload, 1) := by decide +kernel
theorem dX1_meetsSooner_37 : decode cX1_meetsSooner 37 = .ok (.aload_n 0, 1) := by decide +kernel
theorem dX1_meetsSooner_38 : decode cX1_meetsSooner 38 = .ok (.getfield 15, 3) := by decide +kernel
theorem dX1_meetsSooner_41 : decode cX1_meetsSooner 41 = .ok (.iload_n 1, 1) := by decide +kernel
theorem dX1_meetsSooner_42 : decode cX1_meetsSooner 42 = .ok (.iaload, 1) := by decide +kernel
theorem dX1_meetsSooner_43 : decode cX1_meetsSooner 43 = .ok (.isub, 1) := by decide +kernel
theorem dX1_meetsSooner_44 : decode cX1_meetsSooner 44 = .ok (.i2l, 1) := by decide +kernel
theorem dX1_meetsSooner_45 : decode cX1_meetsSooner 45 = .ok (.aload_n 0, 1) := by decide +kernel
theorem dX1_meetsSooner_46 : decode cX1_meetsSooner 46 = .ok (.getfield 18, 3) := by decide +kernel
theorem dX1_meetsSooner_49 : decode cX1_meetsSooner 49 = .ok (.iload_n 1, 1) := by decide +kernel
theorem dX1_meetsSooner_50 : decode cX1_meetsSooner 50 = .ok (.iaload, 1) := by decide +kernel
theorem dX1_meetsSooner_51 : decode cX1_meetsSooner 51 = .ok (.aload_n 0, 1) := by decide +kernel
theorem dX1_meetsSooner_52 : decode cX1_meetsSooner 52 = .ok (.getfield 18, 3) := by decide +kernel
theorem dX1_meetsSooner_55 : decode cX1_meetsSooner 55 = .ok (.iload_n 2, 1) := by decide +kernel
theorem dX1_meetsSooner_56 : decode cX1_meetsSooner 56 = .ok (.iaload, 1) := by decide +kernel
theorem dX1_meetsSooner_57 : decode cX1_meetsSooner 57 = .ok (.isub, 1) := by decide +kernel
theorem dX1_meetsSooner_58 : decode cX1_meetsSooner 58 = .ok (.i2l, 1) := by decide +kernel
theorem dX1_meetsSooner_59 : decode cX1_meetsSooner 59 = .ok (.lmul, 1) := by decide +kernel
theorem dX1_meetsSooner_60 : decode cX1_meetsSooner 60 = .ok (.lstore 6, 2) := by decide +kernel
theorem dX1_meetsSooner_62 : decode cX1_meetsSooner 62 = .ok (.lload 4, 2) := by decide +kernel
theorem dX1_meetsSooner_64 : decode cX1_meetsSooner 64 = .ok (.lload 6, 2) := by decide +kernel
theorem dX1_meetsSooner_66 : decode cX1_meetsSooner 66 = .ok (.lcmp, 1) := by decide +kernel
theorem dX1_meetsSooner_67 : decode cX1_meetsSooner 67 = .ok (.ifCond .lt 26, 3) := by decide +kernel
theorem dX1_meetsSooner_70 : decode cX1_meetsSooner 70 = .ok (.lload 4, 2) := by decide +kernel
theorem dX1_meetsSooner_72 : decode cX1_meetsSooner 72 = .ok (.lload 6, 2) := by decide +kernel
theorem dX1_meetsSooner_74 : decode cX1_meetsSooner 74 = .ok (.lcmp, 1) := by decide +kernel
theorem dX1_meetsSooner_75 : decode cX1_meetsSooner 75 = .ok (.ifCond .ne 22, 3) := by decide +kernel
theorem dX1_meetsSooner_78 : decode cX1_meetsSooner 78 = .ok (.aload_n 0, 1) := by decide +kernel
theorem dX1_meetsSooner_79 : decode cX1_meetsSooner 79 = .ok (.getfield 18, 3) := by decide +kernel
theorem dX1_meetsSooner_82 : decode cX1_meetsSooner 82 = .ok (.iload_n 2, 1) := by decide +kernel
theorem dX1_meetsSooner_83 : decode cX1_meetsSooner 83 = .ok (.iaload, 1) := by decide +kernel
theorem dX1_meetsSooner_84 : decode cX1_meetsSooner 84 = .ok (.aload_n 0, 1) := by decide +kernel
theorem dX1_meetsSooner_85 : decode cX1_meetsSooner 85 = .ok (.getfield 18, 3) := by decide +kernel
theorem dX1_meetsSooner_88 : decode cX1_meetsSooner 88 = .ok (.iload_n 3, 1) := by decide +kernel
theorem dX1_meetsSooner_89 : decode cX1_meetsSooner 89 = .ok (.iaload, 1) := by decide +kernel
theorem dX1_meetsSooner_90 : decode cX1_meetsSooner 90 = .ok (.if_icmp .ge 7, 3) := by decide +kernel
theorem dX1_meetsSooner_93 : decode cX1_meetsSooner 93 = .ok (.iconst 1, 1) := by decide +kernel
theorem dX1_meetsSooner_94 : decode cX1_meetsSooner 94 = .ok (.goto 4, 3) := by decide +kernel
theorem dX1_meetsSooner_97 : decode cX1_meetsSooner 97 = .ok (.iconst 0, 1) := by decide +kernel
theorem dX1_meetsSooner_98 : decode cX1_meetsSooner 98 = .ok (.ireturn, 1) := by decide +kernel
theorem dX1_findSpan_0 : decode cX1_findSpan 0 = .ok (.lconst 0, 1) := by decide +kernel
theorem dX1_findSpan_1 : decode cX1_findSpan 1 = .ok (.lstore_n 3, 1) := by decide +kernel
theorem dX1_findSpan_2 : decode cX1_findSpan 2 = .ok (.lconst 0, 1) := by decide +kernel
theorem dX1_findSpan_3 : decode cX1_findSpan 3 = .ok (.lstore 5, 2) := by decide +kernel
theorem dX1_findSpan_5 : decode cX1_findSpan 5 = .ok (.lconst 0, 1) := by decide +kernel
theorem dX1_findSpan_6 : decode cX1_findSpan 6 = .ok (.lstore 7, 2) := by decide +kernel
theorem dX1_findSpan_8 : decode cX1_findSpan 8 = .ok (.lconst 0, 1) := by decide +kernel
theorem dX1_findSpan_9 : decode cX1_findSpan 9 = .ok (.lstore 9, 2) := by decide +kernel
theorem dX1_findSpan_11 : decode cX1_findSpan 11 = .ok (.iconst 0, 1) := by decide +kernel
theorem dX1_findSpan_12 : decode cX1_findSpan 12 = .ok (.istore 11, 2) := by decide +kernel
theorem dX1_findSpan_14 : decode cX1_findSpan 14 = .ok (.iload 11, 2) := by decide +kernel
theorem dX1_findSpan_16 : decode cX1_findSpan 16 = .ok (.aload_n 0, 1) := by decide +kernel
theorem dX1_findSpan_17 : decode cX1_findSpan 17 = .ok (.getfield 21, 3) := by decide +kernel
theorem dX1_findSpan_20 : decode cX1_findSpan 20 = .ok (.if_icmp .ge 133, 3) := by decide +kernel
theorem dX1_findSpan_23 : decode cX1_findSpan 23 = .ok (.aload_n 0, 1) := by decide +kernel
theorem dX1_findSpan_24 : decode cX1_findSpan 24 = .ok (.getfield 18, 3) := by decide +kernel
theorem dX1_findSpan_27 : decode cX1_findSpan 27 = .ok (.iload_n 1, 1) := by decide +kernel
theorem dX1_findSpan_28 : decode cX1_findSpan 28 = .ok (.iaload, 1) := by decide +kernel
theorem dX1_findSpan_29 : decode cX1_findSpan 29 = .ok (.aload_n 0, 1) := by decide +kernel
theorem dX1_findSpan_30 : decode cX1_findSpan 30 = .ok (.getfield 18, 3) := by decide +kernel
theorem dX1_findSpan_33 : decode cX1_findSpan 33 = .ok (.iload 11, 2) := by decide +kernel
theorem dX1_findSpan_35 : decode cX1_findSpan 35 = .ok (.iaload, 1) := by decide +kernel
theorem dX1_findSpan_36 : decode cX1_findSpan 36 = .ok (.isub, 1) := by decide +kernel
theorem dX1_findSpan_37 : decode cX1_findSpan 37 = .ok (.i2l, 1) := by decide +kernel
theorem dX1_findSpan_38 : decode cX1_findSpan 38 = .ok (.lstore 12, 2) := by decide +kernel
theorem dX1_findSpan_40 : decode cX1_findSpan 40 = .ok (.aload_n 0, 1) := by decide +kernel
theorem dX1_findSpan_41 : decode cX1_findSpan 41 = .ok (.getfield 15, 3) := by decide +kernel
theorem dX1_findSpan_44 : decode cX1_findSpan 44 = .ok (.iload 11, 2) := by decide +kernel
theorem dX1_findSpan_46 : decode cX1_findSpan 46 = .ok (.iaload, 1) := by decide +kernel
theorem dX1_findSpan_47 : decode cX1_findSpan 47 = .ok (.aload_n 0, 1) := by decide +kernel
theorem dX1_findSpan_48 : decode cX1_findSpan 48 = .ok (.getfield 15, 3) := by decide +kernel
theorem dX1_findSpan_51 : decode cX1_findSpan 51 = .ok (.iload_n 1, 1) := by decide +kernel
theorem dX1_findSpan_52 : decode cX1_findSpan 52 = .ok (.iaload, 1) := by decide +kernel
theorem dX1_findSpan_53 : decode cX1_findSpan 53 = .ok (.isub, 1) := by decide +kernel
theorem dX1_findSpan_54 : decode cX1_findSpan 54 = .ok (.i2l, 1) := by decide +kernel
theorem dX1_findSpan_55 : decode cX1_findSpan 55 = .ok (.lstore 14, 2) := by decide +kernel
theorem dX1_findSpan_57 : decode cX1_findSpan 57 = .ok (.lload 12, 2) := by decide +kernel
theorem dX1_findSpan_59 : decode cX1_findSpan 59 = .ok (.lconst 0, 1) := by decide +kernel
theorem dX1_findSpan_60 : decode cX1_findSpan 60 = .ok (.lcmp, 1) := by decide +kernel
theorem dX1_findSpan_61 : decode cX1_findSpan 61 = .ok (.ifCond .ne 12, 3) := by decide +kernel
theorem dX1_findSpan_64 : decode cX1_findSpan 64 = .ok (.lload 14, 2) := by decide +kernel
theorem dX1_findSpan_66 : decode cX1_findSpan 66 = .ok (.lconst 0, 1) := by decide +kernel
theorem dX1_findSpan_67 : decode cX1_findSpan 67 = .ok (.lcmp, 1) := by decide +kernel
theorem dX1_findSpan_68 : decode cX1_findSpan 68 = .ok (.ifCond .ge 5, 3) := by decide +kernel
theorem dX1_findSpan_71 : decode cX1_findSpan 71 = .ok (.iconst 0, 1) := by decide +kernel
theorem dX1_findSpan_72 : decode cX1_findSpan 72 = .ok (.ireturn, 1) := by decide +kernel
theorem dX1_findSpan_73 : decode cX1_findSpan 73 = .ok (.lload 12, 2) := by decide +kernel
theorem dX1_findSpan_75 : decode cX1_findSpan 75 = .ok (.lconst 0, 1) := by decide +kernel
theorem dX1_findSpan_76 : decode cX1_findSpan 76 = .ok (.lcmp, 1) := by decide +kernel
theorem dX1_findSpan_77 : decode cX1_findSpan 77 = .ok (.ifCond .le 32, 3) := by decide +kernel
theorem dX1_findSpan_80 : decode cX1_findSpan 80 = .ok (.lload 9, 2) := by decide +kernel
theorem dX1_findSpan_82 : decode cX1_findSpan 82 = .ok (.lconst 0, 1) := by decide +kernel
theorem dX1_findSpan_83 : decode cX1_findSpan 83 = .ok (.lcmp, 1) := by decide +kernel
theorem dX1_findSpan_84 : decode cX1_findSpan 84 = .ok (.ifCond .eq 17, 3) := by decide +kernel
theorem dX1_findSpan_87 : decode cX1_findSpan 87 = .ok (.lload 14, 2) := by decide +kernel
theorem dX1_findSpan_89 : decode cX1_findSpan 89 = .ok (.lload 12, 2) := by decide +kernel
theorem dX1_findSpan_91 : decode cX1_findSpan 91 = .ok (.lload 7, 2) := by decide +kernel
theorem dX1_findSpan_93 : decode cX1_findSpan 93 = .ok (.lload 9, 2) := by decide +kernel
theorem dX1_findSpan_95 : decode cX1_findSpan 95 = .ok (.invokestatic 65, 3) := by decide +kernel
theorem dX1_findSpan_98 : decode cX1_findSpan 98 = .ok (.ifCond .eq 11, 3) := by decide +kernel
theorem dX1_findSpan_101 : decode cX1_findSpan 101 = .ok (.lload 14, 2) := by decide +kernel
theorem dX1_findSpan_103 : decode cX1_findSpan 103 = .ok (.lstore 7, 2) := by decide +kernel
theorem dX1_findSpan_105 : decode cX1_findSpan 105 = .ok (.lload 12, 2) := by decide +kernel
theorem dX1_findSpan_107 : decode cX1_findSpan 107 = .ok (.lstore 9, 2) := by decide +kernel
theorem dX1_findSpan_109 : decode cX1_findSpan 109 = .ok (.lload 12, 2) := by decide +kernel
theorem dX1_findSpan_111 : decode cX1_findSpan 111 = .ok (.lconst 0, 1) := by decide +kernel
theorem dX1_findSpan_112 : decode cX1_findSpan 112 = .ok (.lcmp, 1) := by decide +kernel
theorem dX1_findSpan_113 : decode cX1_findSpan 113 = .ok (.ifCond .ge 34, 3) := by decide +kernel
theorem dX1_findSpan_116 : decode cX1_findSpan 116 = .ok (.lload 5, 2) := by decide +kernel
theorem dX1_findSpan_118 : decode cX1_findSpan 118 = .ok (.lconst 0, 1) := by decide +kernel
theorem dX1_findSpan_119 : decode cX1_findSpan 119 = .ok (.lcmp, 1) := by decide +kernel
theorem dX1_findSpan_120 : decode cX1_findSpan 120 = .ok (.ifCond .eq 18, 3) := by decide +kernel
theorem dX1_findSpan_123 : decode cX1_findSpan 123 = .ok (.lload_n 3, 1) := by decide +kernel
theorem dX1_findSpan_124 : decode cX1_findSpan 124 = .ok (.lload 5, 2) := by decide +kernel
theorem dX1_findSpan_126 : decode cX1_findSpan 126 = .ok (.lload 14, 2) := by decide +kernel
theorem dX1_findSpan_128 : decode cX1_findSpan 128 = .ok (.lneg, 1) := by decide +kernel
theorem dX1_findSpan_129 : decode cX1_findSpan 129 = .ok (.lload 12, 2) := by decide +kernel
theorem dX1_findSpan_131 : decode cX1_findSpan 131 = .ok (.lneg, 1) := by decide +kernel
theorem dX1_findSpan_132 : decode cX1_findSpan 132 = .ok (.invokestatic 65, 3) := by decide +kernel
theorem dX1_findSpan_135 : decode cX1_findSpan 135 = .ok (.ifCond .eq 12, 3) := by decide +kernel
theorem dX1_findSpan_138 : decode cX1_findSpan 138 = .ok (.lload 14, 2) := by decide +kernel
theorem dX1_findSpan_140 : decode cX1_findSpan 140 = .ok (.lneg, 1) := by decide +kernel
theorem dX1_findSpan_141 : decode cX1_findSpan 141 = .ok (.lstore_n 3, 1) := by decide +kernel
theorem dX1_findSpan_142 : decode cX1_findSpan 142 = .ok (.lload 12, 2) := by decide +kernel
theorem dX1_findSpan_144 : decode cX1_findSpan 144 = .ok (.lneg, 1) := by decide +kernel
theorem dX1_findSpan_145 : decode cX1_findSpan 145 = .ok (.lstore 5, 2) := by decide +kernel
theorem dX1_findSpan_147 : decode cX1_findSpan 147 = .ok (.iinc 11 1, 3) := by decide +kernel
theorem dX1_findSpan_150 : decode cX1_findSpan 150 = .ok (.goto (-136), 3) := by decide +kernel
theorem dX1_findSpan_153 : decode cX1_findSpan 153 = .ok (.lload 5, 2) := by decide +kernel
theorem dX1_findSpan_155 : decode cX1_findSpan 155 = .ok (.lconst 0, 1) := by decide +kernel
theorem dX1_findSpan_156 : decode cX1_findSpan 156 = .ok (.lcmp, 1) := by decide +kernel
theorem dX1_findSpan_157 : decode cX1_findSpan 157 = .ok (.ifCond .le 25, 3) := by decide +kernel
theorem dX1_findSpan_160 : decode cX1_findSpan 160 = .ok (.lload 9, 2) := by decide +kernel
theorem dX1_findSpan_162 : decode cX1_findSpan 162 = .ok (.lconst 0, 1) := by decide +kernel
theorem dX1_findSpan_163 : decode cX1_findSpan 163 = .ok (.lcmp, 1) := by decide +kernel
theorem dX1_findSpan_164 : decode cX1_findSpan 164 = .ok (.ifCond .le 18, 3) := by decide +kernel
theorem dX1_findSpan_167 : decode cX1_findSpan 167 = .ok (.lload 7, 2) := by decide +kernel
theorem dX1_findSpan_169 : decode cX1_findSpan 169 = .ok (.lload 9, 2) := by decide +kernel
theorem dX1_findSpan_171 : decode cX1_findSpan 171 = .ok (.lload_n 3, 1) := by decide +kernel
theorem dX1_findSpan_172 : decode cX1_findSpan 172 = .ok (.lload 5, 2) := by decide +kernel
theorem dX1_findSpan_174 : decode cX1_findSpan 174 = .ok (.invokestatic 65, 3) := by decide +kernel
theorem dX1_findSpan_177 : decode cX1_findSpan 177 = .ok (.ifCond .eq 5, 3) := by decide +kernel
theorem dX1_findSpan_180 : decode cX1_findSpan 180 = .ok (.iconst 0, 1) := by decide +kernel
theorem dX1_findSpan_181 : decode cX1_findSpan 181 = .ok (.ireturn, 1) := by decide +kernel
theorem dX1_findSpan_182 : decode cX1_findSpan 182 = .ok (.aload_n 2, 1) := by decide +kernel
theorem dX1_findSpan_183 : decode cX1_findSpan 183 = .ok (.iconst 1, 1) := by decide +kernel
theorem dX1_findSpan_184 : decode cX1_findSpan 184 = .ok (.lload_n 3, 1) := by decide +kernel
theorem dX1_findSpan_185 : decode cX1_findSpan 185 = .ok (.lload 5, 2) := by decide +kernel
theorem dX1_findSpan_187 : decode cX1_findSpan 187 = .ok (.iconst 0, 1) := by decide +kernel
theorem dX1_findSpan_188 : decode cX1_findSpan 188 = .ok (.invokestatic 69, 3) := by decide +kernel
theorem dX1_findSpan_191 : decode cX1_findSpan 191 = .ok (.lastore, 1) := by decide +kernel
theorem dX1_findSpan_192 : decode cX1_findSpan 192 = .ok (.aload_n 2, 1) := by decide +kernel
theorem dX1_findSpan_193 : decode cX1_findSpan 193 = .ok (.iconst 2, 1) := by decide +kernel
theorem dX1_findSpan_194 : decode cX1_findSpan 194 = .ok (.lload_n 3, 1) := by decide +kernel
theorem dX1_findSpan_195 : decode cX1_findSpan 195 = .ok (.lload 5, 2) := by decide +kernel
theorem dX1_findSpan_197 : decode cX1_findSpan 197 = .ok (.iconst 1, 1) := by decide +kernel
theorem dX1_findSpan_198 : decode cX1_findSpan 198 = .ok (.invokestatic 69, 3) := by decide +kernel
theorem dX1_findSpan_201 : decode cX1_findSpan 201 = .ok (.lastore, 1) := by decide +kernel
theorem dX1_findSpan_202 : decode cX1_findSpan 202 = .ok (.aload_n 2, 1) := by decide +kernel
theorem dX1_findSpan_203 : decode cX1_findSpan 203 = .ok (.iconst 3, 1) := by decide +kernel
theorem dX1_findSpan_204 : decode cX1_findSpan 204 = .ok (.lload 7, 2) := by decide +kernel
theorem dX1_findSpan_206 : decode cX1_findSpan 206 = .ok (.lload 9, 2) := by decide +kernel
theorem dX1_findSpan_208 : decode cX1_findSpan 208 = .ok (.iconst 0, 1) := by decide +kernel
theorem dX1_findSpan_209 : decode cX1_findSpan 209 = .ok (.invokestatic 69, 3) := by decide +kernel
theorem dX1_findSpan_212 : decode cX1_findSpan 212 = .ok (.lastore, 1) := by decide +kernel
theorem dX1_findSpan_213 : decode cX1_findSpan 213 = .ok (.aload_n 2, 1) := by decide +kernel
theorem dX1_findSpan_214 : decode cX1_findSpan 214 = .ok (.iconst 4, 1) := by decide +kernel
theorem dX1_findSpan_215 : decode cX1_findSpan 215 = .ok (.lload 7, 2) := by decide +kernel
theorem dX1_findSpan_217 : decode cX1_findSpan 217 = .ok (.lload 9, 2) := by decide +kernel
theorem dX1_findSpan_219 : decode cX1_findSpan 219 = .ok (.iconst 1, 1) := by decide +kernel
theorem dX1_findSpan_220 : decode cX1_findSpan 220 = .ok (.invokestatic 69, 3) := by decide +kernel
theorem dX1_findSpan_223 : decode cX1_findSpan 223 = .ok (.lastore, 1) := by decide +kernel
theorem dX1_findSpan_224 : decode cX1_findSpan 224 = .ok (.iconst 1, 1) := by decide +kernel
theorem dX1_findSpan_225 : decode cX1_findSpan 225 = .ok (.ireturn, 1) := by decide +kernel
theorem dX1_leastRatio_0 : decode cX1_leastRatio 0 = .ok (.iconst (-1), 1) := by decide +kernel
theorem dX1_leastRatio_1 : decode cX1_leastRatio 1 = .ok (.istore_n 1, 1) := by decide +kernel
theorem dX1_leastRatio_2 : decode cX1_leastRatio 2 = .ok (.iconst 0, 1) := by decide +kernel
theorem dX1_leastRatio_3 : decode cX1_leastRatio 3 = .ok (.istore_n 2, 1) := by decide +kernel
theorem dX1_leastRatio_4 : decode cX1_leastRatio 4 = .ok (.iload_n 2, 1) := by decide +kernel
theorem dX1_leastRatio_5 : decode cX1_leastRatio 5 = .ok (.aload_n 0, 1) := by decide +kernel
theorem dX1_leastRatio_6 : decode cX1_leastRatio 6 = .ok (.getfield 21, 3) := by decide +kernel
theorem dX1_leastRatio_9 : decode cX1_leastRatio 9 = .ok (.if_icmp .ge 60, 3) := by decide +kernel
theorem dX1_leastRatio_12 : decode cX1_leastRatio 12 = .ok (.aload_n 0, 1) := by decide +kernel
theorem dX1_leastRatio_13 : decode cX1_leastRatio 13 = .ok (.getfield 18, 3) := by decide +kernel
theorem dX1_leastRatio_16 : decode cX1_leastRatio 16 = .ok (.iload_n 2, 1) := by decide +kernel
theorem dX1_leastRatio_17 : decode cX1_leastRatio 17 = .ok (.iaload, 1) := by decide +kernel
theorem dX1_leastRatio_18 : decode cX1_leastRatio 18 = .ok (.ifCond .gt 5, 3) := by decide +kernel
theorem dX1_leastRatio_21 : decode cX1_leastRatio 21 = .ok (.iconst (-1), 1) := by decide +kernel
theorem dX1_leastRatio_22 : decode cX1_leastRatio 22 = .ok (.ireturn, 1) := by decide +kernel
theorem dX1_leastRatio_23 : decode cX1_leastRatio 23 = .ok (.iload_n 1, 1) := by decide +kernel
theorem dX1_leastRatio_24 : decode cX1_leastRatio 24 = .ok (.ifCond .lt 37, 3) := by decide +kernel
theorem dX1_leastRatio_27 : decode cX1_leastRatio 27 = .ok (.aload_n 0, 1) := by decide +kernel
theorem dX1_leastRatio_28 : decode cX1_leastRatio 28 = .ok (.getfield 15, 3) := by decide +kernel
theorem dX1_leastRatio_31 : decode cX1_leastRatio 31 = .ok (.iload_n 2, 1) := by decide +kernel
theorem dX1_leastRatio_32 : decode cX1_leastRatio 32 = .ok (.iaload, 1) := by decide +kernel
theorem dX1_leastRatio_33 : decode cX1_leastRatio 33 = .ok (.i2l, 1) := by decide +kernel
theorem dX1_leastRatio_34 : decode cX1_leastRatio 34 = .ok (.aload_n 0, 1) := by decide +kernel
theorem dX1_leastRatio_35 : decode cX1_leastRatio 35 = .ok (.getfield 18, 3) := by decide +kernel
theorem dX1_leastRatio_38 : decode cX1_leastRatio 38 = .ok (.iload_n 2, 1) := by decide +kernel
theorem dX1_leastRatio_39 : decode cX1_leastRatio 39 = .ok (.iaload, 1) := by decide +kernel
theorem dX1_leastRatio_40 : decode cX1_leastRatio 40 = .ok (.i2l, 1) := by decide +kernel
theorem dX1_leastRatio_41 : decode cX1_leastRatio 41 = .ok (.aload_n 0, 1) := by decide +kernel
theorem dX1_leastRatio_42 : decode cX1_leastRatio 42 = .ok (.getfield 15, 3) := by decide +kernel
theorem dX1_leastRatio_45 : decode cX1_leastRatio 45 = .ok (.iload_n 1, 1) := by decide +kernel
theorem dX1_leastRatio_46 : decode cX1_leastRatio 46 = .ok (.iaload, 1) := by decide +kernel
theorem dX1_leastRatio_47 : decode cX1_leastRatio 47 = .ok (.i2l, 1) := by decide +kernel
theorem dX1_leastRatio_48 : decode cX1_leastRatio 48 = .ok (.aload_n 0, 1) := by decide +kernel
theorem dX1_leastRatio_49 : decode cX1_leastRatio 49 = .ok (.getfield 18, 3) := by decide +kernel
theorem dX1_leastRatio_52 : decode cX1_leastRatio 52 = .ok (.iload_n 1, 1) := by decide +kernel
theorem dX1_leastRatio_53 : decode cX1_leastRatio 53 = .ok (.iaload, 1) := by decide +kernel
theorem dX1_leastRatio_54 : decode cX1_leastRatio 54 = .ok (.i2l, 1) := by decide +kernel
theorem dX1_leastRatio_55 : decode cX1_leastRatio 55 = .ok (.invokestatic 65, 3) := by decide +kernel
theorem dX1_leastRatio_58 : decode cX1_leastRatio 58 = .ok (.ifCond .eq 5, 3) := by decide +kernel
theorem dX1_leastRatio_61 : decode cX1_leastRatio 61 = .ok (.iload_n 2, 1) := by decide +kernel
theorem dX1_leastRatio_62 : decode cX1_leastRatio 62 = .ok (.istore_n 1, 1) := by decide +kernel
theorem dX1_leastRatio_63 : decode cX1_leastRatio 63 = .ok (.iinc 2 1, 3) := by decide +kernel
theorem dX1_leastRatio_66 : decode cX1_leastRatio 66 = .ok (.goto (-62), 3) := by decide +kernel
theorem dX1_leastRatio_69 : decode cX1_leastRatio 69 = .ok (.iload_n 1, 1) := by decide +kernel
theorem dX1_leastRatio_70 : decode cX1_leastRatio 70 = .ok (.ireturn, 1) := by decide +kernel
theorem dX1_findRegret_0 : decode cX1_findRegret 0 = .ok (.aload_n 0, 1) := by decide +kernel
theorem dX1_findRegret_1 : decode cX1_findRegret 1 = .ok (.iload_n 1, 1) := by decide +kernel
theorem dX1_findRegret_2 : decode cX1_findRegret 2 = .ok (.aload_n 2, 1) := by decide +kernel
theorem dX1_findRegret_3 : decode cX1_findRegret 3 = .ok (.getfield 73, 3) := by decide +kernel
theorem dX1_findRegret_6 : decode cX1_findRegret 6 = .ok (.aload_n 2, 1) := by decide +kernel
theorem dX1_findRegret_7 : decode cX1_findRegret 7 = .ok (.getfield 78, 3) := by decide +kernel
theorem dX1_findRegret_10 : decode cX1_findRegret 10 = .ok (.invokevirtual 50, 3) := by decide +kernel
theorem dX1_findRegret_13 : decode cX1_findRegret 13 = .ok (.aload_n 0, 1) := by decide +kernel
theorem dX1_findRegret_14 : decode cX1_findRegret 14 = .ok (.aload_n 2, 1) := by decide +kernel
theorem dX1_findRegret_15 : decode cX1_findRegret 15 = .ok (.getfield 73, 3) := by decide +kernel
theorem dX1_findRegret_18 : decode cX1_findRegret 18 = .ok (.aload_n 2, 1) := by decide +kernel
theorem dX1_findRegret_19 : decode cX1_findRegret 19 = .ok (.getfield 78, 3) := by decide +kernel
theorem dX1_findRegret_22 : decode cX1_findRegret 22 = .ok (.invokevirtual 81, 3) := by decide +kernel
theorem dX1_findRegret_25 : decode cX1_findRegret 25 = .ok (.lsub, 1) := by decide +kernel
theorem dX1_findRegret_26 : decode cX1_findRegret 26 = .ok (.lstore 4, 2) := by decide +kernel
theorem dX1_findRegret_28 : decode cX1_findRegret 28 = .ok (.aload_n 0, 1) := by decide +kernel
theorem dX1_findRegret_29 : decode cX1_findRegret 29 = .ok (.iload_n 1, 1) := by decide +kernel
theorem dX1_findRegret_30 : decode cX1_findRegret 30 = .ok (.aload_n 2, 1) := by decide +kernel
theorem dX1_findRegret_31 : decode cX1_findRegret 31 = .ok (.getfield 85, 3) := by decide +kernel
theorem dX1_findRegret_34 : decode cX1_findRegret 34 = .ok (.aload_n 2, 1) := by decide +kernel
theorem dX1_findRegret_35 : decode cX1_findRegret 35 = .ok (.getfield 88, 3) := by decide +kernel
theorem dX1_findRegret_38 : decode cX1_findRegret 38 = .ok (.invokevirtual 50, 3) := by decide +kernel
theorem dX1_findRegret_41 : decode cX1_findRegret 41 = .ok (.aload_n 0, 1) := by decide +kernel
theorem dX1_findRegret_42 : decode cX1_findRegret 42 = .ok (.aload_n 2, 1) := by decide +kernel
theorem dX1_findRegret_43 : decode cX1_findRegret 43 = .ok (.getfield 85, 3) := by decide +kernel
theorem dX1_findRegret_46 : decode cX1_findRegret 46 = .ok (.aload_n 2, 1) := by decide +kernel
theorem dX1_findRegret_47 : decode cX1_findRegret 47 = .ok (.getfield 88, 3) := by decide +kernel
theorem dX1_findRegret_50 : decode cX1_findRegret 50 = .ok (.invokevirtual 81, 3) := by decide +kernel
theorem dX1_findRegret_53 : decode cX1_findRegret 53 = .ok (.lsub, 1) := by decide +kernel
theorem dX1_findRegret_54 : decode cX1_findRegret 54 = .ok (.lstore 6, 2) := by decide +kernel
theorem dX1_findRegret_56 : decode cX1_findRegret 56 = .ok (.lload 4, 2) := by decide +kernel
theorem dX1_findRegret_58 : decode cX1_findRegret 58 = .ok (.aload_n 2, 1) := by decide +kernel
theorem dX1_findRegret_59 : decode cX1_findRegret 59 = .ok (.getfield 78, 3) := by decide +kernel
theorem dX1_findRegret_62 : decode cX1_findRegret 62 = .ok (.i2l, 1) := by decide +kernel
theorem dX1_findRegret_63 : decode cX1_findRegret 63 = .ok (.lload 6, 2) := by decide +kernel
theorem dX1_findRegret_65 : decode cX1_findRegret 65 = .ok (.aload_n 2, 1) := by decide +kernel
theorem dX1_findRegret_66 : decode cX1_findRegret 66 = .ok (.getfield 88, 3) := by decide +kernel
theorem dX1_findRegret_69 : decode cX1_findRegret 69 = .ok (.i2l, 1) := by decide +kernel
theorem dX1_findRegret_70 : decode cX1_findRegret 70 = .ok (.invokestatic 65, 3) := by decide +kernel
theorem dX1_findRegret_73 : decode cX1_findRegret 73 = .ok (.istore 8, 2) := by decide +kernel
theorem dX1_findRegret_75 : decode cX1_findRegret 75 = .ok (.aload_n 3, 1) := by decide +kernel
theorem dX1_findRegret_76 : decode cX1_findRegret 76 = .ok (.iconst 0, 1) := by decide +kernel
theorem dX1_findRegret_77 : decode cX1_findRegret 77 = .ok (.iload 8, 2) := by decide +kernel
theorem dX1_findRegret_79 : decode cX1_findRegret 79 = .ok (.ifCond .eq 8, 3) := by decide +kernel
theorem dX1_findRegret_82 : decode cX1_findRegret 82 = .ok (.lload 6, 2) := by decide +kernel
theorem dX1_findRegret_84 : decode cX1_findRegret 84 = .ok (.goto 5, 3) := by decide +kernel
theorem dX1_findRegret_87 : decode cX1_findRegret 87 = .ok (.lload 4, 2) := by decide +kernel
theorem dX1_findRegret_89 : decode cX1_findRegret 89 = .ok (.lastore, 1) := by decide +kernel
theorem dX1_findRegret_90 : decode cX1_findRegret 90 = .ok (.aload_n 3, 1) := by decide +kernel
theorem dX1_findRegret_91 : decode cX1_findRegret 91 = .ok (.iconst 1, 1) := by decide +kernel
theorem dX1_findRegret_92 : decode cX1_findRegret 92 = .ok (.iload 8, 2) := by decide +kernel
theorem dX1_findRegret_94 : decode cX1_findRegret 94 = .ok (.ifCond .eq 11, 3) := by decide +kernel
theorem dX1_findRegret_97 : decode cX1_findRegret 97 = .ok (.aload_n 2, 1) := by decide +kernel
theorem dX1_findRegret_98 : decode cX1_findRegret 98 = .ok (.getfield 88, 3) := by decide +kernel
theorem dX1_findRegret_101 : decode cX1_findRegret 101 = .ok (.i2l, 1) := by decide +kernel
theorem dX1_findRegret_102 : decode cX1_findRegret 102 = .ok (.goto 8, 3) := by decide +kernel
theorem dX1_findRegret_105 : decode cX1_findRegret 105 = .ok (.aload_n 2, 1) := by decide +kernel
theorem dX1_findRegret_106 : decode cX1_findRegret 106 = .ok (.getfield 78, 3) := by decide +kernel
theorem dX1_findRegret_109 : decode cX1_findRegret 109 = .ok (.i2l, 1) := by decide +kernel
theorem dX1_findRegret_110 : decode cX1_findRegret 110 = .ok (.lastore, 1) := by decide +kernel
theorem dX1_findRegret_111 : decode cX1_findRegret 111 = .ok (.return_, 1) := by decide +kernel
theorem dX2_init_0 : decode cX2_init 0 = .ok (.aload_n 0, 1) := by decide +kernel
theorem dX2_init_1 : decode cX2_init 1 = .ok (.invokespecial 3, 3) := by decide +kernel
theorem dX2_init_4 : decode cX2_init 4 = .ok (.aload_n 0, 1) := by decide +kernel
theorem dX2_init_5 : decode cX2_init 5 = .ok (.bipush 12, 2) := by decide +kernel
theorem dX2_init_7 : decode cX2_init 7 = .ok (.newarray .int, 2) := by decide +kernel
theorem dX2_init_9 : decode cX2_init 9 = .ok (.putfield 9, 3) := by decide +kernel
theorem dX2_init_12 : decode cX2_init 12 = .ok (.aload_n 0, 1) := by decide +kernel
theorem dX2_init_13 : decode cX2_init 13 = .ok (.bipush 12, 2) := by decide +kernel
theorem dX2_init_15 : decode cX2_init 15 = .ok (.newarray .int, 2) := by decide +kernel
theorem dX2_init_17 : decode cX2_init 17 = .ok (.putfield 15, 3) := by decide +kernel
theorem dX2_init_20 : decode cX2_init 20 = .ok (.aload_n 0, 1) := by decide +kernel
theorem dX2_init_21 : decode cX2_init 21 = .ok (.bipush 12, 2) := by decide +kernel
theorem dX2_init_23 : decode cX2_init 23 = .ok (.newarray .int, 2) := by decide +kernel
theorem dX2_init_25 : decode cX2_init 25 = .ok (.putfield 18, 3) := by decide +kernel
theorem dX2_init_28 : decode cX2_init 28 = .ok (.aload_n 0, 1) := by decide +kernel
theorem dX2_init_29 : decode cX2_init 29 = .ok (.bipush 12, 2) := by decide +kernel
theorem dX2_init_31 : decode cX2_init 31 = .ok (.newarray .int, 2) := by decide +kernel
theorem dX2_init_33 : decode cX2_init 33 = .ok (.putfield 21, 3) := by decide +kernel
theorem dX2_init_36 : decode cX2_init 36 = .ok (.aload_n 0, 1) := by decide +kernel
theorem dX2_init_37 : decode cX2_init 37 = .ok (.iconst 0, 1) := by decide +kernel
theorem dX2_init_38 : decode cX2_init 38 = .ok (.putfield 24, 3) := by decide +kernel
theorem dX2_init_41 : decode cX2_init 41 = .ok (.return_, 1) := by decide +kernel
theorem dX2_isThing_0 : decode cX2_isThing 0 = .ok (.iload_n 1, 1) := by decide +kernel
theorem dX2_isThing_1 : decode cX2_isThing 1 = .ok (.ifCond .lt 15, 3) := by decide +kernel
theorem dX2_isThing_4 : decode cX2_isThing 4 = .ok (.iload_n 1, 1) := by decide +kernel
theorem dX2_isThing_5 : decode cX2_isThing 5 = .ok (.aload_n 0, 1) := by decide +kernel
theorem dX2_isThing_6 : decode cX2_isThing 6 = .ok (.getfield 28, 3) := by decide +kernel
theorem dX2_isThing_9 : decode cX2_isThing 9 = .ok (.if_icmp .ge 7, 3) := by decide +kernel
theorem dX2_isThing_12 : decode cX2_isThing 12 = .ok (.iconst 1, 1) := by decide +kernel
theorem dX2_isThing_13 : decode cX2_isThing 13 = .ok (.goto 4, 3) := by decide +kernel
theorem dX2_isThing_16 : decode cX2_isThing 16 = .ok (.iconst 0, 1) := by decide +kernel
theorem dX2_isThing_17 : decode cX2_isThing 17 = .ok (.ireturn, 1) := by decide +kernel
theorem dX2_isLine_0 : decode cX2_isLine 0 = .ok (.iload_n 1, 1) := by decide +kernel
theorem dX2_isLine_1 : decode cX2_isLine 1 = .ok (.ifCond .lt 15, 3) := by decide +kernel
theorem dX2_isLine_4 : decode cX2_isLine 4 = .ok (.iload_n 1, 1) := by decide +kernel
theorem dX2_isLine_5 : decode cX2_isLine 5 = .ok (.aload_n 0, 1) := by decide +kernel
theorem dX2_isLine_6 : decode cX2_isLine 6 = .ok (.getfield 31, 3) := by decide +kernel
theorem dX2_isLine_9 : decode cX2_isLine 9 = .ok (.if_icmp .ge 7, 3) := by decide +kernel
theorem dX2_isLine_12 : decode cX2_isLine 12 = .ok (.iconst 1, 1) := by decide +kernel
theorem dX2_isLine_13 : decode cX2_isLine 13 = .ok (.goto 4, 3) := by decide +kernel
theorem dX2_isLine_16 : decode cX2_isLine 16 = .ok (.iconst 0, 1) := by decide +kernel
theorem dX2_isLine_17 : decode cX2_isLine 17 = .ok (.ireturn, 1) := by decide +kernel
theorem dX2_allThings_0 : decode cX2_allThings 0 = .ok (.iconst 1, 1) := by decide +kernel
theorem dX2_allThings_1 : decode cX2_allThings 1 = .ok (.aload_n 0, 1) := by decide +kernel
theorem dX2_allThings_2 : decode cX2_allThings 2 = .ok (.getfield 28, 3) := by decide +kernel
theorem dX2_allThings_5 : decode cX2_allThings 5 = .ok (.ishl, 1) := by decide +kernel
theorem dX2_allThings_6 : decode cX2_allThings 6 = .ok (.iconst 1, 1) := by decide +kernel
theorem dX2_allThings_7 : decode cX2_allThings 7 = .ok (.isub, 1) := by decide +kernel
theorem dX2_allThings_8 : decode cX2_allThings 8 = .ok (.ireturn, 1) := by decide +kernel
theorem dX2_addThing_0 : decode cX2_addThing 0 = .ok (.aload_n 0, 1) := by decide +kernel
theorem dX2_addThing_1 : decode cX2_addThing 1 = .ok (.getfield 28, 3) := by decide +kernel
theorem dX2_addThing_4 : decode cX2_addThing 4 = .ok (.bipush 7, 2) := by decide +kernel
theorem dX2_addThing_6 : decode cX2_addThing 6 = .ok (.if_icmp .lt 6, 3) := by decide +kernel
theorem dX2_addThing_9 : decode cX2_addThing 9 = .ok (.bipush (-4), 2) := by decide +kernel
theorem dX2_addThing_11 : decode cX2_addThing 11 = .ok (.ireturn, 1) := by decide +kernel
theorem dX2_addThing_12 : decode cX2_addThing 12 = .ok (.aload_n 0, 1) := by decide +kernel
theorem dX2_addThing_13 : decode cX2_addThing 13 = .ok (.iconst 1, 1) := by decide +kernel
theorem dX2_addThing_14 : decode cX2_addThing 14 = .ok (.invokevirtual 34, 3) := by decide +kernel
theorem dX2_addThing_17 : decode cX2_addThing 17 = .ok (.aload_n 0, 1) := by decide +kernel
theorem dX2_addThing_18 : decode cX2_addThing 18 = .ok (.dup, 1) := by decide +kernel
theorem dX2_addThing_19 : decode cX2_addThing 19 = .ok (.getfield 28, 3) := by decide +kernel
theorem dX2_addThing_22 : decode cX2_addThing 22 = .ok (.dup_x1, 1) := by decide +kernel
theorem dX2_addThing_23 : decode cX2_addThing 23 = .ok (.iconst 1, 1) := by decide +kernel
theorem dX2_addThing_24 : decode cX2_addThing 24 = .ok (.iadd, 1) := by decide +kernel
theorem dX2_addThing_25 : decode cX2_addThing 25 = .ok (.putfield 28, 3) := by decide +kernel
theorem dX2_addThing_28 : decode cX2_addThing 28 = .ok (.ireturn, 1) := by decide +kernel
theorem dX2_addLine_0 : decode cX2_addLine 0 = .ok (.aload_n 0, 1) := by decide +kernel
theorem dX2_addLine_1 : decode cX2_addLine 1 = .ok (.getfield 31, 3) := by decide +kernel
theorem dX2_addLine_4 : decode cX2_addLine 4 = .ok (.bipush 12, 2) := by decide +kernel
theorem dX2_addLine_6 : decode cX2_addLine 6 = .ok (.if_icmp .lt 6, 3) := by decide +kernel
theorem dX2_addLine_9 : decode cX2_addLine 9 = .ok (.bipush (-4), 2) := by decide +kernel
theorem dX2_addLine_11 : decode cX2_addLine 11 = .ok (.ireturn, 1) := by decide +kernel
theorem dX2_addLine_12 : decode cX2_addLine 12 = .ok (.aload_n 0, 1) := by decide +kernel
theorem dX2_addLine_13 : decode cX2_addLine 13 = .ok (.getfield 9, 3) := by decide +kernel
theorem dX2_addLine_16 : decode cX2_addLine 16 = .ok (.aload_n 0, 1) := by decide +kernel
theorem dX2_addLine_17 : decode cX2_addLine 17 = .ok (.getfield 31, 3) := by decide +kernel
theorem dX2_addLine_20 : decode cX2_addLine 20 = .ok (.iload_n 1, 1) := by decide +kernel
theorem dX2_addLine_21 : decode cX2_addLine 21 = .ok (.iastore, 1) := by decide +kernel
theorem dX2_addLine_22 : decode cX2_addLine 22 = .ok (.aload_n 0, 1) := by decide +kernel
theorem dX2_addLine_23 : decode cX2_addLine 23 = .ok (.getfield 15, 3) := by decide +kernel
theorem dX2_addLine_26 : decode cX2_addLine 26 = .ok (.aload_n 0, 1) := by decide +kernel
theorem dX2_addLine_27 : decode cX2_addLine 27 = .ok (.getfield 31, 3) := by decide +kernel
theorem dX2_addLine_30 : decode cX2_addLine 30 = .ok (.iload_n 2, 1) := by decide +kernel
theorem dX2_addLine_31 : decode cX2_addLine 31 = .ok (.iastore, 1) := by decide +kernel
theorem dX2_addLine_32 : decode cX2_addLine 32 = .ok (.aload_n 0, 1) := by decide +kernel
theorem dX2_addLine_33 : decode cX2_addLine 33 = .ok (.getfield 18, 3) := by decide +kernel
theorem dX2_addLine_36 : decode cX2_addLine 36 = .ok (.aload_n 0, 1) := by decide +kernel
theorem dX2_addLine_37 : decode cX2_addLine 37 = .ok (.getfield 31, 3) := by decide +kernel
theorem dX2_addLine_40 : decode cX2_addLine 40 = .ok (.iload_n 3, 1) := by decide +kernel
theorem dX2_addLine_41 : decode cX2_addLine 41 = .ok (.iastore, 1) := by decide +kernel
theorem dX2_addLine_42 : decode cX2_addLine 42 = .ok (.aload_n 0, 1) := by decide +kernel
theorem dX2_addLine_43 : decode cX2_addLine 43 = .ok (.getfield 21, 3) := by decide +kernel
theorem dX2_addLine_46 : decode cX2_addLine 46 = .ok (.aload_n 0, 1) := by decide +kernel
theorem dX2_addLine_47 : decode cX2_addLine 47 = .ok (.getfield 31, 3) := by decide +kernel
theorem dX2_addLine_50 : decode cX2_addLine 50 = .ok (.iload 4, 2) := by decide +kernel
theorem dX2_addLine_52 : decode cX2_addLine 52 = .ok (.iastore, 1) := by decide +kernel
theorem dX2_addLine_53 : decode cX2_addLine 53 = .ok (.aload_n 0, 1) := by decide +kernel
theorem dX2_addLine_54 : decode cX2_addLine 54 = .ok (.iconst 2, 1) := by decide +kernel
theorem dX2_addLine_55 : decode cX2_addLine 55 = .ok (.invokevirtual 34, 3) := by decide +kernel
theorem dX2_addLine_58 : decode cX2_addLine 58 = .ok (.aload_n 0, 1) := by decide +kernel
theorem dX2_addLine_59 : decode cX2_addLine 59 = .ok (.dup, 1) := by decide +kernel
theorem dX2_addLine_60 : decode cX2_addLine 60 = .ok (.getfield 31, 3) := by decide +kernel
theorem dX2_addLine_63 : decode cX2_addLine 63 = .ok (.dup_x1, 1) := by decide +kernel
theorem dX2_addLine_64 : decode cX2_addLine 64 = .ok (.iconst 1, 1) := by decide +kernel
theorem dX2_addLine_65 : decode cX2_addLine 65 = .ok (.iadd, 1) := by decide +kernel
theorem dX2_addLine_66 : decode cX2_addLine 66 = .ok (.putfield 31, 3) := by decide +kernel
theorem dX2_addLine_69 : decode cX2_addLine 69 = .ok (.ireturn, 1) := by decide +kernel
theorem dX2_changeLine_0 : decode cX2_changeLine 0 = .ok (.aload_n 0, 1) := by decide +kernel
theorem dX2_changeLine_1 : decode cX2_changeLine 1 = .ok (.iload_n 1, 1) := by decide +kernel
theorem dX2_changeLine_2 : decode cX2_changeLine 2 = .ok (.invokevirtual 38, 3) := by decide +kernel
theorem dX2_changeLine_5 : decode cX2_changeLine 5 = .ok (.ifCond .eq 47, 3) := by decide +kernel
theorem dX2_changeLine_8 : decode cX2_changeLine 8 = .ok (.aload_n 0, 1) := by decide +kernel
theorem dX2_changeLine_9 : decode cX2_changeLine 9 = .ok (.iload_n 1, 1) := by decide +kernel
theorem dX2_changeLine_10 : decode cX2_changeLine 10 = .ok (.putfield 42, 3) := by decide +kernel
theorem dX2_changeLine_13 : decode cX2_changeLine 13 = .ok (.aload_n 0, 1) := by decide +kernel
theorem dX2_changeLine_14 : decode cX2_changeLine 14 = .ok (.aload_n 0, 1) := by decide +kernel
theorem dX2_changeLine_15 : decode cX2_changeLine 15 = .ok (.getfield 18, 3) := by decide +kernel
theorem dX2_changeLine_18 : decode cX2_changeLine 18 = .ok (.iload_n 1, 1) := by decide +kernel
theorem dX2_changeLine_19 : decode cX2_changeLine 19 = .ok (.iaload, 1) := by decide +kernel
theorem dX2_changeLine_20 : decode cX2_changeLine 20 = .ok (.putfield 45, 3) := by decide +kernel
theorem dX2_changeLine_23 : decode cX2_changeLine 23 = .ok (.aload_n 0, 1) := by decide +kernel
theorem dX2_changeLine_24 : decode cX2_changeLine 24 = .ok (.aload_n 0, 1) := by decide +kernel
theorem dX2_changeLine_25 : decode cX2_changeLine 25 = .ok (.getfield 21, 3) := by decide +kernel
theorem dX2_changeLine_28 : decode cX2_changeLine 28 = .ok (.iload_n 1, 1) := by decide +kernel
theorem dX2_changeLine_29 : decode cX2_changeLine 29 = .ok (.iaload, 1) := by decide +kernel
theorem dX2_changeLine_30 : decode cX2_changeLine 30 = .ok (.putfield 48, 3) := by decide +kernel
theorem dX2_changeLine_33 : decode cX2_changeLine 33 = .ok (.aload_n 0, 1) := by decide +kernel
theorem dX2_changeLine_34 : decode cX2_changeLine 34 = .ok (.getfield 18, 3) := by decide +kernel
theorem dX2_changeLine_37 : decode cX2_changeLine 37 = .ok (.iload_n 1, 1) := by decide +kernel
theorem dX2_changeLine_38 : decode cX2_changeLine 38 = .ok (.iload_n 2, 1) := by decide +kernel
theorem dX2_changeLine_39 : decode cX2_changeLine 39 = .ok (.iastore, 1) := by decide +kernel
theorem dX2_changeLine_40 : decode cX2_changeLine 40 = .ok (.aload_n 0, 1) := by decide +kernel
theorem dX2_changeLine_41 : decode cX2_changeLine 41 = .ok (.getfield 21, 3) := by decide +kernel
theorem dX2_changeLine_44 : decode cX2_changeLine 44 = .ok (.iload_n 1, 1) := by decide +kernel
theorem dX2_changeLine_45 : decode cX2_changeLine 45 = .ok (.iload_n 3, 1) := by decide +kernel
theorem dX2_changeLine_46 : decode cX2_changeLine 46 = .ok (.iastore, 1) := by decide +kernel
theorem dX2_changeLine_47 : decode cX2_changeLine 47 = .ok (.aload_n 0, 1) := by decide +kernel
theorem dX2_changeLine_48 : decode cX2_changeLine 48 = .ok (.iconst 3, 1) := by decide +kernel
theorem dX2_changeLine_49 : decode cX2_changeLine 49 = .ok (.invokevirtual 34, 3) := by decide +kernel
theorem dX2_changeLine_52 : decode cX2_changeLine 52 = .ok (.return_, 1) := by decide +kernel
theorem dX2_dropLine_0 : decode cX2_dropLine 0 = .ok (.aload_n 0, 1) := by decide +kernel
theorem dX2_dropLine_1 : decode cX2_dropLine 1 = .ok (.iconst 4, 1) := by decide +kernel
theorem dX2_dropLine_2 : decode cX2_dropLine 2 = .ok (.invokevirtual 34, 3) := by decide +kernel
theorem dX2_dropLine_5 : decode cX2_dropLine 5 = .ok (.aload_n 0, 1) := by decide +kernel
theorem dX2_dropLine_6 : decode cX2_dropLine 6 = .ok (.dup, 1) := by decide +kernel
theorem dX2_dropLine_7 : decode cX2_dropLine 7 = .ok (.getfield 31, 3) := by decide +kernel
theorem dX2_dropLine_10 : decode cX2_dropLine 10 = .ok (.iconst 1, 1) := by decide +kernel
theorem dX2_dropLine_11 : decode cX2_dropLine 11 = .ok (.isub, 1) := by decide +kernel
theorem dX2_dropLine_12 : decode cX2_dropLine 12 = .ok (.dup_x1, 1) := by decide +kernel
theorem dX2_dropLine_13 : decode cX2_dropLine 13 = .ok (.putfield 31, 3) := by decide +kernel
theorem dX2_dropLine_16 : decode cX2_dropLine 16 = .ok (.ireturn, 1) := by decide +kernel
theorem dX2_stepBack_0 : decode cX2_stepBack 0 = .ok (.aload_n 0, 1) := by decide +kernel
theorem dX2_stepBack_1 : decode cX2_stepBack 1 = .ok (.getfield 24, 3) := by decide +kernel
theorem dX2_stepBack_4 : decode cX2_stepBack 4 = .ok (.tableswitch 90 1 4 #[32, 45, 58, 77], 32) := by decide +kernel
theorem dX2_stepBack_36 : decode cX2_stepBack 36 = .ok (.aload_n 0, 1) := by decide +kernel
theorem dX2_stepBack_37 : decode cX2_stepBack 37 = .ok (.dup, 1) := by decide +kernel
theorem dX2_stepBack_38 : decode cX2_stepBack 38 = .ok (.getfield 28, 3) := by decide +kernel
theorem dX2_stepBack_41 : decode cX2_stepBack 41 = .ok (.iconst 1, 1) := by decide +kernel
theorem dX2_stepBack_42 : decode cX2_stepBack 42 = .ok (.isub, 1) := by decide +kernel
theorem dX2_stepBack_43 : decode cX2_stepBack 43 = .ok (.putfield 28, 3) := by decide +kernel
theorem dX2_stepBack_46 : decode cX2_stepBack 46 = .ok (.goto 48, 3) := by decide +kernel
theorem dX2_stepBack_49 : decode cX2_stepBack 49 = .ok (.aload_n 0, 1) := by decide +kernel
theorem dX2_stepBack_50 : decode cX2_stepBack 50 = .ok (.dup, 1) := by decide +kernel
theorem dX2_stepBack_51 : decode cX2_stepBack 51 = .ok (.getfield 31, 3) := by decide +kernel
theorem dX2_stepBack_54 : decode cX2_stepBack 54 = .ok (.iconst 1, 1) := by decide +kernel
theorem dX2_stepBack_55 : decode cX2_stepBack 55 = .ok (.isub, 1) := by decide +kernel
theorem dX2_stepBack_56 : decode cX2_stepBack 56 = .ok (.putfield 31, 3) := by decide +kernel
theorem dX2_stepBack_59 : decode cX2_stepBack 59 = .ok (.goto 35, 3) := by decide +kernel
theorem dX2_stepBack_62 : decode cX2_stepBack 62 = .ok (.aload_n 0, 1) := by decide +kernel
theorem dX2_stepBack_63 : decode cX2_stepBack 63 = .ok (.aload_n 0, 1) := by decide +kernel
theorem dX2_stepBack_64 : decode cX2_stepBack 64 = .ok (.getfield 42, 3) := by decide +kernel
theorem dX2_stepBack_67 : decode cX2_stepBack 67 = .ok (.aload_n 0, 1) := by decide +kernel
theorem dX2_stepBack_68 : decode cX2_stepBack 68 = .ok (.getfield 45, 3) := by decide +kernel
theorem dX2_stepBack_71 : decode cX2_stepBack 71 = .ok (.aload_n 0, 1) := by decide +kernel
theorem dX2_stepBack_72 : decode cX2_stepBack 72 = .ok (.getfield 48, 3) := by decide +kernel
theorem dX2_stepBack_75 : decode cX2_stepBack 75 = .ok (.invokevirtual 51, 3) := by decide +kernel
theorem dX2_stepBack_78 : decode cX2_stepBack 78 = .ok (.goto 16, 3) := by decide +kernel
theorem dX2_stepBack_81 : decode cX2_stepBack 81 = .ok (.aload_n 0, 1) := by decide +kernel
theorem dX2_stepBack_82 : decode cX2_stepBack 82 = .ok (.dup, 1) := by decide +kernel
theorem dX2_stepBack_83 : decode cX2_stepBack 83 = .ok (.getfield 31, 3) := by decide +kernel
theorem dX2_stepBack_86 : decode cX2_stepBack 86 = .ok (.iconst 1, 1) := by decide +kernel
theorem dX2_stepBack_87 : decode cX2_stepBack 87 = .ok (.iadd, 1) := by decide +kernel
theorem dX2_stepBack_88 : decode cX2_stepBack 88 = .ok (.putfield 31, 3) := by decide +kernel
theorem dX2_stepBack_91 : decode cX2_stepBack 91 = .ok (.goto 3, 3) := by decide +kernel
theorem dX2_stepBack_94 : decode cX2_stepBack 94 = .ok (.aload_n 0, 1) := by decide +kernel
theorem dX2_stepBack_95 : decode cX2_stepBack 95 = .ok (.iconst 0, 1) := by decide +kernel
theorem dX2_stepBack_96 : decode cX2_stepBack 96 = .ok (.invokevirtual 34, 3) := by decide +kernel
theorem dX2_stepBack_99 : decode cX2_stepBack 99 = .ok (.return_, 1) := by decide +kernel
theorem dX2_changed_0 : decode cX2_changed 0 = .ok (.aload_n 0, 1) := by decide +kernel
theorem dX2_changed_1 : decode cX2_changed 1 = .ok (.iload_n 1, 1) := by decide +kernel
theorem dX2_changed_2 : decode cX2_changed 2 = .ok (.putfield 24, 3) := by decide +kernel
theorem dX2_changed_5 : decode cX2_changed 5 = .ok (.aload_n 0, 1) := by decide +kernel
theorem dX2_changed_6 : decode cX2_changed 6 = .ok (.dup, 1) := by decide +kernel
theorem dX2_changed_7 : decode cX2_changed 7 = .ok (.getfield 55, 3) := by decide +kernel
theorem dX2_changed_10 : decode cX2_changed 10 = .ok (.iconst 1, 1) := by decide +kernel
theorem dX2_changed_11 : decode cX2_changed 11 = .ok (.iadd, 1) := by decide +kernel
theorem dX2_changed_12 : decode cX2_changed 12 = .ok (.putfield 55, 3) := by decide +kernel
theorem dX2_changed_15 : decode cX2_changed 15 = .ok (.return_, 1) := by decide +kernel
theorem dX2_numberOf_0 : decode cX2_numberOf 0 = .ok (.iload_n 2, 1) := by decide +kernel
theorem dX2_numberOf_1 : decode cX2_numberOf 1 = .ok (.tableswitch 48 0 2 #[27, 34, 41], 27) := by decide +kernel
theorem dX2_numberOf_28 : decode cX2_numberOf 28 = .ok (.aload_n 0, 1) := by decide +kernel
theorem dX2_numberOf_29 : decode cX2_numberOf 29 = .ok (.getfield 9, 3) := by decide +kernel
theorem dX2_numberOf_32 : decode cX2_numberOf 32 = .ok (.iload_n 1, 1) := by decide +kernel
theorem dX2_numberOf_33 : decode cX2_numberOf 33 = .ok (.iaload, 1) := by decide +kernel
theorem dX2_numberOf_34 : decode cX2_numberOf 34 = .ok (.ireturn, 1) := by decide +kernel
theorem dX2_numberOf_35 : decode cX2_numberOf 35 = .ok (.aload_n 0, 1) := by decide +kernel
theorem dX2_numberOf_36 : decode cX2_numberOf 36 = .ok (.getfield 15, 3) := by decide +kernel
theorem dX2_numberOf_39 : decode cX2_numberOf 39 = .ok (.iload_n 1, 1) := by decide +kernel
theorem dX2_numberOf_40 : decode cX2_numberOf 40 = .ok (.iaload, 1) := by decide +kernel
theorem dX2_numberOf_41 : decode cX2_numberOf 41 = .ok (.ireturn, 1) := by decide +kernel
theorem dX2_numberOf_42 : decode cX2_numberOf 42 = .ok (.aload_n 0, 1) := by decide +kernel
theorem dX2_numberOf_43 : decode cX2_numberOf 43 = .ok (.getfield 18, 3) := by decide +kernel
theorem dX2_numberOf_46 : decode cX2_numberOf 46 = .ok (.iload_n 1, 1) := by decide +kernel
theorem dX2_numberOf_47 : decode cX2_numberOf 47 = .ok (.iaload, 1) := by decide +kernel
theorem dX2_numberOf_48 : decode cX2_numberOf 48 = .ok (.ireturn, 1) := by decide +kernel
theorem dX2_numberOf_49 : decode cX2_numberOf 49 = .ok (.aload_n 0, 1) := by decide +kernel
theorem dX2_numberOf_50 : decode cX2_numberOf 50 = .ok (.getfield 21, 3) := by decide +kernel
theorem dX2_numberOf_53 : decode cX2_numberOf 53 = .ok (.iload_n 1, 1) := by decide +kernel
theorem dX2_numberOf_54 : decode cX2_numberOf 54 = .ok (.iaload, 1) := by decide +kernel
theorem dX2_numberOf_55 : decode cX2_numberOf 55 = .ok (.ireturn, 1) := by decide +kernel
theorem dX2_sumOver_0 : decode cX2_sumOver 0 = .ok (.iconst 0, 1) := by decide +kernel
theorem dX2_sumOver_1 : decode cX2_sumOver 1 = .ok (.istore_n 3, 1) := by decide +kernel
theorem dX2_sumOver_2 : decode cX2_sumOver 2 = .ok (.iconst 0, 1) := by decide +kernel
theorem dX2_sumOver_3 : decode cX2_sumOver 3 = .ok (.istore 4, 2) := by decide +kernel
theorem dX2_sumOver_5 : decode cX2_sumOver 5 = .ok (.iload 4, 2) := by decide +kernel
theorem dX2_sumOver_7 : decode cX2_sumOver 7 = .ok (.aload_n 0, 1) := by decide +kernel
theorem dX2_sumOver_8 : decode cX2_sumOver 8 = .ok (.getfield 31, 3) := by decide +kernel
theorem dX2_sumOver_11 : decode cX2_sumOver 11 = .ok (.if_icmp .ge 25, 3) := by decide +kernel
theorem dX2_sumOver_14 : decode cX2_sumOver 14 = .ok (.iload_n 2, 1) := by decide +kernel
theorem dX2_sumOver_15 : decode cX2_sumOver 15 = .ok (.iload 4, 2) := by decide +kernel
theorem dX2_sumOver_17 : decode cX2_sumOver 17 = .ok (.ishr, 1) := by decide +kernel
theorem dX2_sumOver_18 : decode cX2_sumOver 18 = .ok (.iconst 1, 1) := by decide +kernel
theorem dX2_sumOver_19 : decode cX2_sumOver 19 = .ok (.iand, 1) := by decide +kernel
theorem dX2_sumOver_20 : decode cX2_sumOver 20 = .ok (.ifCond .eq 10, 3) := by decide +kernel
theorem dX2_sumOver_23 : decode cX2_sumOver 23 = .ok (.iload_n 3, 1) := by decide +kernel
theorem dX2_sumOver_24 : decode cX2_sumOver 24 = .ok (.aload_n 1, 1) := by decide +kernel
theorem dX2_sumOver_25 : decode cX2_sumOver 25 = .ok (.iload 4, 2) := by decide +kernel
theorem dX2_sumOver_27 : decode cX2_sumOver 27 = .ok (.iaload, 1) := by decide +kernel
theorem dX2_sumOver_28 : decode cX2_sumOver 28 = .ok (.iadd, 1) := by decide +kernel
theorem dX2_sumOver_29 : decode cX2_sumOver 29 = .ok (.istore_n 3, 1) := by decide +kernel
theorem dX2_sumOver_30 : decode cX2_sumOver 30 = .ok (.iinc 4 1, 3) := by decide +kernel
theorem dX2_sumOver_33 : decode cX2_sumOver 33 = .ok (.goto (-28), 3) := by decide +kernel
theorem dX2_sumOver_36 : decode cX2_sumOver 36 = .ok (.iload_n 3, 1) := by decide +kernel
theorem dX2_sumOver_37 : decode cX2_sumOver 37 = .ok (.ireturn, 1) := by decide +kernel
theorem dX2_lineCost_0 : decode cX2_lineCost 0 = .ok (.aload_n 0, 1) := by decide +kernel
theorem dX2_lineCost_1 : decode cX2_lineCost 1 = .ok (.getfield 18, 3) := by decide +kernel
theorem dX2_lineCost_4 : decode cX2_lineCost 4 = .ok (.iload_n 1, 1) := by decide +kernel
theorem dX2_lineCost_5 : decode cX2_lineCost 5 = .ok (.iaload, 1) := by decide +kernel
theorem dX2_lineCost_6 : decode cX2_lineCost 6 = .ok (.i2l, 1) := by decide +kernel
theorem dX2_lineCost_7 : decode cX2_lineCost 7 = .ok (.iload_n 3, 1) := by decide +kernel
theorem dX2_lineCost_8 : decode cX2_lineCost 8 = .ok (.i2l, 1) := by decide +kernel
theorem dX2_lineCost_9 : decode cX2_lineCost 9 = .ok (.lmul, 1) := by decide +kernel
theorem dX2_lineCost_10 : decode cX2_lineCost 10 = .ok (.aload_n 0, 1) := by decide +kernel
theorem dX2_lineCost_11 : decode cX2_lineCost 11 = .ok (.getfield 21, 3) := by decide +kernel
theorem dX2_lineCost_14 : decode cX2_lineCost 14 = .ok (.iload_n 1, 1) := by decide +kernel
theorem dX2_lineCost_15 : decode cX2_lineCost 15 = .ok (.iaload, 1) := by decide +kernel
theorem dX2_lineCost_16 : decode cX2_lineCost 16 = .ok (.i2l, 1) := by decide +kernel
theorem dX2_lineCost_17 : decode cX2_lineCost 17 = .ok (.iload_n 2, 1) := by decide +kernel
theorem dX2_lineCost_18 : decode cX2_lineCost 18 = .ok (.i2l, 1) := by decide +kernel
theorem dX2_lineCost_19 : decode cX2_lineCost 19 = .ok (.lmul, 1) := by decide +kernel
theorem dX2_lineCost_20 : decode cX2_lineCost 20 = .ok (.ladd, 1) := by decide +kernel
theorem dX2_lineCost_21 : decode cX2_lineCost 21 = .ok (.lreturn, 1) := by decide +kernel
theorem dX2_hangingWith_0 : decode cX2_hangingWith 0 = .ok (.iconst 1, 1) := by decide +kernel
theorem dX2_hangingWith_1 : decode cX2_hangingWith 1 = .ok (.iload_n 1, 1) := by decide +kernel
theorem dX2_hangingWith_2 : decode cX2_hangingWith 2 = .ok (.ishl, 1) := by decide +kernel
theorem dX2_hangingWith_3 : decode cX2_hangingWith 3 = .ok (.istore_n 3, 1) := by decide +kernel
theorem dX2_hangingWith_4 : decode cX2_hangingWith 4 = .ok (.iconst 0, 1) := by decide +kernel
theorem dX2_hangingWith_5 : decode cX2_hangingWith 5 = .ok (.istore 4, 2) := by decide +kernel
theorem dX2_hangingWith_7 : decode cX2_hangingWith 7 = .ok (.iload 4, 2) := by decide +kernel
theorem dX2_hangingWith_9 : decode cX2_hangingWith 9 = .ok (.aload_n 0, 1) := by decide +kernel
theorem dX2_hangingWith_10 : decode cX2_hangingWith 10 = .ok (.getfield 28, 3) := by decide +kernel
theorem dX2_hangingWith_13 : decode cX2_hangingWith 13 = .ok (.if_icmp .ge 81, 3) := by decide +kernel
theorem dX2_hangingWith_16 : decode cX2_hangingWith 16 = .ok (.iload_n 3, 1) := by decide +kernel
theorem dX2_hangingWith_17 : decode cX2_hangingWith 17 = .ok (.istore 5, 2) := by decide +kernel
theorem dX2_hangingWith_19 : decode cX2_hangingWith 19 = .ok (.iconst 0, 1) := by decide +kernel
theorem dX2_hangingWith_20 : decode cX2_hangingWith 20 = .ok (.istore 6, 2) := by decide +kernel
theorem dX2_hangingWith_22 : decode cX2_hangingWith 22 = .ok (.iload 6, 2) := by decide +kernel
theorem dX2_hangingWith_24 : decode cX2_hangingWith 24 = .ok (.aload_n 0, 1) := by decide +kernel
theorem dX2_hangingWith_25 : decode cX2_hangingWith 25 = .ok (.getfield 31, 3) := by decide +kernel
theorem dX2_hangingWith_28 : decode cX2_hangingWith 28 = .ok (.if_icmp .ge 51, 3) := by decide +kernel
theorem dX2_hangingWith_31 : decode cX2_hangingWith 31 = .ok (.iconst 1, 1) := by decide +kernel
theorem dX2_hangingWith_32 : decode cX2_hangingWith 32 = .ok (.aload_n 0, 1) := by decide +kernel
theorem dX2_hangingWith_33 : decode cX2_hangingWith 33 = .ok (.getfield 9, 3) := by decide +kernel
theorem dX2_hangingWith_36 : decode cX2_hangingWith 36 = .ok (.iload 6, 2) := by decide +kernel
theorem dX2_hangingWith_38 : decode cX2_hangingWith 38 = .ok (.iaload, 1) := by decide +kernel
theorem dX2_hangingWith_39 : decode cX2_hangingWith 39 = .ok (.ishl, 1) := by decide +kernel
theorem dX2_hangingWith_40 : decode cX2_hangingWith 40 = .ok (.iconst 1, 1) := by decide +kernel
theorem dX2_hangingWith_41 : decode cX2_hangingWith 41 = .ok (.aload_n 0, 1) := by decide +kernel
theorem dX2_hangingWith_42 : decode cX2_hangingWith 42 = .ok (.getfield 15, 3) := by decide +kernel
theorem dX2_hangingWith_45 : decode cX2_hangingWith 45 = .ok (.iload 6, 2) := by decide +kernel
theorem dX2_hangingWith_47 : decode cX2_hangingWith 47 = .ok (.iaload, 1) := by decide +kernel
theorem dX2_hangingWith_48 : decode cX2_hangingWith 48 = .ok (.ishl, 1) := by decide +kernel
theorem dX2_hangingWith_49 : decode cX2_hangingWith 49 = .ok (.ior, 1) := by decide +kernel
theorem dX2_hangingWith_50 : decode cX2_hangingWith 50 = .ok (.istore 7, 2) := by decide +kernel
theorem dX2_hangingWith_52 : decode cX2_hangingWith 52 = .ok (.iload_n 2, 1) := by decide +kernel
theorem dX2_hangingWith_53 : decode cX2_hangingWith 53 = .ok (.iload 6, 2) := by decide +kernel
theorem dX2_hangingWith_55 : decode cX2_hangingWith 55 = .ok (.ishr, 1) := by decide +kernel
theorem dX2_hangingWith_56 : decode cX2_hangingWith 56 = .ok (.iconst 1, 1) := by decide +kernel
theorem dX2_hangingWith_57 : decode cX2_hangingWith 57 = .ok (.iand, 1) := by decide +kernel
theorem dX2_hangingWith_58 : decode cX2_hangingWith 58 = .ok (.ifCond .eq 15, 3) := by decide +kernel
theorem dX2_hangingWith_61 : decode cX2_hangingWith 61 = .ok (.iload_n 3, 1) := by decide +kernel
theorem dX2_hangingWith_62 : decode cX2_hangingWith 62 = .ok (.iload 7, 2) := by decide +kernel
theorem dX2_hangingWith_64 : decode cX2_hangingWith 64 = .ok (.iand, 1) := by decide +kernel
theorem dX2_hangingWith_65 : decode cX2_hangingWith 65 = .ok (.ifCond .eq 8, 3) := by decide +kernel
theorem dX2_hangingWith_68 : decode cX2_hangingWith 68 = .ok (.iload_n 3, 1) := by decide +kernel
theorem dX2_hangingWith_69 : decode cX2_hangingWith 69 = .ok (.iload 7, 2) := by decide +kernel
theorem dX2_hangingWith_71 : decode cX2_hangingWith 71 = .ok (.ior, 1) := by decide +kernel
theorem dX2_hangingWith_72 : decode cX2_hangingWith 72 = .ok (.istore_n 3, 1) := by decide +kernel
theorem dX2_hangingWith_73 : decode cX2_hangingWith 73 = .ok (.iinc 6 1, 3) := by decide +kernel
theorem dX2_hangingWith_76 : decode cX2_hangingWith 76 = .ok (.goto (-54), 3) := by decide +kernel
theorem dX2_hangingWith_79 : decode cX2_hangingWith 79 = .ok (.iload_n 3, 1) := by decide +kernel
theorem dX2_hangingWith_80 : decode cX2_hangingWith 80 = .ok (.iload 5, 2) := by decide +kernel
theorem dX2_hangingWith_82 : decode cX2_hangingWith 82 = .ok (.if_icmp .ne 6, 3) := by decide +kernel
theorem dX2_hangingWith_85 : decode cX2_hangingWith 85 = .ok (.goto 9, 3) := by decide +kernel
theorem dX2_hangingWith_88 : decode cX2_hangingWith 88 = .ok (.iinc 4 1, 3) := by decide +kernel
theorem dX2_hangingWith_91 : decode cX2_hangingWith 91 = .ok (.goto (-84), 3) := by decide +kernel
theorem dX2_hangingWith_94 : decode cX2_hangingWith 94 = .ok (.iload_n 3, 1) := by decide +kernel
theorem dX2_hangingWith_95 : decode cX2_hangingWith 95 = .ok (.ireturn, 1) := by decide +kernel
theorem dX2_ledToFrom_0 : decode cX2_ledToFrom 0 = .ok (.iconst 1, 1) := by decide +kernel
theorem dX2_ledToFrom_1 : decode cX2_ledToFrom 1 = .ok (.iload_n 1, 1) := by decide +kernel
theorem dX2_ledToFrom_2 : decode cX2_ledToFrom 2 = .ok (.ishl, 1) := by decide +kernel
theorem dX2_ledToFrom_3 : decode cX2_ledToFrom 3 = .ok (.istore_n 2, 1) := by decide +kernel
theorem dX2_ledToFrom_4 : decode cX2_ledToFrom 4 = .ok (.iconst 0, 1) := by decide +kernel
theorem dX2_ledToFrom_5 : decode cX2_ledToFrom 5 = .ok (.istore_n 3, 1) := by decide +kernel
theorem dX2_ledToFrom_6 : decode cX2_ledToFrom 6 = .ok (.iload_n 3, 1) := by decide +kernel
theorem dX2_ledToFrom_7 : decode cX2_ledToFrom 7 = .ok (.aload_n 0, 1) := by decide +kernel
theorem dX2_ledToFrom_8 : decode cX2_ledToFrom 8 = .ok (.getfield 28, 3) := by decide +kernel
theorem dX2_ledToFrom_11 : decode cX2_ledToFrom 11 = .ok (.if_icmp .ge 65, 3) := by decide +kernel
theorem dX2_ledToFrom_14 : decode cX2_ledToFrom 14 = .ok (.iload_n 2, 1) := by decide +kernel
theorem dX2_ledToFrom_15 : decode cX2_ledToFrom 15 = .ok (.istore 4, 2) := by decide +kernel
theorem dX2_ledToFrom_17 : decode cX2_ledToFrom 17 = .ok (.iconst 0, 1) := by decide +kernel
theorem dX2_ledToFrom_18 : decode cX2_ledToFrom 18 = .ok (.istore 5, 2) := by decide +kernel
theorem dX2_ledToFrom_20 : decode cX2_ledToFrom 20 = .ok (.iload 5, 2) := by decide +kernel
theorem dX2_ledToFrom_22 : decode cX2_ledToFrom 22 = .ok (.aload_n 0, 1) := by decide +kernel
theorem dX2_ledToFrom_23 : decode cX2_ledToFrom 23 = .ok (.getfield 31, 3) := by decide +kernel
theorem dX2_ledToFrom_26 : decode cX2_ledToFrom 26 = .ok (.if_icmp .ge 35, 3) := by decide +kernel
theorem dX2_ledToFrom_29 : decode cX2_ledToFrom 29 = .ok (.iload_n 2, 1) := by decide +kernel
theorem dX2_ledToFrom_30 : decode cX2_ledToFrom 30 = .ok (.aload_n 0, 1) := by decide +kernel
theorem dX2_ledToFrom_31 : decode cX2_ledToFrom 31 = .ok (.getfield 9, 3) := by decide +kernel
theorem dX2_ledToFrom_34 : decode cX2_ledToFrom 34 = .ok (.iload 5, 2) := by decide +kernel
theorem dX2_ledToFrom_36 : decode cX2_ledToFrom 36 = .ok (.iaload, 1) := by decide +kernel
theorem dX2_ledToFrom_37 : decode cX2_ledToFrom 37 = .ok (.ishr, 1) := by decide +kernel
theorem dX2_ledToFrom_38 : decode cX2_ledToFrom 38 = .ok (.iconst 1, 1) := by decide +kernel
theorem dX2_ledToFrom_39 : decode cX2_ledToFrom 39 = .ok (.iand, 1) := by decide +kernel
theorem dX2_ledToFrom_40 : decode cX2_ledToFrom 40 = .ok (.ifCond .eq 15, 3) := by decide +kernel
theorem dX2_ledToFrom_43 : decode cX2_ledToFrom 43 = .ok (.iload_n 2, 1) := by decide +kernel
theorem dX2_ledToFrom_44 : decode cX2_ledToFrom 44 = .ok (.iconst 1, 1) := by decide +kernel
theorem dX2_ledToFrom_45 : decode cX2_ledToFrom 45 = .ok (.aload_n 0, 1) := by decide +kernel
theorem dX2_ledToFrom_46 : decode cX2_ledToFrom 46 = .ok (.getfield 15, 3) := by decide +kernel
theorem dX2_ledToFrom_49 : decode cX2_ledToFrom 49 = .ok (.iload 5, 2) := by decide +kernel
theorem dX2_ledToFrom_51 : decode cX2_ledToFrom 51 = .ok (.iaload, 1) := by decide +kernel
theorem dX2_ledToFrom_52 : decode cX2_ledToFrom 52 = .ok (.ishl, 1) := by decide +kernel
theorem dX2_ledToFrom_53 : decode cX2_ledToFrom 53 = .ok (.ior, 1) := by decide +kernel
theorem dX2_ledToFrom_54 : decode cX2_ledToFrom 54 = .ok (.istore_n 2, 1) := by decide +kernel
theorem dX2_ledToFrom_55 : decode cX2_ledToFrom 55 = .ok (.iinc 5 1, 3) := by decide +kernel
theorem dX2_ledToFrom_58 : decode cX2_ledToFrom 58 = .ok (.goto (-38), 3) := by decide +kernel
theorem dX2_ledToFrom_61 : decode cX2_ledToFrom 61 = .ok (.iload_n 2, 1) := by decide +kernel
theorem dX2_ledToFrom_62 : decode cX2_ledToFrom 62 = .ok (.iload 4, 2) := by decide +kernel
theorem dX2_ledToFrom_64 : decode cX2_ledToFrom 64 = .ok (.if_icmp .ne 6, 3) := by decide +kernel
theorem dX2_ledToFrom_67 : decode cX2_ledToFrom 67 = .ok (.goto 9, 3) := by decide +kernel
theorem dX2_ledToFrom_70 : decode cX2_ledToFrom 70 = .ok (.iinc 3 1, 3) := by decide +kernel
theorem dX2_ledToFrom_73 : decode cX2_ledToFrom 73 = .ok (.goto (-67), 3) := by decide +kernel
theorem dX2_ledToFrom_76 : decode cX2_ledToFrom 76 = .ok (.iload_n 2, 1) := by decide +kernel
theorem dX2_ledToFrom_77 : decode cX2_ledToFrom 77 = .ok (.ireturn, 1) := by decide +kernel
theorem dX2_beside_0 : decode cX2_beside 0 = .ok (.iconst 0, 1) := by decide +kernel
theorem dX2_beside_1 : decode cX2_beside 1 = .ok (.istore_n 3, 1) := by decide +kernel
theorem dX2_beside_2 : decode cX2_beside 2 = .ok (.iconst 0, 1) := by decide +kernel
theorem dX2_beside_3 : decode cX2_beside 3 = .ok (.istore 4, 2) := by decide +kernel
theorem dX2_beside_5 : decode cX2_beside 5 = .ok (.iload 4, 2) := by decide +kernel
theorem dX2_beside_7 : decode cX2_beside 7 = .ok (.aload_n 0, 1) := by decide +kernel
theorem dX2_beside_8 : decode cX2_beside 8 = .ok (.getfield 31, 3) := by decide +kernel
theorem dX2_beside_11 : decode cX2_beside 11 = .ok (.if_icmp .ge 69, 3) := by decide +kernel
theorem dX2_beside_14 : decode cX2_beside 14 = .ok (.iconst 1, 1) := by decide +kernel
theorem dX2_beside_15 : decode cX2_beside 15 = .ok (.aload_n 0, 1) := by decide +kernel
theorem dX2_beside_16 : decode cX2_beside 16 = .ok (.getfield 9, 3) := by decide +kernel
theorem dX2_beside_19 : decode cX2_beside 19 = .ok (.iload 4, 2) := by decide +kernel
theorem dX2_beside_21 : decode cX2_beside 21 = .ok (.iaload, 1) := by decide +kernel
theorem dX2_beside_22 : decode cX2_beside 22 = .ok (.ishl, 1) := by decide +kernel
theorem dX2_beside_23 : decode cX2_beside 23 = .ok (.istore 5, 2) := by decide +kernel
theorem dX2_beside_25 : decode cX2_beside 25 = .ok (.iconst 1, 1) := by decide +kernel
theorem dX2_beside_26 : decode cX2_beside 26 = .ok (.aload_n 0, 1) := by decide +kernel
theorem dX2_beside_27 : decode cX2_beside 27 = .ok (.getfield 15, 3) := by decide +kernel
theorem dX2_beside_30 : decode cX2_beside 30 = .ok (.iload 4, 2) := by decide +kernel
theorem dX2_beside_32 : decode cX2_beside 32 = .ok (.iaload, 1) := by decide +kernel
theorem dX2_beside_33 : decode cX2_beside 33 = .ok (.ishl, 1) := by decide +kernel
theorem dX2_beside_34 : decode cX2_beside 34 = .ok (.istore 6, 2) := by decide +kernel
theorem dX2_beside_36 : decode cX2_beside 36 = .ok (.iload_n 1, 1) := by decide +kernel
theorem dX2_beside_37 : decode cX2_beside 37 = .ok (.iload 5, 2) := by decide +kernel
theorem dX2_beside_39 : decode cX2_beside 39 = .ok (.iand, 1) := by decide +kernel
theorem dX2_beside_40 : decode cX2_beside 40 = .ok (.ifCond .eq 15, 3) := by decide +kernel
theorem dX2_beside_43 : decode cX2_beside 43 = .ok (.iload_n 2, 1) := by decide +kernel
theorem dX2_beside_44 : decode cX2_beside 44 = .ok (.iload 6, 2) := by decide +kernel
theorem dX2_beside_46 : decode cX2_beside 46 = .ok (.iand, 1) := by decide +kernel
theorem dX2_beside_47 : decode cX2_beside 47 = .ok (.ifCond .ne 8, 3) := by decide +kernel
theorem dX2_beside_50 : decode cX2_beside 50 = .ok (.iload_n 3, 1) := by decide +kernel
theorem dX2_beside_51 : decode cX2_beside 51 = .ok (.iload 6, 2) := by decide +kernel
theorem dX2_beside_53 : decode cX2_beside 53 = .ok (.ior, 1) := by decide +kernel
theorem dX2_beside_54 : decode cX2_beside 54 = .ok (.istore_n 3, 1) := by decide +kernel
theorem dX2_beside_55 : decode cX2_beside 55 = .ok (.iload_n 1, 1) := by decide +kernel
theorem dX2_beside_56 : decode cX2_beside 56 = .ok (.iload 6, 2) := by decide +kernel
theorem dX2_beside_58 : decode cX2_beside 58 = .ok (.iand, 1) := by decide +kernel
theorem dX2_beside_59 : decode cX2_beside 59 = .ok (.ifCond .eq 15, 3) := by decide +kernel
theorem dX2_beside_62 : decode cX2_beside 62 = .ok (.iload_n 2, 1) := by decide +kernel
theorem dX2_beside_63 : decode cX2_beside 63 = .ok (.iload 5, 2) := by decide +kernel
theorem dX2_beside_65 : decode cX2_beside 65 = .ok (.iand, 1) := by decide +kernel
theorem dX2_beside_66 : decode cX2_beside 66 = .ok (.ifCond .ne 8, 3) := by decide +kernel
theorem dX2_beside_69 : decode cX2_beside 69 = .ok (.iload_n 3, 1) := by decide +kernel
theorem dX2_beside_70 : decode cX2_beside 70 = .ok (.iload 5, 2) := by decide +kernel
theorem dX2_beside_72 : decode cX2_beside 72 = .ok (.ior, 1) := by decide +kernel
theorem dX2_beside_73 : decode cX2_beside 73 = .ok (.istore_n 3, 1) := by decide +kernel
theorem dX2_beside_74 : decode cX2_beside 74 = .ok (.iinc 4 1, 3) := by decide +kernel
theorem dX2_beside_77 : decode cX2_beside 77 = .ok (.goto (-72), 3) := by decide +kernel
theorem dX2_beside_80 : decode cX2_beside 80 = .ok (.iload_n 3, 1) := by decide +kernel
theorem dX2_beside_81 : decode cX2_beside 81 = .ok (.ireturn, 1) := by decide +kernel
theorem dX2_dearestBetween_0 : decode cX2_dearestBetween 0 = .ok (.iconst (-1), 1) := by decide +kernel
theorem dX2_dearestBetween_1 : decode cX2_dearestBetween 1 = .ok (.istore 5, 2) := by decide +kernel
theorem dX2_dearestBetween_3 : decode cX2_dearestBetween 3 = .ok (.iconst 0, 1) := by decide +kernel
theorem dX2_dearestBetween_4 : decode cX2_dearestBetween 4 = .ok (.istore 6, 2) := by decide +kernel
theorem dX2_dearestBetween_6 : decode cX2_dearestBetween 6 = .ok (.iload 6, 2) := by decide +kernel
theorem dX2_dearestBetween_8 : decode cX2_dearestBetween 8 = .ok (.aload_n 0, 1) := by decide +kernel
theorem dX2_dearestBetween_9 : decode cX2_dearestBetween 9 = .ok (.getfield 31, 3) := by decide +kernel
theorem dX2_dearestBetween_12 : decode cX2_dearestBetween 12 = .ok (.if_icmp .ge 60, 3) := by decide +kernel
theorem dX2_dearestBetween_15 : decode cX2_dearestBetween 15 = .ok (.iload_n 1, 1) := by decide +kernel
theorem dX2_dearestBetween_16 : decode cX2_dearestBetween 16 = .ok (.iload 6, 2) := by decide +kernel
theorem dX2_dearestBetween_18 : decode cX2_dearestBetween 18 = .ok (.ishr, 1) := by decide +kernel
theorem dX2_dearestBetween_19 : decode cX2_dearestBetween 19 = .ok (.iconst 1, 1) := by decide +kernel
theorem dX2_dearestBetween_20 : decode cX2_dearestBetween 20 = .ok (.iand, 1) := by decide +kernel
theorem dX2_dearestBetween_21 : decode cX2_dearestBetween 21 = .ok (.ifCond .eq 45, 3) := by decide +kernel
theorem dX2_dearestBetween_24 : decode cX2_dearestBetween 24 = .ok (.aload_n 0, 1) := by decide +kernel
theorem dX2_dearestBetween_25 : decode cX2_dearestBetween 25 = .ok (.iload_n 1, 1) := by decide +kernel
theorem dX2_dearestBetween_26 : decode cX2_dearestBetween 26 = .ok (.iload 6, 2) := by decide +kernel
theorem dX2_dearestBetween_28 : decode cX2_dearestBetween 28 = .ok (.iload_n 2, 1) := by decide +kernel
theorem dX2_dearestBetween_29 : decode cX2_dearestBetween 29 = .ok (.invokevirtual 58, 3) := by decide +kernel
theorem dX2_dearestBetween_32 : decode cX2_dearestBetween 32 = .ok (.ifCond .eq 34, 3) := by decide +kernel
theorem dX2_dearestBetween_35 : decode cX2_dearestBetween 35 = .ok (.iload 5, 2) := by decide +kernel
theorem dX2_dearestBetween_37 : decode cX2_dearestBetween 37 = .ok (.ifCond .lt 25, 3) := by decide +kernel
theorem dX2_dearestBetween_40 : decode cX2_dearestBetween 40 = .ok (.aload_n 0, 1) := by decide +kernel
theorem dX2_dearestBetween_41 : decode cX2_dearestBetween 41 = .ok (.iload 6, 2) := by decide +kernel
theorem dX2_dearestBetween_43 : decode cX2_dearestBetween 43 = .ok (.iload_n 3, 1) := by decide +kernel
theorem dX2_dearestBetween_44 : decode cX2_dearestBetween 44 = .ok (.iload 4, 2) := by decide +kernel
theorem dX2_dearestBetween_46 : decode cX2_dearestBetween 46 = .ok (.invokevirtual 62, 3) := by decide +kernel
theorem dX2_dearestBetween_49 : decode cX2_dearestBetween 49 = .ok (.aload_n 0, 1) := by decide +kernel
theorem dX2_dearestBetween_50 : decode cX2_dearestBetween 50 = .ok (.iload 5, 2) := by decide +kernel
theorem dX2_dearestBetween_52 : decode cX2_dearestBetween 52 = .ok (.iload_n 3, 1) := by decide +kernel
theorem dX2_dearestBetween_53 : decode cX2_dearestBetween 53 = .ok (.iload 4, 2) := by decide +kernel
theorem dX2_dearestBetween_55 : decode cX2_dearestBetween 55 = .ok (.invokevirtual 62, 3) := by decide +kernel
theorem dX2_dearestBetween_58 : decode cX2_dearestBetween 58 = .ok (.lcmp, 1) := by decide +kernel
theorem dX2_dearestBetween_59 : decode cX2_dearestBetween 59 = .ok (.ifCond .le 7, 3) := by decide +kernel
theorem dX2_dearestBetween_62 : decode cX2_dearestBetween 62 = .ok (.iload 6, 2) := by decide +kernel
theorem dX2_dearestBetween_64 : decode cX2_dearestBetween 64 = .ok (.istore 5, 2) := by decide +kernel
theorem dX2_dearestBetween_66 : decode cX2_dearestBetween 66 = .ok (.iinc 6 1, 3) := by decide +kernel
theorem dX2_dearestBetween_69 : decode cX2_dearestBetween 69 = .ok (.goto (-63), 3) := by decide +kernel
theorem dX2_dearestBetween_72 : decode cX2_dearestBetween 72 = .ok (.iload 5, 2) := by decide +kernel
theorem dX2_dearestBetween_74 : decode cX2_dearestBetween 74 = .ok (.ireturn, 1) := by decide +kernel
theorem dX2_isBetween_0 : decode cX2_isBetween 0 = .ok (.iload_n 1, 1) := by decide +kernel
theorem dX2_isBetween_1 : decode cX2_isBetween 1 = .ok (.iconst 1, 1) := by decide +kernel
theorem dX2_isBetween_2 : decode cX2_isBetween 2 = .ok (.iload_n 2, 1) := by decide +kernel
theorem dX2_isBetween_3 : decode cX2_isBetween 3 = .ok (.ishl, 1) := by decide +kernel
theorem dX2_isBetween_4 : decode cX2_isBetween 4 = .ok (.iconst (-1), 1) := by decide +kernel
theorem dX2_isBetween_5 : decode cX2_isBetween 5 = .ok (.ixor, 1) := by decide +kernel
theorem dX2_isBetween_6 : decode cX2_isBetween 6 = .ok (.iand, 1) := by decide +kernel
theorem dX2_isBetween_7 : decode cX2_isBetween 7 = .ok (.istore 4, 2) := by decide +kernel
theorem dX2_isBetween_9 : decode cX2_isBetween 9 = .ok (.aload_n 0, 1) := by decide +kernel
theorem dX2_isBetween_10 : decode cX2_isBetween 10 = .ok (.aload_n 0, 1) := by decide +kernel
theorem dX2_isBetween_11 : decode cX2_isBetween 11 = .ok (.getfield 9, 3) := by decide +kernel
theorem dX2_isBetween_14 : decode cX2_isBetween 14 = .ok (.iload_n 3, 1) := by decide +kernel
theorem dX2_isBetween_15 : decode cX2_isBetween 15 = .ok (.iaload, 1) := by decide +kernel
theorem dX2_isBetween_16 : decode cX2_isBetween 16 = .ok (.iload 4, 2) := by decide +kernel
theorem dX2_isBetween_18 : decode cX2_isBetween 18 = .ok (.invokevirtual 66, 3) := by decide +kernel
theorem dX2_isBetween_21 : decode cX2_isBetween 21 = .ok (.aload_n 0, 1) := by decide +kernel
theorem dX2_isBetween_22 : decode cX2_isBetween 22 = .ok (.getfield 15, 3) := by decide +kernel
theorem dX2_isBetween_25 : decode cX2_isBetween 25 = .ok (.iload_n 3, 1) := by decide +kernel
theorem dX2_isBetween_26 : decode cX2_isBetween 26 = .ok (.iaload, 1) := by decide +kernel
theorem dX2_isBetween_27 : decode cX2_isBetween 27 = .ok (.ishr, 1) := by decide +kernel
theorem dX2_isBetween_28 : decode cX2_isBetween 28 = .ok (.iconst 1, 1) := by decide +kernel
theorem dX2_isBetween_29 : decode cX2_isBetween 29 = .ok (.iand, 1) := by decide +kernel
theorem dX2_isBetween_30 : decode cX2_isBetween 30 = .ok (.ifCond .ne 7, 3) := by decide +kernel
theorem dX2_isBetween_33 : decode cX2_isBetween 33 = .ok (.iconst 1, 1) := by decide +kernel
theorem dX2_isBetween_34 : decode cX2_isBetween 34 = .ok (.goto 4, 3) := by decide +kernel
theorem dX2_isBetween_37 : decode cX2_isBetween 37 = .ok (.iconst 0, 1) := by decide +kernel
theorem dX2_isBetween_38 : decode cX2_isBetween 38 = .ok (.ireturn, 1) := by decide +kernel
theorem dX3_init_0 : decode cX3_init 0 = .ok (.aload_n 0, 1) := by decide +kernel
theorem dX3_init_1 : decode cX3_init 1 = .ok (.invokespecial 3, 3) := by decide +kernel
theorem dX3_init_4 : decode cX3_init 4 = .ok (.aload_n 0, 1) := by decide +kernel
theorem dX3_init_5 : decode cX3_init 5 = .ok (.new 9, 3) := by decide +kernel
theorem dX3_init_8 : decode cX3_init 8 = .ok (.dup, 1) := by decide +kernel
theorem dX3_init_9 : decode cX3_init 9 = .ok (.invokespecial 11, 3) := by decide +kernel
theorem dX3_init_12 : decode cX3_init 12 = .ok (.putfield 12, 3) := by decide +kernel
theorem dX3_init_15 : decode cX3_init 15 = .ok (.aload_n 0, 1) := by decide +kernel
theorem dX3_init_16 : decode cX3_init 16 = .ok (.new 18, 3) := by decide +kernel
theorem dX3_init_19 : decode cX3_init 19 = .ok (.dup, 1) := by decide +kernel
theorem dX3_init_20 : decode cX3_init 20 = .ok (.invokespecial 20, 3) := by decide +kernel
theorem dX3_init_23 : decode cX3_init 23 = .ok (.putfield 21, 3) := by decide +kernel
theorem dX3_init_26 : decode cX3_init 26 = .ok (.aload_n 0, 1) := by decide +kernel
theorem dX3_init_27 : decode cX3_init 27 = .ok (.iconst (-1), 1) := by decide +kernel
theorem dX3_init_28 : decode cX3_init 28 = .ok (.putfield 25, 3) := by decide +kernel
theorem dX3_init_31 : decode cX3_init 31 = .ok (.aload_n 0, 1) := by decide +kernel
theorem dX3_init_32 : decode cX3_init 32 = .ok (.iconst (-1), 1) := by decide +kernel
theorem dX3_init_33 : decode cX3_init 33 = .ok (.putfield 29, 3) := by decide +kernel
theorem dX3_init_36 : decode cX3_init 36 = .ok (.aload_n 0, 1) := by decide +kernel
theorem dX3_init_37 : decode cX3_init 37 = .ok (.iload_n 1, 1) := by decide +kernel
theorem dX3_init_38 : decode cX3_init 38 = .ok (.putfield 32, 3) := by decide +kernel
theorem dX3_init_41 : decode cX3_init 41 = .ok (.aload_n 0, 1) := by decide +kernel
theorem dX3_init_42 : decode cX3_init 42 = .ok (.iload_n 2, 1) := by decide +kernel
theorem dX3_init_43 : decode cX3_init 43 = .ok (.putfield 35, 3) := by decide +kernel
theorem dX3_init_46 : decode cX3_init 46 = .ok (.return_, 1) := by decide +kernel
theorem dX3_renewChoices_0 : decode cX3_renewChoices 0 = .ok (.aload_n 0, 1) := by decide +kernel
theorem dX3_renewChoices_1 : decode cX3_renewChoices 1 = .ok (.getfield 25, 3) := by decide +kernel
theorem dX3_renewChoices_4 : decode cX3_renewChoices 4 = .ok (.aload_n 1, 1) := by decide +kernel
theorem dX3_renewChoices_5 : decode cX3_renewChoices 5 = .ok (.getfield 38, 3) := by decide +kernel
theorem dX3_renewChoices_8 : decode cX3_renewChoices 8 = .ok (.if_icmp .eq 28, 3) := by decide +kernel
theorem dX3_renewChoices_11 : decode cX3_renewChoices 11 = .ok (.aload_n 0, 1) := by decide +kernel
theorem dX3_renewChoices_12 : decode cX3_renewChoices 12 = .ok (.getfield 12, 3) := by decide +kernel
theorem dX3_renewChoices_15 : decode cX3_renewChoices 15 = .ok (.invokevirtual 43, 3) := by decide +kernel
theorem dX3_renewChoices_18 : decode cX3_renewChoices 18 = .ok (.aload_n 0, 1) := by decide +kernel
theorem dX3_renewChoices_19 : decode cX3_renewChoices 19 = .ok (.aload_n 1, 1) := by decide +kernel
theorem dX3_renewChoices_20 : decode cX3_renewChoices 20 = .ok (.invokevirtual 46, 3) := by decide +kernel
theorem dX3_renewChoices_23 : decode cX3_renewChoices 23 = .ok (.aload_n 0, 1) := by decide +kernel
theorem dX3_renewChoices_24 : decode cX3_renewChoices 24 = .ok (.aload_n 1, 1) := by decide +kernel
theorem dX3_renewChoices_25 : decode cX3_renewChoices 25 = .ok (.getfield 38, 3) := by decide +kernel
theorem dX3_renewChoices_28 : decode cX3_renewChoices 28 = .ok (.putfield 25, 3) := by decide +kernel
theorem dX3_renewChoices_31 : decode cX3_renewChoices 31 = .ok (.aload_n 0, 1) := by decide +kernel
theorem dX3_renewChoices_32 : decode cX3_renewChoices 32 = .ok (.iconst (-1), 1) := by decide +kernel
theorem dX3_renewChoices_33 : decode cX3_renewChoices 33 = .ok (.putfield 29, 3) := by decide +kernel
theorem dX3_renewChoices_36 : decode cX3_renewChoices 36 = .ok (.return_, 1) := by decide +kernel
theorem dX3_outdate_0 : decode cX3_outdate 0 = .ok (.aload_n 0, 1) := by decide +kernel
theorem dX3_outdate_1 : decode cX3_outdate 1 = .ok (.iconst (-1), 1) := by decide +kernel
theorem dX3_outdate_2 : decode cX3_outdate 2 = .ok (.putfield 25, 3) := by decide +kernel
theorem dX3_outdate_5 : decode cX3_outdate 5 = .ok (.return_, 1) := by decide +kernel
theorem dX3_bendsIn_0 : decode cX3_bendsIn 0 = .ok (.aload_n 0, 1) := by decide +kernel
theorem dX3_bendsIn_1 : decode cX3_bendsIn 1 = .ok (.getfield 29, 3) := by decide +kernel
theorem dX3_bendsIn_4 : decode cX3_bendsIn 4 = .ok (.aload_n 1, 1) := by decide +kernel
theorem dX3_bendsIn_5 : decode cX3_bendsIn 5 = .ok (.getfield 50, 3) := by decide +kernel
theorem dX3_bendsIn_8 : decode cX3_bendsIn 8 = .ok (.if_icmp .eq 23, 3) := by decide +kernel
theorem dX3_bendsIn_11 : decode cX3_bendsIn 11 = .ok (.aload_n 0, 1) := by decide +kernel
theorem dX3_bendsIn_12 : decode cX3_bendsIn 12 = .ok (.getfield 21, 3) := by decide +kernel
theorem dX3_bendsIn_15 : decode cX3_bendsIn 15 = .ok (.invokevirtual 53, 3) := by decide +kernel
theorem dX3_bendsIn_18 : decode cX3_bendsIn 18 = .ok (.aload_n 0, 1) := by decide +kernel
theorem dX3_bendsIn_19 : decode cX3_bendsIn 19 = .ok (.aload_n 1, 1) := by decide +kernel
theorem dX3_bendsIn_20 : decode cX3_bendsIn 20 = .ok (.invokevirtual 54, 3) := by decide +kernel
theorem dX3_bendsIn_23 : decode cX3_bendsIn 23 = .ok (.aload_n 0, 1) := by decide +kernel
theorem dX3_bendsIn_24 : decode cX3_bendsIn 24 = .ok (.aload_n 1, 1) := by decide +kernel
theorem dX3_bendsIn_25 : decode cX3_bendsIn 25 = .ok (.getfield 50, 3) := by decide +kernel
theorem dX3_bendsIn_28 : decode cX3_bendsIn 28 = .ok (.putfield 29, 3) := by decide +kernel
theorem dX3_bendsIn_31 : decode cX3_bendsIn 31 = .ok (.aload_n 0, 1) := by decide +kernel
theorem dX3_bendsIn_32 : decode cX3_bendsIn 32 = .ok (.getfield 21, 3) := by decide +kernel
theorem dX3_bendsIn_35 : decode cX3_bendsIn 35 = .ok (.areturn, 1) := by decide +kernel
theorem dX3_findBends_0 : decode cX3_findBends 0 = .ok (.aload_n 0, 1) := by decide +kernel
theorem dX3_findBends_1 : decode cX3_findBends 1 = .ok (.getfield 12, 3) := by decide +kernel
theorem dX3_findBends_4 : decode cX3_findBends 4 = .ok (.aload_n 1, 1) := by decide +kernel
theorem dX3_findBends_5 : decode cX3_findBends 5 = .ok (.getfield 58, 3) := by decide +kernel
theorem dX3_findBends_8 : decode cX3_findBends 8 = .ok (.aload_n 1, 1) := by decide +kernel
theorem dX3_findBends_9 : decode cX3_findBends 9 = .ok (.getfield 61, 3) := by decide +kernel
theorem dX3_findBends_12 : decode cX3_findBends 12 = .ok (.iconst 1, 1) := by decide +kernel
theorem dX3_findBends_13 : decode cX3_findBends 13 = .ok (.invokevirtual 64, 3) := by decide +kernel
theorem dX3_findBends_16 : decode cX3_findBends 16 = .ok (.istore_n 2, 1) := by decide +kernel
theorem dX3_findBends_17 : decode cX3_findBends 17 = .ok (.iconst 0, 1) := by decide +kernel
theorem dX3_findBends_18 : decode cX3_findBends 18 = .ok (.istore_n 3, 1) := by decide +kernel
theorem dX3_findBends_19 : decode cX3_findBends 19 = .ok (.iload_n 3, 1) := by decide +kernel
theorem dX3_findBends_20 : decode cX3_findBends 20 = .ok (.aload_n 0, 1) := by decide +kernel
theorem dX3_findBends_21 : decode cX3_findBends 21 = .ok (.getfield 12, 3) := by decide +kernel
theorem dX3_findBends_24 : decode cX3_findBends 24 = .ok (.getfield 68, 3) := by decide +kernel
theorem dX3_findBends_27 : decode cX3_findBends 27 = .ok (.if_icmp .ge 133, 3) := by decide +kernel
theorem dX3_findBends_30 : decode cX3_findBends 30 = .ok (.iload_n 2, 1) := by decide +kernel
theorem dX3_findBends_31 : decode cX3_findBends 31 = .ok (.ifCond .lt 129, 3) := by decide +kernel
theorem dX3_findBends_34 : decode cX3_findBends 34 = .ok (.aload_n 0, 1) := by decide +kernel
theorem dX3_findBends_35 : decode cX3_findBends 35 = .ok (.getfield 12, 3) := by decide +kernel
theorem dX3_findBends_38 : decode cX3_findBends 38 = .ok (.iload_n 2, 1) := by decide +kernel
theorem dX3_findBends_39 : decode cX3_findBends 39 = .ok (.invokevirtual 71, 3) := by decide +kernel
theorem dX3_findBends_42 : decode cX3_findBends 42 = .ok (.istore 4, 2) := by decide +kernel
theorem dX3_findBends_44 : decode cX3_findBends 44 = .ok (.iload 4, 2) := by decide +kernel
theorem dX3_findBends_46 : decode cX3_findBends 46 = .ok (.ifCond .lt 105, 3) := by decide +kernel
theorem dX3_findBends_49 : decode cX3_findBends 49 = .ok (.aload_n 0, 1) := by decide +kernel
theorem dX3_findBends_50 : decode cX3_findBends 50 = .ok (.getfield 12, 3) := by decide +kernel
theorem dX3_findBends_53 : decode cX3_findBends 53 = .ok (.getfield 75, 3) := by decide +kernel
theorem dX3_findBends_56 : decode cX3_findBends 56 = .ok (.iload 4, 2) := by decide +kernel
theorem dX3_findBends_58 : decode cX3_findBends 58 = .ok (.iaload, 1) := by decide +kernel
theorem dX3_findBends_59 : decode cX3_findBends 59 = .ok (.aload_n 0, 1) := by decide +kernel
theorem dX3_findBends_60 : decode cX3_findBends 60 = .ok (.getfield 12, 3) := by decide +kernel
theorem dX3_findBends_63 : decode cX3_findBends 63 = .ok (.getfield 75, 3) := by decide +kernel
theorem dX3_findBends_66 : decode cX3_findBends 66 = .ok (.iload_n 2, 1) := by decide +kernel
theorem dX3_findBends_67 : decode cX3_findBends 67 = .ok (.iaload, 1) := by decide +kernel
theorem dX3_findBends_68 : decode cX3_findBends 68 = .ok (.isub, 1) := by decide +kernel
theorem dX3_findBends_69 : decode cX3_findBends 69 = .ok (.i2l, 1) := by decide +kernel
theorem dX3_findBends_70 : decode cX3_findBends 70 = .ok (.lstore 5, 2) := by decide +kernel
theorem dX3_findBends_72 : decode cX3_findBends 72 = .ok (.aload_n 0, 1) := by decide +kernel
theorem dX3_findBends_73 : decode cX3_findBends 73 = .ok (.getfield 12, 3) := by decide +kernel
theorem dX3_findBends_76 : decode cX3_findBends 76 = .ok (.getfield 79, 3) := by decide +kernel
theorem dX3_findBends_79 : decode cX3_findBends 79 = .ok (.iload_n 2, 1) := by decide +kernel
theorem dX3_findBends_80 : decode cX3_findBends 80 = .ok (.iaload, 1) := by decide +kernel
theorem dX3_findBends_81 : decode cX3_findBends 81 = .ok (.aload_n 0, 1) := by decide +kernel
theorem dX3_findBends_82 : decode cX3_findBends 82 = .ok (.getfield 12, 3) := by decide +kernel
theorem dX3_findBends_85 : decode cX3_findBends 85 = .ok (.getfield 79, 3) := by decide +kernel
theorem dX3_findBends_88 : decode cX3_findBends 88 = .ok (.iload 4, 2) := by decide +kernel
theorem dX3_findBends_90 : decode cX3_findBends 90 = .ok (.iaload, 1) := by decide +kernel
theorem dX3_findBends_91 : decode cX3_findBends 91 = .ok (.isub, 1) := by decide +kernel
theorem dX3_findBends_92 : decode cX3_findBends 92 = .ok (.i2l, 1) := by decide +kernel
theorem dX3_findBends_93 : decode cX3_findBends 93 = .ok (.lstore 7, 2) := by decide +kernel
theorem dX3_findBends_95 : decode cX3_findBends 95 = .ok (.lload 5, 2) := by decide +kernel
theorem dX3_findBends_97 : decode cX3_findBends 97 = .ok (.lload 7, 2) := by decide +kernel
theorem dX3_findBends_99 : decode cX3_findBends 99 = .ok (.aload_n 1, 1) := by decide +kernel
theorem dX3_findBends_100 : decode cX3_findBends 100 = .ok (.getfield 82, 3) := by decide +kernel
theorem dX3_findBends_103 : decode cX3_findBends 103 = .ok (.i2l, 1) := by decide +kernel
theorem dX3_findBends_104 : decode cX3_findBends 104 = .ok (.aload_n 1, 1) := by decide +kernel
theorem dX3_findBends_105 : decode cX3_findBends 105 = .ok (.getfield 85, 3) := by decide +kernel
theorem dX3_findBends_108 : decode cX3_findBends 108 = .ok (.i2l, 1) := by decide +kernel
theorem dX3_findBends_109 : decode cX3_findBends 109 = .ok (.invokestatic 88, 3) := by decide +kernel
theorem dX3_findBends_112 : decode cX3_findBends 112 = .ok (.ifCond .eq 36, 3) := by decide +kernel
theorem dX3_findBends_115 : decode cX3_findBends 115 = .ok (.aload_n 0, 1) := by decide +kernel
theorem dX3_findBends_116 : decode cX3_findBends 116 = .ok (.getfield 21, 3) := by decide +kernel
theorem dX3_findBends_119 : decode cX3_findBends 119 = .ok (.lload 5, 2) := by decide +kernel
theorem dX3_findBends_121 : decode cX3_findBends 121 = .ok (.lload 7, 2) := by decide +kernel
theorem dX3_findBends_123 : decode cX3_findBends 123 = .ok (.aload_n 0, 1) := by decide +kernel
theorem dX3_findBends_124 : decode cX3_findBends 124 = .ok (.getfield 12, 3) := by decide +kernel
theorem dX3_findBends_127 : decode cX3_findBends 127 = .ok (.getfield 92, 3) := by decide +kernel
theorem dX3_findBends_130 : decode cX3_findBends 130 = .ok (.iload_n 2, 1) := by decide +kernel
theorem dX3_findBends_131 : decode cX3_findBends 131 = .ok (.iaload, 1) := by decide +kernel
theorem dX3_findBends_132 : decode cX3_findBends 132 = .ok (.aload_n 0, 1) := by decide +kernel
theorem dX3_findBends_133 : decode cX3_findBends 133 = .ok (.getfield 12, 3) := by decide +kernel
theorem dX3_findBends_136 : decode cX3_findBends 136 = .ok (.getfield 92, 3) := by decide +kernel
theorem dX3_findBends_139 : decode cX3_findBends 139 = .ok (.iload 4, 2) := by decide +kernel
theorem dX3_findBends_141 : decode cX3_findBends 141 = .ok (.iaload, 1) := by decide +kernel
theorem dX3_findBends_142 : decode cX3_findBends 142 = .ok (.invokevirtual 95, 3) := by decide +kernel
theorem dX3_findBends_145 : decode cX3_findBends 145 = .ok (.goto 6, 3) := by decide +kernel
theorem dX3_findBends_148 : decode cX3_findBends 148 = .ok (.iconst (-1), 1) := by decide +kernel
theorem dX3_findBends_149 : decode cX3_findBends 149 = .ok (.istore 4, 2) := by decide +kernel
theorem dX3_findBends_151 : decode cX3_findBends 151 = .ok (.iload 4, 2) := by decide +kernel
theorem dX3_findBends_153 : decode cX3_findBends 153 = .ok (.istore_n 2, 1) := by decide +kernel
theorem dX3_findBends_154 : decode cX3_findBends 154 = .ok (.iinc 3 1, 3) := by decide +kernel
theorem dX3_findBends_157 : decode cX3_findBends 157 = .ok (.goto (-138), 3) := by decide +kernel
theorem dX3_findBends_160 : decode cX3_findBends 160 = .ok (.return_, 1) := by decide +kernel
theorem dX4_init_0 : decode cX4_init 0 = .ok (.aload_n 0, 1) := by decide +kernel
theorem dX4_init_1 : decode cX4_init 1 = .ok (.iload_n 1, 1) := by decide +kernel
theorem dX4_init_2 : decode cX4_init 2 = .ok (.iconst 3, 1) := by decide +kernel
theorem dX4_init_3 : decode cX4_init 3 = .ok (.invokespecial 3, 3) := by decide +kernel
theorem dX4_init_6 : decode cX4_init 6 = .ok (.aload_n 0, 1) := by decide +kernel
theorem dX4_init_7 : decode cX4_init 7 = .ok (.iload_n 2, 1) := by decide +kernel
theorem dX4_init_8 : decode cX4_init 8 = .ok (.putfield 9, 3) := by decide +kernel
theorem dX4_init_11 : decode cX4_init 11 = .ok (.return_, 1) := by decide +kernel
theorem dX4_gather_0 : decode cX4_gather 0 = .ok (.aload_n 0, 1) := by decide +kernel
theorem dX4_gather_1 : decode cX4_gather 1 = .ok (.aload_n 1, 1) := by decide +kernel
theorem dX4_gather_2 : decode cX4_gather 2 = .ok (.iconst 0, 1) := by decide +kernel
theorem dX4_gather_3 : decode cX4_gather 3 = .ok (.iconst 0, 1) := by decide +kernel
theorem dX4_gather_4 : decode cX4_gather 4 = .ok (.aload_n 1, 1) := by decide +kernel
theorem dX4_gather_5 : decode cX4_gather 5 = .ok (.invokevirtual 15, 3) := by decide +kernel
theorem dX4_gather_8 : decode cX4_gather 8 = .ok (.invokestatic 21, 3) := by decide +kernel
theorem dX4_gather_11 : decode cX4_gather 11 = .ok (.return_, 1) := by decide +kernel
theorem dX4_pair_0 : decode cX4_pair 0 = .ok (.iload 4, 2) := by decide +kernel
theorem dX4_pair_2 : decode cX4_pair 2 = .ok (.ifCond .ne 13, 3) := by decide +kernel
theorem dX4_pair_5 : decode cX4_pair 5 = .ok (.aload_n 0, 1) := by decide +kernel
theorem dX4_pair_6 : decode cX4_pair 6 = .ok (.getfield 25, 3) := by decide +kernel
theorem dX4_pair_9 : decode cX4_pair 9 = .ok (.aload_n 1, 1) := by decide +kernel
theorem dX4_pair_10 : decode cX4_pair 10 = .ok (.iload_n 3, 1) := by decide +kernel
theorem dX4_pair_11 : decode cX4_pair 11 = .ok (.invokevirtual 29, 3) := by decide +kernel
theorem dX4_pair_14 : decode cX4_pair 14 = .ok (.return_, 1) := by decide +kernel
theorem dX4_pair_15 : decode cX4_pair 15 = .ok (.iload_n 2, 1) := by decide +kernel
theorem dX4_pair_16 : decode cX4_pair 16 = .ok (.aload_n 1, 1) := by decide +kernel
theorem dX4_pair_17 : decode cX4_pair 17 = .ok (.getfield 35, 3) := by decide +kernel
theorem dX4_pair_20 : decode cX4_pair 20 = .ok (.if_icmp .lt 4, 3) := by decide +kernel
theorem dX4_pair_23 : decode cX4_pair 23 = .ok (.return_, 1) := by decide +kernel
theorem dX4_pair_24 : decode cX4_pair 24 = .ok (.iconst 1, 1) := by decide +kernel
theorem dX4_pair_25 : decode cX4_pair 25 = .ok (.aload_n 1, 1) := by decide +kernel
theorem dX4_pair_26 : decode cX4_pair 26 = .ok (.getfield 38, 3) := by decide +kernel
theorem dX4_pair_29 : decode cX4_pair 29 = .ok (.iload_n 2, 1) := by decide +kernel
theorem dX4_pair_30 : decode cX4_pair 30 = .ok (.iaload, 1) := by decide +kernel
theorem dX4_pair_31 : decode cX4_pair 31 = .ok (.ishl, 1) := by decide +kernel
theorem dX4_pair_32 : decode cX4_pair 32 = .ok (.iconst 1, 1) := by decide +kernel
theorem dX4_pair_33 : decode cX4_pair 33 = .ok (.aload_n 1, 1) := by decide +kernel
theorem dX4_pair_34 : decode cX4_pair 34 = .ok (.getfield 42, 3) := by decide +kernel
theorem dX4_pair_37 : decode cX4_pair 37 = .ok (.iload_n 2, 1) := by decide +kernel
theorem dX4_pair_38 : decode cX4_pair 38 = .ok (.iaload, 1) := by decide +kernel
theorem dX4_pair_39 : decode cX4_pair 39 = .ok (.ishl, 1) := by decide +kernel
theorem dX4_pair_40 : decode cX4_pair 40 = .ok (.ior, 1) := by decide +kernel
theorem dX4_pair_41 : decode cX4_pair 41 = .ok (.istore 5, 2) := by decide +kernel
theorem dX4_pair_43 : decode cX4_pair 43 = .ok (.iload 5, 2) := by decide +kernel
theorem dX4_pair_45 : decode cX4_pair 45 = .ok (.aload_n 0, 1) := by decide +kernel
theorem dX4_pair_46 : decode cX4_pair 46 = .ok (.getfield 9, 3) := by decide +kernel
theorem dX4_pair_49 : decode cX4_pair 49 = .ok (.iand, 1) := by decide +kernel
theorem dX4_pair_50 : decode cX4_pair 50 = .ok (.istore 6, 2) := by decide +kernel
theorem dX4_pair_52 : decode cX4_pair 52 = .ok (.iload 6, 2) := by decide +kernel
theorem dX4_pair_54 : decode cX4_pair 54 = .ok (.ifCond .eq 14, 3) := by decide +kernel
theorem dX4_pair_57 : decode cX4_pair 57 = .ok (.iload 6, 2) := by decide +kernel
theorem dX4_pair_59 : decode cX4_pair 59 = .ok (.iload 5, 2) := by decide +kernel
theorem dX4_pair_61 : decode cX4_pair 61 = .ok (.if_icmp .eq 7, 3) := by decide +kernel
theorem dX4_pair_64 : decode cX4_pair 64 = .ok (.iconst 1, 1) := by decide +kernel
theorem dX4_pair_65 : decode cX4_pair 65 = .ok (.goto 4, 3) := by decide +kernel
theorem dX4_pair_68 : decode cX4_pair 68 = .ok (.iconst 0, 1) := by decide +kernel
theorem dX4_pair_69 : decode cX4_pair 69 = .ok (.istore 7, 2) := by decide +kernel
theorem dX4_pair_71 : decode cX4_pair 71 = .ok (.iload 7, 2) := by decide +kernel
theorem dX4_pair_73 : decode cX4_pair 73 = .ok (.ifCond .eq 33, 3) := by decide +kernel
theorem dX4_pair_76 : decode cX4_pair 76 = .ok (.iload 4, 2) := by decide +kernel
theorem dX4_pair_78 : decode cX4_pair 78 = .ok (.iload 5, 2) := by decide +kernel
theorem dX4_pair_80 : decode cX4_pair 80 = .ok (.iand, 1) := by decide +kernel
theorem dX4_pair_81 : decode cX4_pair 81 = .ok (.iload 5, 2) := by decide +kernel
theorem dX4_pair_83 : decode cX4_pair 83 = .ok (.if_icmp .ne 23, 3) := by decide +kernel
theorem dX4_pair_86 : decode cX4_pair 86 = .ok (.aload_n 0, 1) := by decide +kernel
theorem dX4_pair_87 : decode cX4_pair 87 = .ok (.aload_n 1, 1) := by decide +kernel
theorem dX4_pair_88 : decode cX4_pair 88 = .ok (.iload_n 2, 1) := by decide +kernel
theorem dX4_pair_89 : decode cX4_pair 89 = .ok (.iconst 1, 1) := by decide +kernel
theorem dX4_pair_90 : decode cX4_pair 90 = .ok (.iadd, 1) := by decide +kernel
theorem dX4_pair_91 : decode cX4_pair 91 = .ok (.iload_n 3, 1) := by decide +kernel
theorem dX4_pair_92 : decode cX4_pair 92 = .ok (.iconst 1, 1) := by decide +kernel
theorem dX4_pair_93 : decode cX4_pair 93 = .ok (.iload_n 2, 1) := by decide +kernel
theorem dX4_pair_94 : decode cX4_pair 94 = .ok (.ishl, 1) := by decide +kernel
theorem dX4_pair_95 : decode cX4_pair 95 = .ok (.ior, 1) := by decide +kernel
theorem dX4_pair_96 : decode cX4_pair 96 = .ok (.iload 4, 2) := by decide +kernel
theorem dX4_pair_98 : decode cX4_pair 98 = .ok (.iload 5, 2) := by decide +kernel
theorem dX4_pair_100 : decode cX4_pair 100 = .ok (.iconst (-1), 1) := by decide +kernel
theorem dX4_pair_101 : decode cX4_pair 101 = .ok (.ixor, 1) := by decide +kernel
theorem dX4_pair_102 : decode cX4_pair 102 = .ok (.iand, 1) := by decide +kernel
theorem dX4_pair_103 : decode cX4_pair 103 = .ok (.invokestatic 21, 3) := by decide +kernel
theorem dX4_pair_106 : decode cX4_pair 106 = .ok (.aload_n 0, 1) := by decide +kernel
theorem dX4_pair_107 : decode cX4_pair 107 = .ok (.aload_n 1, 1) := by decide +kernel
theorem dX4_pair_108 : decode cX4_pair 108 = .ok (.iload_n 2, 1) := by decide +kernel
theorem dX4_pair_109 : decode cX4_pair 109 = .ok (.iconst 1, 1) := by decide +kernel
theorem dX4_pair_110 : decode cX4_pair 110 = .ok (.iadd, 1) := by decide +kernel
theorem dX4_pair_111 : decode cX4_pair 111 = .ok (.iload_n 3, 1) := by decide +kernel
theorem dX4_pair_112 : decode cX4_pair 112 = .ok (.iload 4, 2) := by decide +kernel
theorem dX4_pair_114 : decode cX4_pair 114 = .ok (.invokestatic 21, 3) := by decide +kernel
theorem dX4_pair_117 : decode cX4_pair 117 = .ok (.return_, 1) := by decide +kernel
theorem dX4_barsIn_0 : decode cX4_barsIn 0 = .ok (.aload_n 1, 1) := by decide +kernel
theorem dX4_barsIn_1 : decode cX4_barsIn 1 = .ok (.invokevirtual 15, 3) := by decide +kernel
theorem dX4_barsIn_4 : decode cX4_barsIn 4 = .ok (.aload_n 0, 1) := by decide +kernel
theorem dX4_barsIn_5 : decode cX4_barsIn 5 = .ok (.getfield 9, 3) := by decide +kernel
theorem dX4_barsIn_8 : decode cX4_barsIn 8 = .ok (.iconst (-1), 1) := by decide +kernel
theorem dX4_barsIn_9 : decode cX4_barsIn 9 = .ok (.ixor, 1) := by decide +kernel
theorem dX4_barsIn_10 : decode cX4_barsIn 10 = .ok (.iand, 1) := by decide +kernel
theorem dX4_barsIn_11 : decode cX4_barsIn 11 = .ok (.istore_n 2, 1) := by decide +kernel
theorem dX4_barsIn_12 : decode cX4_barsIn 12 = .ok (.aload_n 0, 1) := by decide +kernel
theorem dX4_barsIn_13 : decode cX4_barsIn 13 = .ok (.getfield 9, 3) := by decide +kernel
theorem dX4_barsIn_16 : decode cX4_barsIn 16 = .ok (.invokestatic 45, 3) := by decide +kernel
theorem dX4_barsIn_19 : decode cX4_barsIn 19 = .ok (.iload_n 2, 1) := by decide +kernel
theorem dX4_barsIn_20 : decode cX4_barsIn 20 = .ok (.invokestatic 45, 3) := by decide +kernel
theorem dX4_barsIn_23 : decode cX4_barsIn 23 = .ok (.isub, 1) := by decide +kernel
theorem dX4_barsIn_24 : decode cX4_barsIn 24 = .ok (.istore_n 3, 1) := by decide +kernel
theorem dX4_barsIn_25 : decode cX4_barsIn 25 = .ok (.iload_n 3, 1) := by decide +kernel
theorem dX4_barsIn_26 : decode cX4_barsIn 26 = .ok (.ifCond .eq 16, 3) := by decide +kernel
theorem dX4_barsIn_29 : decode cX4_barsIn 29 = .ok (.iload_n 3, 1) := by decide +kernel
theorem dX4_barsIn_30 : decode cX4_barsIn 30 = .ok (.ifCond .le 10, 3) := by decide +kernel
theorem dX4_barsIn_33 : decode cX4_barsIn 33 = .ok (.aload_n 0, 1) := by decide +kernel
theorem dX4_barsIn_34 : decode cX4_barsIn 34 = .ok (.getfield 9, 3) := by decide +kernel
theorem dX4_barsIn_37 : decode cX4_barsIn 37 = .ok (.goto 4, 3) := by decide +kernel
theorem dX4_barsIn_40 : decode cX4_barsIn 40 = .ok (.iload_n 2, 1) := by decide +kernel
theorem dX4_barsIn_41 : decode cX4_barsIn 41 = .ok (.ireturn, 1) := by decide +kernel
theorem dX4_barsIn_42 : decode cX4_barsIn 42 = .ok (.iconst 1, 1) := by decide +kernel
theorem dX4_barsIn_43 : decode cX4_barsIn 43 = .ok (.istore 4, 2) := by decide +kernel
theorem dX4_barsIn_45 : decode cX4_barsIn 45 = .ok (.iload 4, 2) := by decide +kernel
theorem dX4_barsIn_47 : decode cX4_barsIn 47 = .ok (.aload_n 0, 1) := by decide +kernel
theorem dX4_barsIn_48 : decode cX4_barsIn 48 = .ok (.getfield 9, 3) := by decide +kernel
theorem dX4_barsIn_51 : decode cX4_barsIn 51 = .ok (.if_icmp .gt 45, 3) := by decide +kernel
theorem dX4_barsIn_54 : decode cX4_barsIn 54 = .ok (.iload 4, 2) := by decide +kernel
theorem dX4_barsIn_56 : decode cX4_barsIn 56 = .ok (.aload_n 0, 1) := by decide +kernel
theorem dX4_barsIn_57 : decode cX4_barsIn 57 = .ok (.getfield 9, 3) := by decide +kernel
theorem dX4_barsIn_60 : decode cX4_barsIn 60 = .ok (.iconst (-1), 1) := by decide +kernel
theorem dX4_barsIn_61 : decode cX4_barsIn 61 = .ok (.ixor, 1) := by decide +kernel
theorem dX4_barsIn_62 : decode cX4_barsIn 62 = .ok (.iand, 1) := by decide +kernel
theorem dX4_barsIn_63 : decode cX4_barsIn 63 = .ok (.ifCond .ne 27, 3) := by decide +kernel
theorem dX4_barsIn_66 : decode cX4_barsIn 66 = .ok (.aload_n 1, 1) := by decide +kernel
theorem dX4_barsIn_67 : decode cX4_barsIn 67 = .ok (.iload 4, 2) := by decide +kernel
theorem dX4_barsIn_69 : decode cX4_barsIn 69 = .ok (.aload_n 0, 1) := by decide +kernel
theorem dX4_barsIn_70 : decode cX4_barsIn 70 = .ok (.getfield 9, 3) := by decide +kernel
theorem dX4_barsIn_73 : decode cX4_barsIn 73 = .ok (.invokevirtual 51, 3) := by decide +kernel
theorem dX4_barsIn_76 : decode cX4_barsIn 76 = .ok (.invokestatic 45, 3) := by decide +kernel
theorem dX4_barsIn_79 : decode cX4_barsIn 79 = .ok (.iload 4, 2) := by decide +kernel
theorem dX4_barsIn_81 : decode cX4_barsIn 81 = .ok (.invokestatic 45, 3) := by decide +kernel
theorem dX4_barsIn_84 : decode cX4_barsIn 84 = .ok (.if_icmp .ge 6, 3) := by decide +kernel
theorem dX4_barsIn_87 : decode cX4_barsIn 87 = .ok (.iload 4, 2) := by decide +kernel
theorem dX4_barsIn_89 : decode cX4_barsIn 89 = .ok (.ireturn, 1) := by decide +kernel
theorem dX4_barsIn_90 : decode cX4_barsIn 90 = .ok (.iinc 4 1, 3) := by decide +kernel
theorem dX4_barsIn_93 : decode cX4_barsIn 93 = .ok (.goto (-48), 3) := by decide +kernel
theorem dX4_barsIn_96 : decode cX4_barsIn 96 = .ok (.iconst 0, 1) := by decide +kernel
theorem dX4_barsIn_97 : decode cX4_barsIn 97 = .ok (.ireturn, 1) := by decide +kernel
theorem dX4_needs_0 : decode cX4_needs 0 = .ok (.aload_n 0, 1) := by decide +kernel
theorem dX4_needs_1 : decode cX4_needs 1 = .ok (.getfield 9, 3) := by decide +kernel
theorem dX4_needs_4 : decode cX4_needs 4 = .ok (.iload_n 1, 1) := by decide +kernel
theorem dX4_needs_5 : decode cX4_needs 5 = .ok (.ishr, 1) := by decide +kernel
theorem dX4_needs_6 : decode cX4_needs 6 = .ok (.iconst 1, 1) := by decide +kernel
theorem dX4_needs_7 : decode cX4_needs 7 = .ok (.iand, 1) := by decide +kernel
theorem dX4_needs_8 : decode cX4_needs 8 = .ok (.ifCond .eq 7, 3) := by decide +kernel
theorem dX4_needs_11 : decode cX4_needs 11 = .ok (.iconst 1, 1) := by decide +kernel
theorem dX4_needs_12 : decode cX4_needs 12 = .ok (.goto 4, 3) := by decide +kernel
theorem dX4_needs_15 : decode cX4_needs 15 = .ok (.iconst 0, 1) := by decide +kernel
theorem dX4_needs_16 : decode cX4_needs 16 = .ok (.ireturn, 1) := by decide +kernel
theorem dX4_firstNumber_0 : decode cX4_firstNumber 0 = .ok (.aload_n 0, 1) := by decide +kernel
theorem dX4_firstNumber_1 : decode cX4_firstNumber 1 = .ok (.getfield 9, 3) := by decide +kernel
theorem dX4_firstNumber_4 : decode cX4_firstNumber 4 = .ok (.ireturn, 1) := by decide +kernel
theorem dX4_secondNumber_0 : decode cX4_secondNumber 0 = .ok (.iconst 0, 1) := by decide +kernel
theorem dX4_secondNumber_1 : decode cX4_secondNumber 1 = .ok (.ireturn, 1) := by decide +kernel
theorem dX5_init_0 : decode cX5_init 0 = .ok (.aload_n 0, 1) := by decide +kernel
theorem dX5_init_1 : decode cX5_init 1 = .ok (.invokespecial 1, 3) := by decide +kernel
theorem dX5_init_4 : decode cX5_init 4 = .ok (.aload_n 0, 1) := by decide +kernel
theorem dX5_init_5 : decode cX5_init 5 = .ok (.iconst 4, 1) := by decide +kernel
theorem dX5_init_6 : decode cX5_init 6 = .ok (.newarray .int, 2) := by decide +kernel
theorem dX5_init_8 : decode cX5_init 8 = .ok (.putfield 9, 3) := by decide +kernel
theorem dX5_init_11 : decode cX5_init 11 = .ok (.return_, 1) := by decide +kernel
theorem dX5_clear_0 : decode cX5_clear 0 = .ok (.aload_n 0, 1) := by decide +kernel
theorem dX5_clear_1 : decode cX5_clear 1 = .ok (.iconst 0, 1) := by decide +kernel
theorem dX5_clear_2 : decode cX5_clear 2 = .ok (.putfield 13, 3) := by decide +kernel
theorem dX5_clear_5 : decode cX5_clear 5 = .ok (.return_, 1) := by decide +kernel
theorem dX5_has_0 : decode cX5_has 0 = .ok (.iload_n 1, 1) := by decide +kernel
theorem dX5_has_1 : decode cX5_has 1 = .ok (.ifCond .lt 24, 3) := by decide +kernel
theorem dX5_has_4 : decode cX5_has 4 = .ok (.iload_n 1, 1) := by decide +kernel
theorem dX5_has_5 : decode cX5_has 5 = .ok (.aload_n 0, 1) := by decide +kernel
theorem dX5_has_6 : decode cX5_has 6 = .ok (.getfield 13, 3) := by decide +kernel
theorem dX5_has_9 : decode cX5_has 9 = .ok (.if_icmp .ge 16, 3) := by decide +kernel
theorem dX5_has_12 : decode cX5_has 12 = .ok (.iload_n 2, 1) := by decide +kernel
theorem dX5_has_13 : decode cX5_has 13 = .ok (.ifCond .lt 12, 3) := by decide +kernel
theorem dX5_has_16 : decode cX5_has 16 = .ok (.iload_n 2, 1) := by decide +kernel
theorem dX5_has_17 : decode cX5_has 17 = .ok (.iconst 4, 1) := by decide +kernel
theorem dX5_has_18 : decode cX5_has 18 = .ok (.if_icmp .ge 7, 3) := by decide +kernel
theorem dX5_has_21 : decode cX5_has 21 = .ok (.iconst 1, 1) := by decide +kernel
theorem dX5_has_22 : decode cX5_has 22 = .ok (.goto 4, 3) := by decide +kernel
theorem dX5_has_25 : decode cX5_has 25 = .ok (.iconst 0, 1) := by decide +kernel
theorem dX5_has_26 : decode cX5_has 26 = .ok (.ireturn, 1) := by decide +kernel
theorem dX5_number_0 : decode cX5_number 0 = .ok (.aload_n 0, 1) := by decide +kernel
theorem dX5_number_1 : decode cX5_number 1 = .ok (.iload_n 1, 1) := by decide +kernel
theorem dX5_number_2 : decode cX5_number 2 = .ok (.iload_n 2, 1) := by decide +kernel
theorem dX5_number_3 : decode cX5_number 3 = .ok (.invokevirtual 17, 3) := by decide +kernel
theorem dX5_number_6 : decode cX5_number 6 = .ok (.ifCond .eq 16, 3) := by decide +kernel
theorem dX5_number_9 : decode cX5_number 9 = .ok (.aload_n 0, 1) := by decide +kernel
theorem dX5_number_10 : decode cX5_number 10 = .ok (.getfield 9, 3) := by decide +kernel
theorem dX5_number_13 : decode cX5_number 13 = .ok (.iconst 4, 1) := by decide +kernel
theorem dX5_number_14 : decode cX5_number 14 = .ok (.iload_n 1, 1) := by decide +kernel
theorem dX5_number_15 : decode cX5_number 15 = .ok (.imul, 1) := by decide +kernel
theorem dX5_number_16 : decode cX5_number 16 = .ok (.iload_n 2, 1) := by decide +kernel
theorem dX5_number_17 : decode cX5_number 17 = .ok (.iadd, 1) := by decide +kernel
theorem dX5_number_18 : decode cX5_number 18 = .ok (.iaload, 1) := by decide +kernel
theorem dX5_number_19 : decode cX5_number 19 = .ok (.goto 4, 3) := by decide +kernel
theorem dX5_number_22 : decode cX5_number 22 = .ok (.iconst 0, 1) := by decide +kernel
theorem dX5_number_23 : decode cX5_number 23 = .ok (.ireturn, 1) := by decide +kernel
theorem dX5_set_0 : decode cX5_set 0 = .ok (.aload_n 0, 1) := by decide +kernel
theorem dX5_set_1 : decode cX5_set 1 = .ok (.iload_n 1, 1) := by decide +kernel
theorem dX5_set_2 : decode cX5_set 2 = .ok (.iload_n 2, 1) := by decide +kernel
theorem dX5_set_3 : decode cX5_set 3 = .ok (.invokevirtual 17, 3) := by decide +kernel
theorem dX5_set_6 : decode cX5_set 6 = .ok (.ifCond .eq 14, 3) := by decide +kernel
theorem dX5_set_9 : decode cX5_set 9 = .ok (.aload_n 0, 1) := by decide +kernel
theorem dX5_set_10 : decode cX5_set 10 = .ok (.getfield 9, 3) := by decide +kernel
theorem dX5_set_13 : decode cX5_set 13 = .ok (.iconst 4, 1) := by decide +kernel
theorem dX5_set_14 : decode cX5_set 14 = .ok (.iload_n 1, 1) := by decide +kernel
theorem dX5_set_15 : decode cX5_set 15 = .ok (.imul, 1) := by decide +kernel
theorem dX5_set_16 : decode cX5_set 16 = .ok (.iload_n 2, 1) := by decide +kernel
theorem dX5_set_17 : decode cX5_set 17 = .ok (.iadd, 1) := by decide +kernel
theorem dX5_set_18 : decode cX5_set 18 = .ok (.iload_n 3, 1) := by decide +kernel
theorem dX5_set_19 : decode cX5_set 19 = .ok (.iastore, 1) := by decide +kernel
theorem dX5_set_20 : decode cX5_set 20 = .ok (.return_, 1) := by decide +kernel
theorem dX5_put_0 : decode cX5_put 0 = .ok (.aload_n 0, 1) := by decide +kernel
theorem dX5_put_1 : decode cX5_put 1 = .ok (.aload_n 0, 1) := by decide +kernel
theorem dX5_put_2 : decode cX5_put 2 = .ok (.getfield 13, 3) := by decide +kernel
theorem dX5_put_5 : decode cX5_put 5 = .ok (.iconst 1, 1) := by decide +kernel
theorem dX5_put_6 : decode cX5_put 6 = .ok (.iadd, 1) := by decide +kernel
theorem dX5_put_7 : decode cX5_put 7 = .ok (.invokevirtual 21, 3) := by decide +kernel
theorem dX5_put_10 : decode cX5_put 10 = .ok (.iconst 4, 1) := by decide +kernel
theorem dX5_put_11 : decode cX5_put 11 = .ok (.aload_n 0, 1) := by decide +kernel
theorem dX5_put_12 : decode cX5_put 12 = .ok (.getfield 13, 3) := by decide +kernel
theorem dX5_put_15 : decode cX5_put 15 = .ok (.imul, 1) := by decide +kernel
theorem dX5_put_16 : decode cX5_put 16 = .ok (.istore 7, 2) := by decide +kernel
theorem dX5_put_18 : decode cX5_put 18 = .ok (.aload_n 0, 1) := by decide +kernel
theorem dX5_put_19 : decode cX5_put 19 = .ok (.getfield 9, 3) := by decide +kernel
theorem dX5_put_22 : decode cX5_put 22 = .ok (.iload 7, 2) := by decide +kernel
theorem dX5_put_24 : decode cX5_put 24 = .ok (.iconst 0, 1) := by decide +kernel
theorem dX5_put_25 : decode cX5_put 25 = .ok (.iadd, 1) := by decide +kernel
theorem dX5_put_26 : decode cX5_put 26 = .ok (.lload_n 1, 1) := by decide +kernel
theorem dX5_put_27 : decode cX5_put 27 = .ok (.lload_n 3, 1) := by decide +kernel
theorem dX5_put_28 : decode cX5_put 28 = .ok (.iconst 0, 1) := by decide +kernel
theorem dX5_put_29 : decode cX5_put 29 = .ok (.invokestatic 25, 3) := by decide +kernel
theorem dX5_put_32 : decode cX5_put 32 = .ok (.l2i, 1) := by decide +kernel
theorem dX5_put_33 : decode cX5_put 33 = .ok (.iastore, 1) := by decide +kernel
theorem dX5_put_34 : decode cX5_put 34 = .ok (.aload_n 0, 1) := by decide +kernel
theorem dX5_put_35 : decode cX5_put 35 = .ok (.getfield 9, 3) := by decide +kernel
theorem dX5_put_38 : decode cX5_put 38 = .ok (.iload 7, 2) := by decide +kernel
theorem dX5_put_40 : decode cX5_put 40 = .ok (.iconst 1, 1) := by decide +kernel
theorem dX5_put_41 : decode cX5_put 41 = .ok (.iadd, 1) := by decide +kernel
theorem dX5_put_42 : decode cX5_put 42 = .ok (.lload_n 1, 1) := by decide +kernel
theorem dX5_put_43 : decode cX5_put 43 = .ok (.lload_n 3, 1) := by decide +kernel
theorem dX5_put_44 : decode cX5_put 44 = .ok (.iconst 1, 1) := by decide +kernel
theorem dX5_put_45 : decode cX5_put 45 = .ok (.invokestatic 25, 3) := by decide +kernel
theorem dX5_put_48 : decode cX5_put 48 = .ok (.l2i, 1) := by decide +kernel
theorem dX5_put_49 : decode cX5_put 49 = .ok (.iastore, 1) := by decide +kernel
theorem dX5_put_50 : decode cX5_put 50 = .ok (.aload_n 0, 1) := by decide +kernel
theorem dX5_put_51 : decode cX5_put 51 = .ok (.getfield 9, 3) := by decide +kernel
theorem dX5_put_54 : decode cX5_put 54 = .ok (.iload 7, 2) := by decide +kernel
theorem dX5_put_56 : decode cX5_put 56 = .ok (.iconst 2, 1) := by decide +kernel
theorem dX5_put_57 : decode cX5_put 57 = .ok (.iadd, 1) := by decide +kernel
theorem dX5_put_58 : decode cX5_put 58 = .ok (.iload 5, 2) := by decide +kernel
theorem dX5_put_60 : decode cX5_put 60 = .ok (.iastore, 1) := by decide +kernel
theorem dX5_put_61 : decode cX5_put 61 = .ok (.aload_n 0, 1) := by decide +kernel
theorem dX5_put_62 : decode cX5_put 62 = .ok (.getfield 9, 3) := by decide +kernel
theorem dX5_put_65 : decode cX5_put 65 = .ok (.iload 7, 2) := by decide +kernel
theorem dX5_put_67 : decode cX5_put 67 = .ok (.iconst 3, 1) := by decide +kernel
theorem dX5_put_68 : decode cX5_put 68 = .ok (.iadd, 1) := by decide +kernel
theorem dX5_put_69 : decode cX5_put 69 = .ok (.iload 6, 2) := by decide +kernel
theorem dX5_put_71 : decode cX5_put 71 = .ok (.iastore, 1) := by decide +kernel
theorem dX5_put_72 : decode cX5_put 72 = .ok (.aload_n 0, 1) := by decide +kernel
theorem dX5_put_73 : decode cX5_put 73 = .ok (.dup, 1) := by decide +kernel
theorem dX5_put_74 : decode cX5_put 74 = .ok (.getfield 13, 3) := by decide +kernel
theorem dX5_put_77 : decode cX5_put 77 = .ok (.iconst 1, 1) := by decide +kernel
theorem dX5_put_78 : decode cX5_put 78 = .ok (.iadd, 1) := by decide +kernel
theorem dX5_put_79 : decode cX5_put 79 = .ok (.putfield 13, 3) := by decide +kernel
theorem dX5_put_82 : decode cX5_put 82 = .ok (.return_, 1) := by decide +kernel
theorem dX5_becomeLike_0 : decode cX5_becomeLike 0 = .ok (.aload_n 0, 1) := by decide +kernel
theorem dX5_becomeLike_1 : decode cX5_becomeLike 1 = .ok (.aload_n 1, 1) := by decide +kernel
theorem dX5_becomeLike_2 : decode cX5_becomeLike 2 = .ok (.getfield 13, 3) := by decide +kernel
theorem dX5_becomeLike_5 : decode cX5_becomeLike 5 = .ok (.invokevirtual 21, 3) := by decide +kernel
theorem dX5_becomeLike_8 : decode cX5_becomeLike 8 = .ok (.aload_n 0, 1) := by decide +kernel
theorem dX5_becomeLike_9 : decode cX5_becomeLike 9 = .ok (.aload_n 1, 1) := by decide +kernel
theorem dX5_becomeLike_10 : decode cX5_becomeLike 10 = .ok (.getfield 13, 3) := by decide +kernel
theorem dX5_becomeLike_13 : decode cX5_becomeLike 13 = .ok (.putfield 13, 3) := by decide +kernel
theorem dX5_becomeLike_16 : decode cX5_becomeLike 16 = .ok (.aload_n 1, 1) := by decide +kernel
theorem dX5_becomeLike_17 : decode cX5_becomeLike 17 = .ok (.getfield 9, 3) := by decide +kernel
theorem dX5_becomeLike_20 : decode cX5_becomeLike 20 = .ok (.iconst 0, 1) := by decide +kernel
theorem dX5_becomeLike_21 : decode cX5_becomeLike 21 = .ok (.aload_n 0, 1) := by decide +kernel
theorem dX5_becomeLike_22 : decode cX5_becomeLike 22 = .ok (.getfield 9, 3) := by decide +kernel
theorem dX5_becomeLike_25 : decode cX5_becomeLike 25 = .ok (.iconst 0, 1) := by decide +kernel
theorem dX5_becomeLike_26 : decode cX5_becomeLike 26 = .ok (.iconst 4, 1) := by decide +kernel
theorem dX5_becomeLike_27 : decode cX5_becomeLike 27 = .ok (.aload_n 0, 1) := by decide +kernel
theorem dX5_becomeLike_28 : decode cX5_becomeLike 28 = .ok (.getfield 13, 3) := by decide +kernel
theorem dX5_becomeLike_31 : decode cX5_becomeLike 31 = .ok (.imul, 1) := by decide +kernel
theorem dX5_becomeLike_32 : decode cX5_becomeLike 32 = .ok (.invokestatic 31, 3) := by decide +kernel
theorem dX5_becomeLike_35 : decode cX5_becomeLike 35 = .ok (.return_, 1) := by decide +kernel
theorem dX5_makeRoomFor_0 : decode cX5_makeRoomFor 0 = .ok (.iconst 4, 1) := by decide +kernel
theorem dX5_makeRoomFor_1 : decode cX5_makeRoomFor 1 = .ok (.iload_n 1, 1) := by decide +kernel
theorem dX5_makeRoomFor_2 : decode cX5_makeRoomFor 2 = .ok (.imul, 1) := by decide +kernel
theorem dX5_makeRoomFor_3 : decode cX5_makeRoomFor 3 = .ok (.aload_n 0, 1) := by decide +kernel
theorem dX5_makeRoomFor_4 : decode cX5_makeRoomFor 4 = .ok (.getfield 9, 3) := by decide +kernel
theorem dX5_makeRoomFor_7 : decode cX5_makeRoomFor 7 = .ok (.arraylength, 1) := by decide +kernel
theorem dX5_makeRoomFor_8 : decode cX5_makeRoomFor 8 = .ok (.if_icmp .le 18, 3) := by decide +kernel
theorem dX5_makeRoomFor_11 : decode cX5_makeRoomFor 11 = .ok (.aload_n 0, 1) := by decide +kernel
theorem dX5_makeRoomFor_12 : decode cX5_makeRoomFor 12 = .ok (.aload_n 0, 1) := by decide +kernel
theorem dX5_makeRoomFor_13 : decode cX5_makeRoomFor 13 = .ok (.getfield 9, 3) := by decide +kernel
theorem dX5_makeRoomFor_16 : decode cX5_makeRoomFor 16 = .ok (.bipush 8, 2) := by decide +kernel
theorem dX5_makeRoomFor_18 : decode cX5_makeRoomFor 18 = .ok (.iload_n 1, 1) := by decide +kernel
theorem dX5_makeRoomFor_19 : decode cX5_makeRoomFor 19 = .ok (.imul, 1) := by decide +kernel
theorem dX5_makeRoomFor_20 : decode cX5_makeRoomFor 20 = .ok (.invokestatic 37, 3) := by decide +kernel
theorem dX5_makeRoomFor_23 : decode cX5_makeRoomFor 23 = .ok (.putfield 9, 3) := by decide +kernel
theorem dX5_makeRoomFor_26 : decode cX5_makeRoomFor 26 = .ok (.return_, 1) := by decide +kernel
theorem dX6_init_0 : decode cX6_init 0 = .ok (.aload_n 0, 1) := by decide +kernel
theorem dX6_init_1 : decode cX6_init 1 = .ok (.invokespecial 3, 3) := by decide +kernel
theorem dX6_init_4 : decode cX6_init 4 = .ok (.aload_n 0, 1) := by decide +kernel
theorem dX6_init_5 : decode cX6_init 5 = .ok (.iconst (-1), 1) := by decide +kernel
theorem dX6_init_6 : decode cX6_init 6 = .ok (.putfield 9, 3) := by decide +kernel
theorem dX6_init_9 : decode cX6_init 9 = .ok (.aload_n 0, 1) := by decide +kernel
theorem dX6_init_10 : decode cX6_init 10 = .ok (.bipush 40, 2) := by decide +kernel
theorem dX6_init_12 : decode cX6_init 12 = .ok (.newarray .long, 2) := by decide +kernel
theorem dX6_init_14 : decode cX6_init 14 = .ok (.putfield 15, 3) := by decide +kernel
theorem dX6_init_17 : decode cX6_init 17 = .ok (.return_, 1) := by decide +kernel
theorem dX6_become_0 : decode cX6_become 0 = .ok (.aload_n 0, 1) := by decide +kernel
theorem dX6_become_1 : decode cX6_become 1 = .ok (.iload_n 1, 1) := by decide +kernel
theorem dX6_become_2 : decode cX6_become 2 = .ok (.putfield 9, 3) := by decide +kernel
theorem dX6_become_5 : decode cX6_become 5 = .ok (.aload_n 0, 1) := by decide +kernel
theorem dX6_become_6 : decode cX6_become 6 = .ok (.iload_n 1, 1) := by decide +kernel
theorem dX6_become_7 : decode cX6_become 7 = .ok (.iconst (-1), 1) := by decide +kernel
theorem dX6_become_8 : decode cX6_become 8 = .ok (.if_icmp .ne 7, 3) := by decide +kernel
theorem dX6_become_11 : decode cX6_become 11 = .ok (.iconst 0, 1) := by decide +kernel
theorem dX6_become_12 : decode cX6_become 12 = .ok (.goto 4, 3) := by decide +kernel
theorem dX6_become_15 : decode cX6_become 15 = .ok (.iload_n 2, 1) := by decide +kernel
theorem dX6_become_16 : decode cX6_become 16 = .ok (.putfield 19, 3) := by decide +kernel
theorem dX6_become_19 : decode cX6_become 19 = .ok (.aload_n 0, 1) := by decide +kernel
theorem dX6_become_20 : decode cX6_become 20 = .ok (.getfield 15, 3) := by decide +kernel
theorem dX6_become_23 : decode cX6_become 23 = .ok (.lconst 0, 1) := by decide +kernel
theorem dX6_become_24 : decode cX6_become 24 = .ok (.invokestatic 22, 3) := by decide +kernel
theorem dX6_become_27 : decode cX6_become 27 = .ok (.return_, 1) := by decide +kernel
theorem dX6_holds_0 : decode cX6_holds 0 = .ok (.iload_n 1, 1) := by decide +kernel
theorem dX6_holds_1 : decode cX6_holds 1 = .ok (.ifCond .lt 25, 3) := by decide +kernel
theorem dX6_holds_4 : decode cX6_holds 4 = .ok (.iload_n 2, 1) := by decide +kernel
theorem dX6_holds_5 : decode cX6_holds 5 = .ok (.ifCond .lt 21, 3) := by decide +kernel
theorem dX6_holds_8 : decode cX6_holds 8 = .ok (.iload_n 1, 1) := by decide +kernel
theorem dX6_holds_9 : decode cX6_holds 9 = .ok (.i2l, 1) := by decide +kernel
theorem dX6_holds_10 : decode cX6_holds 10 = .ok (.iload_n 2, 1) := by decide +kernel
theorem dX6_holds_11 : decode cX6_holds 11 = .ok (.i2l, 1) := by decide +kernel
theorem dX6_holds_12 : decode cX6_holds 12 = .ok (.ladd, 1) := by decide +kernel
theorem dX6_holds_13 : decode cX6_holds 13 = .ok (.aload_n 0, 1) := by decide +kernel
theorem dX6_holds_14 : decode cX6_holds 14 = .ok (.getfield 19, 3) := by decide +kernel
theorem dX6_holds_17 : decode cX6_holds 17 = .ok (.i2l, 1) := by decide +kernel
theorem dX6_holds_18 : decode cX6_holds 18 = .ok (.lcmp, 1) := by decide +kernel
theorem dX6_holds_19 : decode cX6_holds 19 = .ok (.ifCond .gt 7, 3) := by decide +kernel
theorem dX6_holds_22 : decode cX6_holds 22 = .ok (.iconst 1, 1) := by decide +kernel
theorem dX6_holds_23 : decode cX6_holds 23 = .ok (.goto 4, 3) := by decide +kernel
theorem dX6_holds_26 : decode cX6_holds 26 = .ok (.iconst 0, 1) := by decide +kernel
theorem dX6_holds_27 : decode cX6_holds 27 = .ok (.ireturn, 1) := by decide +kernel
theorem dX7_init_0 : decode cX7_init 0 = .ok (.aload_n 0, 1) := by decide +kernel
theorem dX7_init_1 : decode cX7_init 1 = .ok (.iload_n 1, 1) := by decide +kernel
theorem dX7_init_2 : decode cX7_init 2 = .ok (.iconst 0, 1) := by decide +kernel
theorem dX7_init_3 : decode cX7_init 3 = .ok (.invokespecial 3, 3) := by decide +kernel
theorem dX7_init_6 : decode cX7_init 6 = .ok (.aload_n 0, 1) := by decide +kernel
theorem dX7_init_7 : decode cX7_init 7 = .ok (.bipush 8, 2) := by decide +kernel
theorem dX7_init_9 : decode cX7_init 9 = .ok (.newarray .int, 2) := by decide +kernel
theorem dX7_init_11 : decode cX7_init 11 = .ok (.putfield 9, 3) := by decide +kernel
theorem dX7_init_14 : decode cX7_init 14 = .ok (.return_, 1) := by decide +kernel
theorem dX7_take_0 : decode cX7_take 0 = .ok (.iconst 0, 1) := by decide +kernel
theorem dX7_take_1 : decode cX7_take 1 = .ok (.istore_n 2, 1) := by decide +kernel
theorem dX7_take_2 : decode cX7_take 2 = .ok (.iload_n 2, 1) := by decide +kernel
theorem dX7_take_3 : decode cX7_take 3 = .ok (.aload_n 0, 1) := by decide +kernel
theorem dX7_take_4 : decode cX7_take 4 = .ok (.getfield 15, 3) := by decide +kernel
theorem dX7_take_7 : decode cX7_take 7 = .ok (.if_icmp .ge 22, 3) := by decide +kernel
theorem dX7_take_10 : decode cX7_take 10 = .ok (.aload_n 0, 1) := by decide +kernel
theorem dX7_take_11 : decode cX7_take 11 = .ok (.getfield 9, 3) := by decide +kernel
theorem dX7_take_14 : decode cX7_take 14 = .ok (.iload_n 2, 1) := by decide +kernel
theorem dX7_take_15 : decode cX7_take 15 = .ok (.iaload, 1) := by decide +kernel
theorem dX7_take_16 : decode cX7_take 16 = .ok (.iload_n 1, 1) := by decide +kernel
theorem dX7_take_17 : decode cX7_take 17 = .ok (.if_icmp .ne 6, 3) := by decide +kernel
theorem dX7_take_20 : decode cX7_take 20 = .ok (.bipush (-3), 2) := by decide +kernel
theorem dX7_take_22 : decode cX7_take 22 = .ok (.ireturn, 1) := by decide +kernel
theorem dX7_take_23 : decode cX7_take 23 = .ok (.iinc 2 1, 3) := by decide +kernel
theorem dX7_take_26 : decode cX7_take 26 = .ok (.goto (-24), 3) := by decide +kernel
theorem dX7_take_29 : decode cX7_take 29 = .ok (.aload_n 0, 1) := by decide +kernel
theorem dX7_take_30 : decode cX7_take 30 = .ok (.getfield 15, 3) := by decide +kernel
theorem dX7_take_33 : decode cX7_take 33 = .ok (.bipush 8, 2) := by decide +kernel
theorem dX7_take_35 : decode cX7_take 35 = .ok (.if_icmp .lt 6, 3) := by decide +kernel
theorem dX7_take_38 : decode cX7_take 38 = .ok (.bipush (-4), 2) := by decide +kernel
theorem dX7_take_40 : decode cX7_take 40 = .ok (.ireturn, 1) := by decide +kernel
theorem dX7_take_41 : decode cX7_take 41 = .ok (.aload_n 0, 1) := by decide +kernel
theorem dX7_take_42 : decode cX7_take 42 = .ok (.getfield 9, 3) := by decide +kernel
theorem dX7_take_45 : decode cX7_take 45 = .ok (.aload_n 0, 1) := by decide +kernel
theorem dX7_take_46 : decode cX7_take 46 = .ok (.getfield 15, 3) := by decide +kernel
theorem dX7_take_49 : decode cX7_take 49 = .ok (.iload_n 1, 1) := by decide +kernel
theorem dX7_take_50 : decode cX7_take 50 = .ok (.iastore, 1) := by decide +kernel
theorem dX7_take_51 : decode cX7_take 51 = .ok (.aload_n 0, 1) := by decide +kernel
theorem dX7_take_52 : decode cX7_take 52 = .ok (.dup, 1) := by decide +kernel
theorem dX7_take_53 : decode cX7_take 53 = .ok (.getfield 15, 3) := by decide +kernel
theorem dX7_take_56 : decode cX7_take 56 = .ok (.iconst 1, 1) := by decide +kernel
theorem dX7_take_57 : decode cX7_take 57 = .ok (.iadd, 1) := by decide +kernel
theorem dX7_take_58 : decode cX7_take 58 = .ok (.putfield 15, 3) := by decide +kernel
theorem dX7_take_61 : decode cX7_take 61 = .ok (.aload_n 0, 1) := by decide +kernel
theorem dX7_take_62 : decode cX7_take 62 = .ok (.invokevirtual 19, 3) := by decide +kernel
theorem dX7_take_65 : decode cX7_take 65 = .ok (.aload_n 0, 1) := by decide +kernel
theorem dX7_take_66 : decode cX7_take 66 = .ok (.getfield 15, 3) := by decide +kernel
theorem dX7_take_69 : decode cX7_take 69 = .ok (.ireturn, 1) := by decide +kernel
theorem dX7_gather_0 : decode cX7_gather 0 = .ok (.iconst 0, 1) := by decide +kernel
theorem dX7_gather_1 : decode cX7_gather 1 = .ok (.istore_n 2, 1) := by decide +kernel
theorem dX7_gather_2 : decode cX7_gather 2 = .ok (.iload_n 2, 1) := by decide +kernel
theorem dX7_gather_3 : decode cX7_gather 3 = .ok (.aload_n 0, 1) := by decide +kernel
theorem dX7_gather_4 : decode cX7_gather 4 = .ok (.getfield 15, 3) := by decide +kernel
theorem dX7_gather_7 : decode cX7_gather 7 = .ok (.if_icmp .ge 38, 3) := by decide +kernel
theorem dX7_gather_10 : decode cX7_gather 10 = .ok (.aload_n 0, 1) := by decide +kernel
theorem dX7_gather_11 : decode cX7_gather 11 = .ok (.getfield 9, 3) := by decide +kernel
theorem dX7_gather_14 : decode cX7_gather 14 = .ok (.iload_n 2, 1) := by decide +kernel
theorem dX7_gather_15 : decode cX7_gather 15 = .ok (.iaload, 1) := by decide +kernel
theorem dX7_gather_16 : decode cX7_gather 16 = .ok (.iconst 1, 1) := by decide +kernel
theorem dX7_gather_17 : decode cX7_gather 17 = .ok (.aload_n 1, 1) := by decide +kernel
theorem dX7_gather_18 : decode cX7_gather 18 = .ok (.getfield 23, 3) := by decide +kernel
theorem dX7_gather_21 : decode cX7_gather 21 = .ok (.ishl, 1) := by decide +kernel
theorem dX7_gather_22 : decode cX7_gather 22 = .ok (.if_icmp .ge 17, 3) := by decide +kernel
theorem dX7_gather_25 : decode cX7_gather 25 = .ok (.aload_n 0, 1) := by decide +kernel
theorem dX7_gather_26 : decode cX7_gather 26 = .ok (.getfield 28, 3) := by decide +kernel
theorem dX7_gather_29 : decode cX7_gather 29 = .ok (.aload_n 1, 1) := by decide +kernel
theorem dX7_gather_30 : decode cX7_gather 30 = .ok (.aload_n 0, 1) := by decide +kernel
theorem dX7_gather_31 : decode cX7_gather 31 = .ok (.getfield 9, 3) := by decide +kernel
theorem dX7_gather_34 : decode cX7_gather 34 = .ok (.iload_n 2, 1) := by decide +kernel
theorem dX7_gather_35 : decode cX7_gather 35 = .ok (.iaload, 1) := by decide +kernel
theorem dX7_gather_36 : decode cX7_gather 36 = .ok (.invokevirtual 32, 3) := by decide +kernel
theorem dX7_gather_39 : decode cX7_gather 39 = .ok (.iinc 2 1, 3) := by decide +kernel
theorem dX7_gather_42 : decode cX7_gather 42 = .ok (.goto (-40), 3) := by decide +kernel
theorem dX7_gather_45 : decode cX7_gather 45 = .ok (.return_, 1) := by decide +kernel
theorem dX7_barsIn_0 : decode cX7_barsIn 0 = .ok (.iconst 0, 1) := by decide +kernel
theorem dX7_barsIn_1 : decode cX7_barsIn 1 = .ok (.ireturn, 1) := by decide +kernel
theorem dX7_needs_0 : decode cX7_needs 0 = .ok (.iconst 0, 1) := by decide +kernel
theorem dX7_needs_1 : decode cX7_needs 1 = .ok (.ireturn, 1) := by decide +kernel
theorem dX7_firstNumber_0 : decode cX7_firstNumber 0 = .ok (.aload_n 0, 1) := by decide +kernel
theorem dX7_firstNumber_1 : decode cX7_firstNumber 1 = .ok (.getfield 15, 3) := by decide +kernel
theorem dX7_firstNumber_4 : decode cX7_firstNumber 4 = .ok (.ireturn, 1) := by decide +kernel
theorem dX7_secondNumber_0 : decode cX7_secondNumber 0 = .ok (.iconst 0, 1) := by decide +kernel
theorem dX7_secondNumber_1 : decode cX7_secondNumber 1 = .ok (.ireturn, 1) := by decide +kernel
theorem dX8_init_0 : decode cX8_init 0 = .ok (.aload_n 0, 1) := by decide +kernel
theorem dX8_init_1 : decode cX8_init 1 = .ok (.iload_n 1, 1) := by decide +kernel
theorem dX8_init_2 : decode cX8_init 2 = .ok (.iconst 1, 1) := by decide +kernel
theorem dX8_init_3 : decode cX8_init 3 = .ok (.invokespecial 3, 3) := by decide +kernel
theorem dX8_init_6 : decode cX8_init 6 = .ok (.return_, 1) := by decide +kernel
theorem dX8_gather_0 : decode cX8_gather 0 = .ok (.aload_n 1, 1) := by decide +kernel
theorem dX8_gather_1 : decode cX8_gather 1 = .ok (.getfield 9, 3) := by decide +kernel
theorem dX8_gather_4 : decode cX8_gather 4 = .ok (.ifCond .le 18, 3) := by decide +kernel
theorem dX8_gather_7 : decode cX8_gather 7 = .ok (.aload_n 0, 1) := by decide +kernel
theorem dX8_gather_8 : decode cX8_gather 8 = .ok (.aload_n 1, 1) := by decide +kernel
theorem dX8_gather_9 : decode cX8_gather 9 = .ok (.iconst 0, 1) := by decide +kernel
theorem dX8_gather_10 : decode cX8_gather 10 = .ok (.iconst 0, 1) := by decide +kernel
theorem dX8_gather_11 : decode cX8_gather 11 = .ok (.aload_n 1, 1) := by decide +kernel
theorem dX8_gather_12 : decode cX8_gather 12 = .ok (.getfield 9, 3) := by decide +kernel
theorem dX8_gather_15 : decode cX8_gather 15 = .ok (.iconst 1, 1) := by decide +kernel
theorem dX8_gather_16 : decode cX8_gather 16 = .ok (.isub, 1) := by decide +kernel
theorem dX8_gather_17 : decode cX8_gather 17 = .ok (.ldc 17, 2) := by decide +kernel
theorem dX8_gather_19 : decode cX8_gather 19 = .ok (.invokestatic 18, 3) := by decide +kernel
theorem dX8_gather_22 : decode cX8_gather 22 = .ok (.return_, 1) := by decide +kernel
theorem dX8_grow_0 : decode cX8_grow 0 = .ok (.iload 4, 2) := by decide +kernel
theorem dX8_grow_2 : decode cX8_grow 2 = .ok (.ifCond .ne 13, 3) := by decide +kernel
theorem dX8_grow_5 : decode cX8_grow 5 = .ok (.aload_n 0, 1) := by decide +kernel
theorem dX8_grow_6 : decode cX8_grow 6 = .ok (.getfield 22, 3) := by decide +kernel
theorem dX8_grow_9 : decode cX8_grow 9 = .ok (.aload_n 1, 1) := by decide +kernel
theorem dX8_grow_10 : decode cX8_grow 10 = .ok (.iload_n 3, 1) := by decide +kernel
theorem dX8_grow_11 : decode cX8_grow 11 = .ok (.invokevirtual 26, 3) := by decide +kernel
theorem dX8_grow_14 : decode cX8_grow 14 = .ok (.return_, 1) := by decide +kernel
theorem dX8_grow_15 : decode cX8_grow 15 = .ok (.iload_n 2, 1) := by decide +kernel
theorem dX8_grow_16 : decode cX8_grow 16 = .ok (.iload 4, 2) := by decide +kernel
theorem dX8_grow_18 : decode cX8_grow 18 = .ok (.iadd, 1) := by decide +kernel
theorem dX8_grow_19 : decode cX8_grow 19 = .ok (.aload_n 1, 1) := by decide +kernel
theorem dX8_grow_20 : decode cX8_grow 20 = .ok (.getfield 32, 3) := by decide +kernel
theorem dX8_grow_23 : decode cX8_grow 23 = .ok (.if_icmp .le 4, 3) := by decide +kernel
theorem dX8_grow_26 : decode cX8_grow 26 = .ok (.return_, 1) := by decide +kernel
theorem dX8_grow_27 : decode cX8_grow 27 = .ok (.iload 5, 2) := by decide +kernel
theorem dX8_grow_29 : decode cX8_grow 29 = .ok (.aload_n 1, 1) := by decide +kernel
theorem dX8_grow_30 : decode cX8_grow 30 = .ok (.getfield 35, 3) := by decide +kernel
theorem dX8_grow_33 : decode cX8_grow 33 = .ok (.iload_n 2, 1) := by decide +kernel
theorem dX8_grow_34 : decode cX8_grow 34 = .ok (.iaload, 1) := by decide +kernel
theorem dX8_grow_35 : decode cX8_grow 35 = .ok (.invokestatic 39, 3) := by decide +kernel
theorem dX8_grow_38 : decode cX8_grow 38 = .ok (.istore 6, 2) := by decide +kernel
theorem dX8_grow_40 : decode cX8_grow 40 = .ok (.iload 5, 2) := by decide +kernel
theorem dX8_grow_42 : decode cX8_grow 42 = .ok (.aload_n 1, 1) := by decide +kernel
theorem dX8_grow_43 : decode cX8_grow 43 = .ok (.getfield 43, 3) := by decide +kernel
theorem dX8_grow_46 : decode cX8_grow 46 = .ok (.iload_n 2, 1) := by decide +kernel
theorem dX8_grow_47 : decode cX8_grow 47 = .ok (.iaload, 1) := by decide +kernel
theorem dX8_grow_48 : decode cX8_grow 48 = .ok (.invokestatic 39, 3) := by decide +kernel
theorem dX8_grow_51 : decode cX8_grow 51 = .ok (.istore 7, 2) := by decide +kernel
theorem dX8_grow_53 : decode cX8_grow 53 = .ok (.iload 6, 2) := by decide +kernel
theorem dX8_grow_55 : decode cX8_grow 55 = .ok (.iload 7, 2) := by decide +kernel
theorem dX8_grow_57 : decode cX8_grow 57 = .ok (.if_icmp .eq 37, 3) := by decide +kernel
theorem dX8_grow_60 : decode cX8_grow 60 = .ok (.iload 5, 2) := by decide +kernel
theorem dX8_grow_62 : decode cX8_grow 62 = .ok (.iload 6, 2) := by decide +kernel
theorem dX8_grow_64 : decode cX8_grow 64 = .ok (.iload 7, 2) := by decide +kernel
theorem dX8_grow_66 : decode cX8_grow 66 = .ok (.aload_n 1, 1) := by decide +kernel
theorem dX8_grow_67 : decode cX8_grow 67 = .ok (.getfield 9, 3) := by decide +kernel
theorem dX8_grow_70 : decode cX8_grow 70 = .ok (.invokestatic 46, 3) := by decide +kernel
theorem dX8_grow_73 : decode cX8_grow 73 = .ok (.istore 8, 2) := by decide +kernel
theorem dX8_grow_75 : decode cX8_grow 75 = .ok (.aload_n 0, 1) := by decide +kernel
theorem dX8_grow_76 : decode cX8_grow 76 = .ok (.aload_n 1, 1) := by decide +kernel
theorem dX8_grow_77 : decode cX8_grow 77 = .ok (.iload_n 2, 1) := by decide +kernel
theorem dX8_grow_78 : decode cX8_grow 78 = .ok (.iconst 1, 1) := by decide +kernel
theorem dX8_grow_79 : decode cX8_grow 79 = .ok (.iadd, 1) := by decide +kernel
theorem dX8_grow_80 : decode cX8_grow 80 = .ok (.iload_n 3, 1) := by decide +kernel
theorem dX8_grow_81 : decode cX8_grow 81 = .ok (.iconst 1, 1) := by decide +kernel
theorem dX8_grow_82 : decode cX8_grow 82 = .ok (.iload_n 2, 1) := by decide +kernel
theorem dX8_grow_83 : decode cX8_grow 83 = .ok (.ishl, 1) := by decide +kernel
theorem dX8_grow_84 : decode cX8_grow 84 = .ok (.ior, 1) := by decide +kernel
theorem dX8_grow_85 : decode cX8_grow 85 = .ok (.iload 4, 2) := by decide +kernel
theorem dX8_grow_87 : decode cX8_grow 87 = .ok (.iconst 1, 1) := by decide +kernel
theorem dX8_grow_88 : decode cX8_grow 88 = .ok (.isub, 1) := by decide +kernel
theorem dX8_grow_89 : decode cX8_grow 89 = .ok (.iload 8, 2) := by decide +kernel
theorem dX8_grow_91 : decode cX8_grow 91 = .ok (.invokestatic 18, 3) := by decide +kernel
theorem dX8_grow_94 : decode cX8_grow 94 = .ok (.aload_n 0, 1) := by decide +kernel
theorem dX8_grow_95 : decode cX8_grow 95 = .ok (.aload_n 1, 1) := by decide +kernel
theorem dX8_grow_96 : decode cX8_grow 96 = .ok (.iload_n 2, 1) := by decide +kernel
theorem dX8_grow_97 : decode cX8_grow 97 = .ok (.iconst 1, 1) := by decide +kernel
theorem dX8_grow_98 : decode cX8_grow 98 = .ok (.iadd, 1) := by decide +kernel
theorem dX8_grow_99 : decode cX8_grow 99 = .ok (.iload_n 3, 1) := by decide +kernel
theorem dX8_grow_100 : decode cX8_grow 100 = .ok (.iload 4, 2) := by decide +kernel
theorem dX8_grow_102 : decode cX8_grow 102 = .ok (.iload 5, 2) := by decide +kernel
theorem dX8_grow_104 : decode cX8_grow 104 = .ok (.invokestatic 18, 3) := by decide +kernel
theorem dX8_grow_107 : decode cX8_grow 107 = .ok (.return_, 1) := by decide +kernel
theorem dX8_groupOf_0 : decode cX8_groupOf 0 = .ok (.iload_n 0, 1) := by decide +kernel
theorem dX8_groupOf_1 : decode cX8_groupOf 1 = .ok (.iconst 3, 1) := by decide +kernel
theorem dX8_groupOf_2 : decode cX8_groupOf 2 = .ok (.iload_n 1, 1) := by decide +kernel
theorem dX8_groupOf_3 : decode cX8_groupOf 3 = .ok (.imul, 1) := by decide +kernel
theorem dX8_groupOf_4 : decode cX8_groupOf 4 = .ok (.ishr, 1) := by decide +kernel
theorem dX8_groupOf_5 : decode cX8_groupOf 5 = .ok (.bipush 7, 2) := by decide +kernel
theorem dX8_groupOf_7 : decode cX8_groupOf 7 = .ok (.iand, 1) := by decide +kernel
theorem dX8_groupOf_8 : decode cX8_groupOf 8 = .ok (.ireturn, 1) := by decide +kernel
theorem dX8_join_0 : decode cX8_join 0 = .ok (.iload_n 0, 1) := by decide +kernel
theorem dX8_join_1 : decode cX8_join 1 = .ok (.istore 4, 2) := by decide +kernel
theorem dX8_join_3 : decode cX8_join 3 = .ok (.iconst 0, 1) := by decide +kernel
theorem dX8_join_4 : decode cX8_join 4 = .ok (.istore 5, 2) := by decide +kernel
theorem dX8_join_6 : decode cX8_join 6 = .ok (.iload 5, 2) := by decide +kernel
theorem dX8_join_8 : decode cX8_join 8 = .ok (.iload_n 3, 1) := by decide +kernel
theorem dX8_join_9 : decode cX8_join 9 = .ok (.if_icmp .ge 32, 3) := by decide +kernel
theorem dX8_join_12 : decode cX8_join 12 = .ok (.iload_n 0, 1) := by decide +kernel
theorem dX8_join_13 : decode cX8_join 13 = .ok (.iload 5, 2) := by decide +kernel
theorem dX8_join_15 : decode cX8_join 15 = .ok (.invokestatic 39, 3) := by decide +kernel
theorem dX8_join_18 : decode cX8_join 18 = .ok (.iload_n 2, 1) := by decide +kernel
theorem dX8_join_19 : decode cX8_join 19 = .ok (.if_icmp .ne 16, 3) := by decide +kernel
theorem dX8_join_22 : decode cX8_join 22 = .ok (.iload 4, 2) := by decide +kernel
theorem dX8_join_24 : decode cX8_join 24 = .ok (.iload_n 2, 1) := by decide +kernel
theorem dX8_join_25 : decode cX8_join 25 = .ok (.iload_n 1, 1) := by decide +kernel
theorem dX8_join_26 : decode cX8_join 26 = .ok (.ixor, 1) := by decide +kernel
theorem dX8_join_27 : decode cX8_join 27 = .ok (.iconst 3, 1) := by decide +kernel
theorem dX8_join_28 : decode cX8_join 28 = .ok (.iload 5, 2) := by decide +kernel
theorem dX8_join_30 : decode cX8_join 30 = .ok (.imul, 1) := by decide +kernel
theorem dX8_join_31 : decode cX8_join 31 = .ok (.ishl, 1) := by decide +kernel
theorem dX8_join_32 : decode cX8_join 32 = .ok (.ixor, 1) := by decide +kernel
theorem dX8_join_33 : decode cX8_join 33 = .ok (.istore 4, 2) := by decide +kernel
theorem dX8_join_35 : decode cX8_join 35 = .ok (.iinc 5 1, 3) := by decide +kernel
theorem dX8_join_38 : decode cX8_join 38 = .ok (.goto (-32), 3) := by decide +kernel
theorem dX8_join_41 : decode cX8_join 41 = .ok (.iload 4, 2) := by decide +kernel
theorem dX8_join_43 : decode cX8_join 43 = .ok (.ireturn, 1) := by decide +kernel
theorem dX8_barsIn_0 : decode cX8_barsIn 0 = .ok (.aload_n 1, 1) := by decide +kernel
theorem dX8_barsIn_1 : decode cX8_barsIn 1 = .ok (.getfield 9, 3) := by decide +kernel
theorem dX8_barsIn_4 : decode cX8_barsIn 4 = .ok (.ifCond .ne 7, 3) := by decide +kernel
theorem dX8_barsIn_7 : decode cX8_barsIn 7 = .ok (.iconst 0, 1) := by decide +kernel
theorem dX8_barsIn_8 : decode cX8_barsIn 8 = .ok (.goto 16, 3) := by decide +kernel
theorem dX8_barsIn_11 : decode cX8_barsIn 11 = .ok (.aload_n 1, 1) := by decide +kernel
theorem dX8_barsIn_12 : decode cX8_barsIn 12 = .ok (.iconst 0, 1) := by decide +kernel
theorem dX8_barsIn_13 : decode cX8_barsIn 13 = .ok (.iconst 1, 1) := by decide +kernel
theorem dX8_barsIn_14 : decode cX8_barsIn 14 = .ok (.aload_n 1, 1) := by decide +kernel
theorem dX8_barsIn_15 : decode cX8_barsIn 15 = .ok (.getfield 32, 3) := by decide +kernel
theorem dX8_barsIn_18 : decode cX8_barsIn 18 = .ok (.ishl, 1) := by decide +kernel
theorem dX8_barsIn_19 : decode cX8_barsIn 19 = .ok (.iconst 1, 1) := by decide +kernel
theorem dX8_barsIn_20 : decode cX8_barsIn 20 = .ok (.isub, 1) := by decide +kernel
theorem dX8_barsIn_21 : decode cX8_barsIn 21 = .ok (.invokevirtual 50, 3) := by decide +kernel
theorem dX8_barsIn_24 : decode cX8_barsIn 24 = .ok (.ireturn, 1) := by decide +kernel
theorem dX8_needs_0 : decode cX8_needs 0 = .ok (.iconst 0, 1) := by decide +kernel
theorem dX8_needs_1 : decode cX8_needs 1 = .ok (.ireturn, 1) := by decide +kernel
theorem dX8_firstNumber_0 : decode cX8_firstNumber 0 = .ok (.iconst 0, 1) := by decide +kernel
theorem dX8_firstNumber_1 : decode cX8_firstNumber 1 = .ok (.ireturn, 1) := by decide +kernel
theorem dX8_secondNumber_0 : decode cX8_secondNumber 0 = .ok (.iconst 0, 1) := by decide +kernel
theorem dX8_secondNumber_1 : decode cX8_secondNumber 1 = .ok (.ireturn, 1) := by decide +kernel
theorem dX9_init_0 : decode cX9_init 0 = .ok (.aload_n 0, 1) := by decide +kernel
theorem dX9_init_1 : decode cX9_init 1 = .ok (.iload_n 1, 1) := by decide +kernel
theorem dX9_init_2 : decode cX9_init 2 = .ok (.iconst 2, 1) := by decide +kernel
theorem dX9_init_3 : decode cX9_init 3 = .ok (.invokespecial 3, 3) := by decide +kernel
theorem dX9_init_6 : decode cX9_init 6 = .ok (.aload_n 0, 1) := by decide +kernel
theorem dX9_init_7 : decode cX9_init 7 = .ok (.iload_n 2, 1) := by decide +kernel
theorem dX9_init_8 : decode cX9_init 8 = .ok (.putfield 9, 3) := by decide +kernel
theorem dX9_init_11 : decode cX9_init 11 = .ok (.aload_n 0, 1) := by decide +kernel
theorem dX9_init_12 : decode cX9_init 12 = .ok (.iload_n 3, 1) := by decide +kernel
theorem dX9_init_13 : decode cX9_init 13 = .ok (.putfield 15, 3) := by decide +kernel
theorem dX9_init_16 : decode cX9_init 16 = .ok (.return_, 1) := by decide +kernel
theorem dX9_gather_0 : decode cX9_gather 0 = .ok (.aload_n 0, 1) := by decide +kernel
theorem dX9_gather_1 : decode cX9_gather 1 = .ok (.aload_n 1, 1) := by decide +kernel
theorem dX9_gather_2 : decode cX9_gather 2 = .ok (.aload_n 0, 1) := by decide +kernel
theorem dX9_gather_3 : decode cX9_gather 3 = .ok (.getfield 9, 3) := by decide +kernel
theorem dX9_gather_6 : decode cX9_gather 6 = .ok (.iconst 1, 1) := by decide +kernel
theorem dX9_gather_7 : decode cX9_gather 7 = .ok (.aload_n 0, 1) := by decide +kernel
theorem dX9_gather_8 : decode cX9_gather 8 = .ok (.getfield 9, 3) := by decide +kernel
theorem dX9_gather_11 : decode cX9_gather 11 = .ok (.ishl, 1) := by decide +kernel
theorem dX9_gather_12 : decode cX9_gather 12 = .ok (.iconst 0, 1) := by decide +kernel
theorem dX9_gather_13 : decode cX9_gather 13 = .ok (.aload_n 1, 1) := by decide +kernel
theorem dX9_gather_14 : decode cX9_gather 14 = .ok (.getfield 18, 3) := by decide +kernel
theorem dX9_gather_17 : decode cX9_gather 17 = .ok (.invokestatic 23, 3) := by decide +kernel
theorem dX9_gather_20 : decode cX9_gather 20 = .ok (.return_, 1) := by decide +kernel
theorem dX9_walk_0 : decode cX9_walk 0 = .ok (.iload_n 2, 1) := by decide +kernel
theorem dX9_walk_1 : decode cX9_walk 1 = .ok (.aload_n 0, 1) := by decide +kernel
theorem dX9_walk_2 : decode cX9_walk 2 = .ok (.getfield 15, 3) := by decide +kernel
theorem dX9_walk_5 : decode cX9_walk 5 = .ok (.if_icmp .ne 14, 3) := by decide +kernel
theorem dX9_walk_8 : decode cX9_walk 8 = .ok (.aload_n 0, 1) := by decide +kernel
theorem dX9_walk_9 : decode cX9_walk 9 = .ok (.getfield 27, 3) := by decide +kernel
theorem dX9_walk_12 : decode cX9_walk 12 = .ok (.aload_n 1, 1) := by decide +kernel
theorem dX9_walk_13 : decode cX9_walk 13 = .ok (.iload 4, 2) := by decide +kernel
theorem dX9_walk_15 : decode cX9_walk 15 = .ok (.invokevirtual 31, 3) := by decide +kernel
theorem dX9_walk_18 : decode cX9_walk 18 = .ok (.return_, 1) := by decide +kernel
theorem dX9_walk_19 : decode cX9_walk 19 = .ok (.iload 5, 2) := by decide +kernel
theorem dX9_walk_21 : decode cX9_walk 21 = .ok (.ifCond .gt 4, 3) := by decide +kernel
theorem dX9_walk_24 : decode cX9_walk 24 = .ok (.return_, 1) := by decide +kernel
theorem dX9_walk_25 : decode cX9_walk 25 = .ok (.iconst 0, 1) := by decide +kernel
theorem dX9_walk_26 : decode cX9_walk 26 = .ok (.istore 6, 2) := by decide +kernel
theorem dX9_walk_28 : decode cX9_walk 28 = .ok (.iload 6, 2) := by decide +kernel
theorem dX9_walk_30 : decode cX9_walk 30 = .ok (.aload_n 1, 1) := by decide +kernel
theorem dX9_walk_31 : decode cX9_walk 31 = .ok (.getfield 37, 3) := by decide +kernel
theorem dX9_walk_34 : decode cX9_walk 34 = .ok (.if_icmp .ge 62, 3) := by decide +kernel
theorem dX9_walk_37 : decode cX9_walk 37 = .ok (.aload_n 1, 1) := by decide +kernel
theorem dX9_walk_38 : decode cX9_walk 38 = .ok (.getfield 40, 3) := by decide +kernel
theorem dX9_walk_41 : decode cX9_walk 41 = .ok (.iload 6, 2) := by decide +kernel
theorem dX9_walk_43 : decode cX9_walk 43 = .ok (.iaload, 1) := by decide +kernel
theorem dX9_walk_44 : decode cX9_walk 44 = .ok (.istore 7, 2) := by decide +kernel
theorem dX9_walk_46 : decode cX9_walk 46 = .ok (.aload_n 1, 1) := by decide +kernel
theorem dX9_walk_47 : decode cX9_walk 47 = .ok (.getfield 44, 3) := by decide +kernel
theorem dX9_walk_50 : decode cX9_walk 50 = .ok (.iload 6, 2) := by decide +kernel
theorem dX9_walk_52 : decode cX9_walk 52 = .ok (.iaload, 1) := by decide +kernel
theorem dX9_walk_53 : decode cX9_walk 53 = .ok (.iload_n 2, 1) := by decide +kernel
theorem dX9_walk_54 : decode cX9_walk 54 = .ok (.if_icmp .ne 36, 3) := by decide +kernel
theorem dX9_walk_57 : decode cX9_walk 57 = .ok (.iload_n 3, 1) := by decide +kernel
theorem dX9_walk_58 : decode cX9_walk 58 = .ok (.iload 7, 2) := by decide +kernel
theorem dX9_walk_60 : decode cX9_walk 60 = .ok (.ishr, 1) := by decide +kernel
theorem dX9_walk_61 : decode cX9_walk 61 = .ok (.iconst 1, 1) := by decide +kernel
theorem dX9_walk_62 : decode cX9_walk 62 = .ok (.iand, 1) := by decide +kernel
theorem dX9_walk_63 : decode cX9_walk 63 = .ok (.ifCond .ne 27, 3) := by decide +kernel
theorem dX9_walk_66 : decode cX9_walk 66 = .ok (.aload_n 0, 1) := by decide +kernel
theorem dX9_walk_67 : decode cX9_walk 67 = .ok (.aload_n 1, 1) := by decide +kernel
theorem dX9_walk_68 : decode cX9_walk 68 = .ok (.iload 7, 2) := by decide +kernel
theorem dX9_walk_70 : decode cX9_walk 70 = .ok (.iload_n 3, 1) := by decide +kernel
theorem dX9_walk_71 : decode cX9_walk 71 = .ok (.iconst 1, 1) := by decide +kernel
theorem dX9_walk_72 : decode cX9_walk 72 = .ok (.iload 7, 2) := by decide +kernel
theorem dX9_walk_74 : decode cX9_walk 74 = .ok (.ishl, 1) := by decide +kernel
theorem dX9_walk_75 : decode cX9_walk 75 = .ok (.ior, 1) := by decide +kernel
theorem dX9_walk_76 : decode cX9_walk 76 = .ok (.iload 4, 2) := by decide +kernel
theorem dX9_walk_78 : decode cX9_walk 78 = .ok (.iconst 1, 1) := by decide +kernel
theorem dX9_walk_79 : decode cX9_walk 79 = .ok (.iload 6, 2) := by decide +kernel
theorem dX9_walk_81 : decode cX9_walk 81 = .ok (.ishl, 1) := by decide +kernel
theorem dX9_walk_82 : decode cX9_walk 82 = .ok (.ior, 1) := by decide +kernel
theorem dX9_walk_83 : decode cX9_walk 83 = .ok (.iload 5, 2) := by decide +kernel
theorem dX9_walk_85 : decode cX9_walk 85 = .ok (.iconst 1, 1) := by decide +kernel
theorem dX9_walk_86 : decode cX9_walk 86 = .ok (.isub, 1) := by decide +kernel
theorem dX9_walk_87 : decode cX9_walk 87 = .ok (.invokestatic 23, 3) := by decide +kernel
theorem dX9_walk_90 : decode cX9_walk 90 = .ok (.iinc 6 1, 3) := by decide +kernel
theorem dX9_walk_93 : decode cX9_walk 93 = .ok (.goto (-65), 3) := by decide +kernel
theorem dX9_walk_96 : decode cX9_walk 96 = .ok (.return_, 1) := by decide +kernel
theorem dX9_barsIn_0 : decode cX9_barsIn 0 = .ok (.aload_n 1, 1) := by decide +kernel
theorem dX9_barsIn_1 : decode cX9_barsIn 1 = .ok (.aload_n 0, 1) := by decide +kernel
theorem dX9_barsIn_2 : decode cX9_barsIn 2 = .ok (.getfield 9, 3) := by decide +kernel
theorem dX9_barsIn_5 : decode cX9_barsIn 5 = .ok (.invokevirtual 47, 3) := by decide +kernel
theorem dX9_barsIn_8 : decode cX9_barsIn 8 = .ok (.ireturn, 1) := by decide +kernel
theorem dX9_needs_0 : decode cX9_needs 0 = .ok (.aload_n 0, 1) := by decide +kernel
theorem dX9_needs_1 : decode cX9_needs 1 = .ok (.getfield 9, 3) := by decide +kernel
theorem dX9_needs_4 : decode cX9_needs 4 = .ok (.iload_n 1, 1) := by decide +kernel
theorem dX9_needs_5 : decode cX9_needs 5 = .ok (.if_icmp .eq 11, 3) := by decide +kernel
theorem dX9_needs_8 : decode cX9_needs 8 = .ok (.aload_n 0, 1) := by decide +kernel
theorem dX9_needs_9 : decode cX9_needs 9 = .ok (.getfield 15, 3) := by decide +kernel
theorem dX9_needs_12 : decode cX9_needs 12 = .ok (.iload_n 1, 1) := by decide +kernel
theorem dX9_needs_13 : decode cX9_needs 13 = .ok (.if_icmp .ne 7, 3) := by decide +kernel
theorem dX9_needs_16 : decode cX9_needs 16 = .ok (.iconst 1, 1) := by decide +kernel
theorem dX9_needs_17 : decode cX9_needs 17 = .ok (.goto 4, 3) := by decide +kernel
theorem dX9_needs_20 : decode cX9_needs 20 = .ok (.iconst 0, 1) := by decide +kernel
theorem dX9_needs_21 : decode cX9_needs 21 = .ok (.ireturn, 1) := by decide +kernel
theorem dX9_firstNumber_0 : decode cX9_firstNumber 0 = .ok (.aload_n 0, 1) := by decide +kernel
theorem dX9_firstNumber_1 : decode cX9_firstNumber 1 = .ok (.getfield 9, 3) := by decide +kernel
theorem dX9_firstNumber_4 : decode cX9_firstNumber 4 = .ok (.ireturn, 1) := by decide +kernel
theorem dX9_secondNumber_0 : decode cX9_secondNumber 0 = .ok (.aload_n 0, 1) := by decide +kernel
theorem dX9_secondNumber_1 : decode cX9_secondNumber 1 = .ok (.getfield 15, 3) := by decide +kernel
theorem dX9_secondNumber_4 : decode cX9_secondNumber 4 = .ok (.ireturn, 1) := by decide +kernel
theorem dX10_init_0 : decode cX10_init 0 = .ok (.aload_n 0, 1) := by decide +kernel
theorem dX10_init_1 : decode cX10_init 1 = .ok (.invokespecial 1, 3) := by decide +kernel
theorem dX10_init_4 : decode cX10_init 4 = .ok (.aload_n 0, 1) := by decide +kernel
theorem dX10_init_5 : decode cX10_init 5 = .ok (.iconst 0, 1) := by decide +kernel
theorem dX10_init_6 : decode cX10_init 6 = .ok (.putfield 7, 3) := by decide +kernel
theorem dX10_init_9 : decode cX10_init 9 = .ok (.aload_n 0, 1) := by decide +kernel
theorem dX10_init_10 : decode cX10_init 10 = .ok (.iconst 1, 1) := by decide +kernel
theorem dX10_init_11 : decode cX10_init 11 = .ok (.putfield 13, 3) := by decide +kernel
theorem dX10_init_14 : decode cX10_init 14 = .ok (.aload_n 0, 1) := by decide +kernel
theorem dX10_init_15 : decode cX10_init 15 = .ok (.bipush 10, 2) := by decide +kernel
theorem dX10_init_17 : decode cX10_init 17 = .ok (.putfield 16, 3) := by decide +kernel
theorem dX10_init_20 : decode cX10_init 20 = .ok (.aload_n 0, 1) := by decide +kernel
theorem dX10_init_21 : decode cX10_init 21 = .ok (.iconst 1, 1) := by decide +kernel
theorem dX10_init_22 : decode cX10_init 22 = .ok (.putfield 19, 3) := by decide +kernel
theorem dX10_init_25 : decode cX10_init 25 = .ok (.return_, 1) := by decide +kernel
theorem dX10_become_0 : decode cX10_become 0 = .ok (.aload_n 0, 1) := by decide +kernel
theorem dX10_become_1 : decode cX10_become 1 = .ok (.iload_n 1, 1) := by decide +kernel
theorem dX10_become_2 : decode cX10_become 2 = .ok (.putfield 7, 3) := by decide +kernel
theorem dX10_become_5 : decode cX10_become 5 = .ok (.aload_n 0, 1) := by decide +kernel
theorem dX10_become_6 : decode cX10_become 6 = .ok (.iload_n 2, 1) := by decide +kernel
theorem dX10_become_7 : decode cX10_become 7 = .ok (.putfield 13, 3) := by decide +kernel
theorem dX10_become_10 : decode cX10_become 10 = .ok (.aload_n 0, 1) := by decide +kernel
theorem dX10_become_11 : decode cX10_become 11 = .ok (.iload_n 3, 1) := by decide +kernel
theorem dX10_become_12 : decode cX10_become 12 = .ok (.putfield 16, 3) := by decide +kernel
theorem dX10_become_15 : decode cX10_become 15 = .ok (.aload_n 0, 1) := by decide +kernel
theorem dX10_become_16 : decode cX10_become 16 = .ok (.iload 4, 2) := by decide +kernel
theorem dX10_become_18 : decode cX10_become 18 = .ok (.putfield 19, 3) := by decide +kernel
theorem dX10_become_21 : decode cX10_become 21 = .ok (.aload_n 0, 1) := by decide +kernel
theorem dX10_become_22 : decode cX10_become 22 = .ok (.dup, 1) := by decide +kernel
theorem dX10_become_23 : decode cX10_become 23 = .ok (.getfield 22, 3) := by decide +kernel
theorem dX10_become_26 : decode cX10_become 26 = .ok (.iconst 1, 1) := by decide +kernel
theorem dX10_become_27 : decode cX10_become 27 = .ok (.iadd, 1) := by decide +kernel
theorem dX10_become_28 : decode cX10_become 28 = .ok (.putfield 22, 3) := by decide +kernel
theorem dX10_become_31 : decode cX10_become 31 = .ok (.return_, 1) := by decide +kernel
theorem dX10_holdsInside_0 : decode cX10_holdsInside 0 = .ok (.aload_n 0, 1) := by decide +kernel
theorem dX10_holdsInside_1 : decode cX10_holdsInside 1 = .ok (.getfield 7, 3) := by decide +kernel
theorem dX10_holdsInside_4 : decode cX10_holdsInside 4 = .ok (.i2l, 1) := by decide +kernel
theorem dX10_holdsInside_5 : decode cX10_holdsInside 5 = .ok (.aload_n 0, 1) := by decide +kernel
theorem dX10_holdsInside_6 : decode cX10_holdsInside 6 = .ok (.getfield 13, 3) := by decide +kernel
theorem dX10_holdsInside_9 : decode cX10_holdsInside 9 = .ok (.i2l, 1) := by decide +kernel
theorem dX10_holdsInside_10 : decode cX10_holdsInside 10 = .ok (.iload_n 1, 1) := by decide +kernel
theorem dX10_holdsInside_11 : decode cX10_holdsInside 11 = .ok (.i2l, 1) := by decide +kernel
theorem dX10_holdsInside_12 : decode cX10_holdsInside 12 = .ok (.iload_n 2, 1) := by decide +kernel
theorem dX10_holdsInside_13 : decode cX10_holdsInside 13 = .ok (.i2l, 1) := by decide +kernel
theorem dX10_holdsInside_14 : decode cX10_holdsInside 14 = .ok (.invokestatic 25, 3) := by decide +kernel
theorem dX10_holdsInside_17 : decode cX10_holdsInside 17 = .ok (.ifCond .eq 27, 3) := by decide +kernel
theorem dX10_holdsInside_20 : decode cX10_holdsInside 20 = .ok (.iload_n 1, 1) := by decide +kernel
theorem dX10_holdsInside_21 : decode cX10_holdsInside 21 = .ok (.i2l, 1) := by decide +kernel
theorem dX10_holdsInside_22 : decode cX10_holdsInside 22 = .ok (.iload_n 2, 1) := by decide +kernel
theorem dX10_holdsInside_23 : decode cX10_holdsInside 23 = .ok (.i2l, 1) := by decide +kernel
theorem dX10_holdsInside_24 : decode cX10_holdsInside 24 = .ok (.aload_n 0, 1) := by decide +kernel
theorem dX10_holdsInside_25 : decode cX10_holdsInside 25 = .ok (.getfield 16, 3) := by decide +kernel
theorem dX10_holdsInside_28 : decode cX10_holdsInside 28 = .ok (.i2l, 1) := by decide +kernel
theorem dX10_holdsInside_29 : decode cX10_holdsInside 29 = .ok (.aload_n 0, 1) := by decide +kernel
theorem dX10_holdsInside_30 : decode cX10_holdsInside 30 = .ok (.getfield 19, 3) := by decide +kernel
theorem dX10_holdsInside_33 : decode cX10_holdsInside 33 = .ok (.i2l, 1) := by decide +kernel
theorem dX10_holdsInside_34 : decode cX10_holdsInside 34 = .ok (.invokestatic 25, 3) := by decide +kernel
theorem dX10_holdsInside_37 : decode cX10_holdsInside 37 = .ok (.ifCond .eq 7, 3) := by decide +kernel
theorem dX10_holdsInside_40 : decode cX10_holdsInside 40 = .ok (.iconst 1, 1) := by decide +kernel
theorem dX10_holdsInside_41 : decode cX10_holdsInside 41 = .ok (.goto 4, 3) := by decide +kernel
theorem dX10_holdsInside_44 : decode cX10_holdsInside 44 = .ok (.iconst 0, 1) := by decide +kernel
theorem dX10_holdsInside_45 : decode cX10_holdsInside 45 = .ok (.ireturn, 1) := by decide +kernel
theorem dX11_init_0 : decode cX11_init 0 = .ok (.aload_n 0, 1) := by decide +kernel
theorem dX11_init_1 : decode cX11_init 1 = .ok (.invokespecial 1, 3) := by decide +kernel
theorem dX11_init_4 : decode cX11_init 4 = .ok (.aload_n 0, 1) := by decide +kernel
theorem dX11_init_5 : decode cX11_init 5 = .ok (.new 7, 3) := by decide +kernel
theorem dX11_init_8 : decode cX11_init 8 = .ok (.dup, 1) := by decide +kernel
theorem dX11_init_9 : decode cX11_init 9 = .ok (.invokespecial 9, 3) := by decide +kernel
theorem dX11_init_12 : decode cX11_init 12 = .ok (.putfield 10, 3) := by decide +kernel
theorem dX11_init_15 : decode cX11_init 15 = .ok (.aload_n 0, 1) := by decide +kernel
theorem dX11_init_16 : decode cX11_init 16 = .ok (.bipush 10, 2) := by decide +kernel
theorem dX11_init_18 : decode cX11_init 18 = .ok (.anewarray 16, 3) := by decide +kernel
theorem dX11_init_21 : decode cX11_init 21 = .ok (.putfield 18, 3) := by decide +kernel
theorem dX11_init_24 : decode cX11_init 24 = .ok (.aload_n 0, 1) := by decide +kernel
theorem dX11_init_25 : decode cX11_init 25 = .ok (.new 22, 3) := by decide +kernel
theorem dX11_init_28 : decode cX11_init 28 = .ok (.dup, 1) := by decide +kernel
theorem dX11_init_29 : decode cX11_init 29 = .ok (.invokespecial 24, 3) := by decide +kernel
theorem dX11_init_32 : decode cX11_init 32 = .ok (.putfield 25, 3) := by decide +kernel
theorem dX11_init_35 : decode cX11_init 35 = .ok (.aload_n 0, 1) := by decide +kernel
theorem dX11_init_36 : decode cX11_init 36 = .ok (.new 29, 3) := by decide +kernel
theorem dX11_init_39 : decode cX11_init 39 = .ok (.dup, 1) := by decide +kernel
theorem dX11_init_40 : decode cX11_init 40 = .ok (.invokespecial 31, 3) := by decide +kernel
theorem dX11_init_43 : decode cX11_init 43 = .ok (.putfield 32, 3) := by decide +kernel
theorem dX11_init_46 : decode cX11_init 46 = .ok (.aload_n 0, 1) := by decide +kernel
theorem dX11_init_47 : decode cX11_init 47 = .ok (.new 36, 3) := by decide +kernel
theorem dX11_init_50 : decode cX11_init 50 = .ok (.dup, 1) := by decide +kernel
theorem dX11_init_51 : decode cX11_init 51 = .ok (.invokespecial 38, 3) := by decide +kernel
theorem dX11_init_54 : decode cX11_init 54 = .ok (.putfield 39, 3) := by decide +kernel
theorem dX11_init_57 : decode cX11_init 57 = .ok (.aload_n 0, 1) := by decide +kernel
theorem dX11_init_58 : decode cX11_init 58 = .ok (.iconst 4, 1) := by decide +kernel
theorem dX11_init_59 : decode cX11_init 59 = .ok (.anewarray 43, 3) := by decide +kernel
theorem dX11_init_62 : decode cX11_init 62 = .ok (.putfield 45, 3) := by decide +kernel
theorem dX11_init_65 : decode cX11_init 65 = .ok (.aload_n 0, 1) := by decide +kernel
theorem dX11_init_66 : decode cX11_init 66 = .ok (.iconst 5, 1) := by decide +kernel
theorem dX11_init_67 : decode cX11_init 67 = .ok (.newarray .long, 2) := by decide +kernel
theorem dX11_init_69 : decode cX11_init 69 = .ok (.putfield 49, 3) := by decide +kernel
theorem dX11_init_72 : decode cX11_init 72 = .ok (.iconst 0, 1) := by decide +kernel
theorem dX11_init_73 : decode cX11_init 73 = .ok (.istore_n 1, 1) := by decide +kernel
theorem dX11_init_74 : decode cX11_init 74 = .ok (.iload_n 1, 1) := by decide +kernel
theorem dX11_init_75 : decode cX11_init 75 = .ok (.iconst 4, 1) := by decide +kernel
theorem dX11_init_76 : decode cX11_init 76 = .ok (.if_icmp .ge 22, 3) := by decide +kernel
theorem dX11_init_79 : decode cX11_init 79 = .ok (.aload_n 0, 1) := by decide +kernel
theorem dX11_init_80 : decode cX11_init 80 = .ok (.getfield 45, 3) := by decide +kernel
theorem dX11_init_83 : decode cX11_init 83 = .ok (.iload_n 1, 1) := by decide +kernel
theorem dX11_init_84 : decode cX11_init 84 = .ok (.new 43, 3) := by decide +kernel
theorem dX11_init_87 : decode cX11_init 87 = .ok (.dup, 1) := by decide +kernel
theorem dX11_init_88 : decode cX11_init 88 = .ok (.invokespecial 53, 3) := by decide +kernel
theorem dX11_init_91 : decode cX11_init 91 = .ok (.aastore, 1) := by decide +kernel
theorem dX11_init_92 : decode cX11_init 92 = .ok (.iinc 1 1, 3) := by decide +kernel
theorem dX11_init_95 : decode cX11_init 95 = .ok (.goto (-21), 3) := by decide +kernel
theorem dX11_init_98 : decode cX11_init 98 = .ok (.return_, 1) := by decide +kernel
theorem dX11_thing_0 : decode cX11_thing 0 = .ok (.aload_n 0, 1) := by decide +kernel
theorem dX11_thing_1 : decode cX11_thing 1 = .ok (.getfield 10, 3) := by decide +kernel
theorem dX11_thing_4 : decode cX11_thing 4 = .ok (.invokevirtual 54, 3) := by decide +kernel
theorem dX11_thing_7 : decode cX11_thing 7 = .ok (.ireturn, 1) := by decide +kernel
theorem dX11_line_0 : decode cX11_line 0 = .ok (.aload_n 0, 1) := by decide +kernel
theorem dX11_line_1 : decode cX11_line 1 = .ok (.getfield 10, 3) := by decide +kernel
theorem dX11_line_4 : decode cX11_line 4 = .ok (.iload_n 1, 1) := by decide +kernel
theorem dX11_line_5 : decode cX11_line 5 = .ok (.invokevirtual 58, 3) := by decide +kernel
theorem dX11_line_8 : decode cX11_line 8 = .ok (.ifCond .eq 28, 3) := by decide +kernel
theorem dX11_line_11 : decode cX11_line 11 = .ok (.aload_n 0, 1) := by decide +kernel
theorem dX11_line_12 : decode cX11_line 12 = .ok (.getfield 10, 3) := by decide +kernel
theorem dX11_line_15 : decode cX11_line 15 = .ok (.iload_n 2, 1) := by decide +kernel
theorem dX11_line_16 : decode cX11_line 16 = .ok (.invokevirtual 58, 3) := by decide +kernel
theorem dX11_line_19 : decode cX11_line 19 = .ok (.ifCond .eq 17, 3) := by decide +kernel
theorem dX11_line_22 : decode cX11_line 22 = .ok (.iload_n 1, 1) := by decide +kernel
theorem dX11_line_23 : decode cX11_line 23 = .ok (.iload_n 2, 1) := by decide +kernel
theorem dX11_line_24 : decode cX11_line 24 = .ok (.if_icmp .eq 12, 3) := by decide +kernel
theorem dX11_line_27 : decode cX11_line 27 = .ok (.iload_n 3, 1) := by decide +kernel
theorem dX11_line_28 : decode cX11_line 28 = .ok (.iload 4, 2) := by decide +kernel
theorem dX11_line_30 : decode cX11_line 30 = .ok (.invokestatic 62, 3) := by decide +kernel
theorem dX11_line_33 : decode cX11_line 33 = .ok (.ifCond .ne 6, 3) := by decide +kernel
theorem dX11_line_36 : decode cX11_line 36 = .ok (.bipush (-2), 2) := by decide +kernel
theorem dX11_line_38 : decode cX11_line 38 = .ok (.ireturn, 1) := by decide +kernel
theorem dX11_line_39 : decode cX11_line 39 = .ok (.aload_n 0, 1) := by decide +kernel
theorem dX11_line_40 : decode cX11_line 40 = .ok (.getfield 10, 3) := by decide +kernel
theorem dX11_line_43 : decode cX11_line 43 = .ok (.iload_n 1, 1) := by decide +kernel
theorem dX11_line_44 : decode cX11_line 44 = .ok (.iload_n 2, 1) := by decide +kernel
theorem dX11_line_45 : decode cX11_line 45 = .ok (.iload_n 3, 1) := by decide +kernel
theorem dX11_line_46 : decode cX11_line 46 = .ok (.iload 4, 2) := by decide +kernel
theorem dX11_line_48 : decode cX11_line 48 = .ok (.invokevirtual 66, 3) := by decide +kernel
theorem dX11_line_51 : decode cX11_line 51 = .ok (.ireturn, 1) := by decide +kernel
theorem dX11_alter_0 : decode cX11_alter 0 = .ok (.aload_n 0, 1) := by decide +kernel
theorem dX11_alter_1 : decode cX11_alter 1 = .ok (.getfield 10, 3) := by decide +kernel
theorem dX11_alter_4 : decode cX11_alter 4 = .ok (.iload_n 1, 1) := by decide +kernel
theorem dX11_alter_5 : decode cX11_alter 5 = .ok (.invokevirtual 70, 3) := by decide +kernel
theorem dX11_alter_8 : decode cX11_alter 8 = .ok (.ifCond .eq 11, 3) := by decide +kernel
theorem dX11_alter_11 : decode cX11_alter 11 = .ok (.iload_n 2, 1) := by decide +kernel
theorem dX11_alter_12 : decode cX11_alter 12 = .ok (.iload_n 3, 1) := by decide +kernel
theorem dX11_alter_13 : decode cX11_alter 13 = .ok (.invokestatic 62, 3) := by decide +kernel
theorem dX11_alter_16 : decode cX11_alter 16 = .ok (.ifCond .ne 6, 3) := by decide +kernel
theorem dX11_alter_19 : decode cX11_alter 19 = .ok (.bipush (-2), 2) := by decide +kernel
theorem dX11_alter_21 : decode cX11_alter 21 = .ok (.ireturn, 1) := by decide +kernel
theorem dX11_alter_22 : decode cX11_alter 22 = .ok (.aload_n 0, 1) := by decide +kernel
theorem dX11_alter_23 : decode cX11_alter 23 = .ok (.getfield 10, 3) := by decide +kernel
theorem dX11_alter_26 : decode cX11_alter 26 = .ok (.iload_n 1, 1) := by decide +kernel
theorem dX11_alter_27 : decode cX11_alter 27 = .ok (.iload_n 2, 1) := by decide +kernel
theorem dX11_alter_28 : decode cX11_alter 28 = .ok (.iload_n 3, 1) := by decide +kernel
theorem dX11_alter_29 : decode cX11_alter 29 = .ok (.invokevirtual 73, 3) := by decide +kernel
theorem dX11_alter_32 : decode cX11_alter 32 = .ok (.iconst 1, 1) := by decide +kernel
theorem dX11_alter_33 : decode cX11_alter 33 = .ok (.ireturn, 1) := by decide +kernel
theorem dX11_close_0 : decode cX11_close 0 = .ok (.aload_n 0, 1) := by decide +kernel
theorem dX11_close_1 : decode cX11_close 1 = .ok (.getfield 10, 3) := by decide +kernel
theorem dX11_close_4 : decode cX11_close 4 = .ok (.getfield 77, 3) := by decide +kernel
theorem dX11_close_7 : decode cX11_close 7 = .ok (.ifCond .ne 8, 3) := by decide +kernel
theorem dX11_close_10 : decode cX11_close 10 = .ok (.bipush (-3), 2) := by decide +kernel
theorem dX11_close_12 : decode cX11_close 12 = .ok (.goto 10, 3) := by decide +kernel
theorem dX11_close_15 : decode cX11_close 15 = .ok (.aload_n 0, 1) := by decide +kernel
theorem dX11_close_16 : decode cX11_close 16 = .ok (.getfield 10, 3) := by decide +kernel
theorem dX11_close_19 : decode cX11_close 19 = .ok (.invokevirtual 81, 3) := by decide +kernel
theorem dX11_close_22 : decode cX11_close 22 = .ok (.ireturn, 1) := by decide +kernel
theorem dX11_undo_0 : decode cX11_undo 0 = .ok (.aload_n 0, 1) := by decide +kernel
theorem dX11_undo_1 : decode cX11_undo 1 = .ok (.getfield 10, 3) := by decide +kernel
theorem dX11_undo_4 : decode cX11_undo 4 = .ok (.getfield 84, 3) := by decide +kernel
theorem dX11_undo_7 : decode cX11_undo 7 = .ok (.iconst 1, 1) := by decide +kernel
theorem dX11_undo_8 : decode cX11_undo 8 = .ok (.if_icmp .ne 7, 3) := by decide +kernel
theorem dX11_undo_11 : decode cX11_undo 11 = .ok (.iconst 1, 1) := by decide +kernel
theorem dX11_undo_12 : decode cX11_undo 12 = .ok (.goto 4, 3) := by decide +kernel
theorem dX11_undo_15 : decode cX11_undo 15 = .ok (.iconst 0, 1) := by decide +kernel
theorem dX11_undo_16 : decode cX11_undo 16 = .ok (.istore_n 1, 1) := by decide +kernel
theorem dX11_undo_17 : decode cX11_undo 17 = .ok (.aload_n 0, 1) := by decide +kernel
theorem dX11_undo_18 : decode cX11_undo 18 = .ok (.getfield 10, 3) := by decide +kernel
theorem dX11_undo_21 : decode cX11_undo 21 = .ok (.getfield 84, 3) := by decide +kernel
theorem dX11_undo_24 : decode cX11_undo 24 = .ok (.ifCond .eq 23, 3) := by decide +kernel
theorem dX11_undo_27 : decode cX11_undo 27 = .ok (.iload_n 1, 1) := by decide +kernel
theorem dX11_undo_28 : decode cX11_undo 28 = .ok (.ifCond .eq 22, 3) := by decide +kernel
theorem dX11_undo_31 : decode cX11_undo 31 = .ok (.aload_n 0, 1) := by decide +kernel
theorem dX11_undo_32 : decode cX11_undo 32 = .ok (.aload_n 0, 1) := by decide +kernel
theorem dX11_undo_33 : decode cX11_undo 33 = .ok (.getfield 10, 3) := by decide +kernel
theorem dX11_undo_36 : decode cX11_undo 36 = .ok (.getfield 87, 3) := by decide +kernel
theorem dX11_undo_39 : decode cX11_undo 39 = .ok (.iconst 1, 1) := by decide +kernel
theorem dX11_undo_40 : decode cX11_undo 40 = .ok (.isub, 1) := by decide +kernel
theorem dX11_undo_41 : decode cX11_undo 41 = .ok (.invokevirtual 90, 3) := by decide +kernel
theorem dX11_undo_44 : decode cX11_undo 44 = .ok (.ifCond .eq 6, 3) := by decide +kernel
theorem dX11_undo_47 : decode cX11_undo 47 = .ok (.bipush (-3), 2) := by decide +kernel
theorem dX11_undo_49 : decode cX11_undo 49 = .ok (.ireturn, 1) := by decide +kernel
theorem dX11_undo_50 : decode cX11_undo 50 = .ok (.aload_n 0, 1) := by decide +kernel
theorem dX11_undo_51 : decode cX11_undo 51 = .ok (.getfield 10, 3) := by decide +kernel
theorem dX11_undo_54 : decode cX11_undo 54 = .ok (.invokevirtual 93, 3) := by decide +kernel
theorem dX11_undo_57 : decode cX11_undo 57 = .ok (.iconst 1, 1) := by decide +kernel
theorem dX11_undo_58 : decode cX11_undo 58 = .ok (.ireturn, 1) := by decide +kernel
theorem dX11_lineTold_0 : decode cX11_lineTold 0 = .ok (.iload_n 2, 1) := by decide +kernel
theorem dX11_lineTold_1 : decode cX11_lineTold 1 = .ok (.ifCond .lt 8, 3) := by decide +kernel
theorem dX11_lineTold_4 : decode cX11_lineTold 4 = .ok (.iload_n 2, 1) := by decide +kernel
theorem dX11_lineTold_5 : decode cX11_lineTold 5 = .ok (.iconst 3, 1) := by decide +kernel
theorem dX11_lineTold_6 : decode cX11_lineTold 6 = .ok (.if_icmp .le 6, 3) := by decide +kernel
theorem dX11_lineTold_9 : decode cX11_lineTold 9 = .ok (.bipush (-2), 2) := by decide +kernel
theorem dX11_lineTold_11 : decode cX11_lineTold 11 = .ok (.ireturn, 1) := by decide +kernel
theorem dX11_lineTold_12 : decode cX11_lineTold 12 = .ok (.aload_n 0, 1) := by decide +kernel
theorem dX11_lineTold_13 : decode cX11_lineTold 13 = .ok (.getfield 10, 3) := by decide +kernel
theorem dX11_lineTold_16 : decode cX11_lineTold 16 = .ok (.iload_n 1, 1) := by decide +kernel
theorem dX11_lineTold_17 : decode cX11_lineTold 17 = .ok (.invokevirtual 70, 3) := by decide +kernel
theorem dX11_lineTold_20 : decode cX11_lineTold 20 = .ok (.ifCond .eq 15, 3) := by decide +kernel
theorem dX11_lineTold_23 : decode cX11_lineTold 23 = .ok (.aload_n 0, 1) := by decide +kernel
theorem dX11_lineTold_24 : decode cX11_lineTold 24 = .ok (.getfield 10, 3) := by decide +kernel
theorem dX11_lineTold_27 : decode cX11_lineTold 27 = .ok (.iload_n 1, 1) := by decide +kernel
theorem dX11_lineTold_28 : decode cX11_lineTold 28 = .ok (.iload_n 2, 1) := by decide +kernel
theorem dX11_lineTold_29 : decode cX11_lineTold 29 = .ok (.invokevirtual 96, 3) := by decide +kernel
theorem dX11_lineTold_32 : decode cX11_lineTold 32 = .ok (.goto 4, 3) := by decide +kernel
theorem dX11_lineTold_35 : decode cX11_lineTold 35 = .ok (.iconst (-1), 1) := by decide +kernel
theorem dX11_lineTold_36 : decode cX11_lineTold 36 = .ok (.ireturn, 1) := by decide +kernel
theorem dX11_isLineCost_0 : decode cX11_isLineCost 0 = .ok (.iload_n 0, 1) := by decide +kernel
theorem dX11_isLineCost_1 : decode cX11_isLineCost 1 = .ok (.bipush (-100), 2) := by decide +kernel
theorem dX11_isLineCost_3 : decode cX11_isLineCost 3 = .ok (.if_icmp .lt 25, 3) := by decide +kernel
theorem dX11_isLineCost_6 : decode cX11_isLineCost 6 = .ok (.iload_n 0, 1) := by decide +kernel
theorem dX11_isLineCost_7 : decode cX11_isLineCost 7 = .ok (.bipush 100, 2) := by decide +kernel
theorem dX11_isLineCost_9 : decode cX11_isLineCost 9 = .ok (.if_icmp .gt 19, 3) := by decide +kernel
theorem dX11_isLineCost_12 : decode cX11_isLineCost 12 = .ok (.iload_n 1, 1) := by decide +kernel
theorem dX11_isLineCost_13 : decode cX11_isLineCost 13 = .ok (.bipush (-20), 2) := by decide +kernel
theorem dX11_isLineCost_15 : decode cX11_isLineCost 15 = .ok (.if_icmp .lt 13, 3) := by decide +kernel
theorem dX11_isLineCost_18 : decode cX11_isLineCost 18 = .ok (.iload_n 1, 1) := by decide +kernel
theorem dX11_isLineCost_19 : decode cX11_isLineCost 19 = .ok (.bipush 20, 2) := by decide +kernel
theorem dX11_isLineCost_21 : decode cX11_isLineCost 21 = .ok (.if_icmp .gt 7, 3) := by decide +kernel
theorem dX11_isLineCost_24 : decode cX11_isLineCost 24 = .ok (.iconst 1, 1) := by decide +kernel
theorem dX11_isLineCost_25 : decode cX11_isLineCost 25 = .ok (.goto 4, 3) := by decide +kernel
theorem dX11_isLineCost_28 : decode cX11_isLineCost 28 = .ok (.iconst 0, 1) := by decide +kernel
theorem dX11_isLineCost_29 : decode cX11_isLineCost 29 = .ok (.ireturn, 1) := by decide +kernel
theorem dX11_told_0 : decode cX11_told 0 = .ok (.aload_n 0, 1) := by decide +kernel
theorem dX11_told_1 : decode cX11_told 1 = .ok (.getfield 100, 3) := by decide +kernel
theorem dX11_told_4 : decode cX11_told 4 = .ok (.bipush 10, 2) := by decide +kernel
theorem dX11_told_6 : decode cX11_told 6 = .ok (.if_icmp .lt 8, 3) := by decide +kernel
theorem dX11_told_9 : decode cX11_told 9 = .ok (.bipush (-4), 2) := by decide +kernel
theorem dX11_told_11 : decode cX11_told 11 = .ok (.goto 18, 3) := by decide +kernel
theorem dX11_told_14 : decode cX11_told 14 = .ok (.aload_n 0, 1) := by decide +kernel
theorem dX11_told_15 : decode cX11_told 15 = .ok (.new 103, 3) := by decide +kernel
theorem dX11_told_18 : decode cX11_told 18 = .ok (.dup, 1) := by decide +kernel
theorem dX11_told_19 : decode cX11_told 19 = .ok (.aload_n 0, 1) := by decide +kernel
theorem dX11_told_20 : decode cX11_told 20 = .ok (.getfield 100, 3) := by decide +kernel
theorem dX11_told_23 : decode cX11_told 23 = .ok (.invokespecial 105, 3) := by decide +kernel
theorem dX11_told_26 : decode cX11_told 26 = .ok (.invokevirtual 108, 3) := by decide +kernel
theorem dX11_told_29 : decode cX11_told 29 = .ok (.ireturn, 1) := by decide +kernel
theorem dX11_tell_0 : decode cX11_tell 0 = .ok (.iload_n 2, 1) := by decide +kernel
theorem dX11_tell_1 : decode cX11_tell 1 = .ok (.ifCond .lt 14, 3) := by decide +kernel
theorem dX11_tell_4 : decode cX11_tell 4 = .ok (.iload_n 2, 1) := by decide +kernel
theorem dX11_tell_5 : decode cX11_tell 5 = .ok (.sipush 4096, 3) := by decide +kernel
theorem dX11_tell_8 : decode cX11_tell 8 = .ok (.if_icmp .ge 7, 3) := by decide +kernel
theorem dX11_tell_11 : decode cX11_tell 11 = .ok (.iconst 1, 1) := by decide +kernel
theorem dX11_tell_12 : decode cX11_tell 12 = .ok (.goto 4, 3) := by decide +kernel
theorem dX11_tell_15 : decode cX11_tell 15 = .ok (.iconst 0, 1) := by decide +kernel
theorem dX11_tell_16 : decode cX11_tell 16 = .ok (.istore_n 3, 1) := by decide +kernel
theorem dX11_tell_17 : decode cX11_tell 17 = .ok (.iload_n 3, 1) := by decide +kernel
theorem dX11_tell_18 : decode cX11_tell 18 = .ok (.ifCond .eq 34, 3) := by decide +kernel
theorem dX11_tell_21 : decode cX11_tell 21 = .ok (.aload_n 0, 1) := by decide +kernel
theorem dX11_tell_22 : decode cX11_tell 22 = .ok (.iload_n 1, 1) := by decide +kernel
theorem dX11_tell_23 : decode cX11_tell 23 = .ok (.invokevirtual 112, 3) := by decide +kernel
theorem dX11_tell_26 : decode cX11_tell 26 = .ok (.astore 5, 2) := by decide +kernel
theorem dX11_tell_28 : decode cX11_tell 28 = .ok (.aload 5, 2) := by decide +kernel
theorem dX11_tell_30 : decode cX11_tell 30 = .ok (.instanceof 103, 3) := by decide +kernel
theorem dX11_tell_33 : decode cX11_tell 33 = .ok (.ifCond .eq 19, 3) := by decide +kernel
theorem dX11_tell_36 : decode cX11_tell 36 = .ok (.aload 5, 2) := by decide +kernel
theorem dX11_tell_38 : decode cX11_tell 38 = .ok (.checkcast 103, 3) := by decide +kernel
theorem dX11_tell_41 : decode cX11_tell 41 = .ok (.astore 4, 2) := by decide +kernel
theorem dX11_tell_43 : decode cX11_tell 43 = .ok (.aload 4, 2) := by decide +kernel
theorem dX11_tell_45 : decode cX11_tell 45 = .ok (.iload_n 2, 1) := by decide +kernel
theorem dX11_tell_46 : decode cX11_tell 46 = .ok (.invokevirtual 116, 3) := by decide +kernel
theorem dX11_tell_49 : decode cX11_tell 49 = .ok (.goto 5, 3) := by decide +kernel
theorem dX11_tell_52 : decode cX11_tell 52 = .ok (.bipush (-2), 2) := by decide +kernel
theorem dX11_tell_54 : decode cX11_tell 54 = .ok (.ireturn, 1) := by decide +kernel
theorem dX11_tree_0 : decode cX11_tree 0 = .ok (.aload_n 0, 1) := by decide +kernel
theorem dX11_tree_1 : decode cX11_tree 1 = .ok (.getfield 100, 3) := by decide +kernel
theorem dX11_tree_4 : decode cX11_tree 4 = .ok (.bipush 10, 2) := by decide +kernel
theorem dX11_tree_6 : decode cX11_tree 6 = .ok (.if_icmp .lt 8, 3) := by decide +kernel
theorem dX11_tree_9 : decode cX11_tree 9 = .ok (.bipush (-4), 2) := by decide +kernel
theorem dX11_tree_11 : decode cX11_tree 11 = .ok (.goto 18, 3) := by decide +kernel
theorem dX11_tree_14 : decode cX11_tree 14 = .ok (.aload_n 0, 1) := by decide +kernel
theorem dX11_tree_15 : decode cX11_tree 15 = .ok (.new 120, 3) := by decide +kernel
theorem dX11_tree_18 : decode cX11_tree 18 = .ok (.dup, 1) := by decide +kernel
theorem dX11_tree_19 : decode cX11_tree 19 = .ok (.aload_n 0, 1) := by decide +kernel
theorem dX11_tree_20 : decode cX11_tree 20 = .ok (.getfield 100, 3) := by decide +kernel
theorem dX11_tree_23 : decode cX11_tree 23 = .ok (.invokespecial 122, 3) := by decide +kernel
theorem dX11_tree_26 : decode cX11_tree 26 = .ok (.invokevirtual 108, 3) := by decide +kernel
theorem dX11_tree_29 : decode cX11_tree 29 = .ok (.ireturn, 1) := by decide +kernel
theorem dX11_way_0 : decode cX11_way 0 = .ok (.aload_n 0, 1) := by decide +kernel
theorem dX11_way_1 : decode cX11_way 1 = .ok (.getfield 10, 3) := by decide +kernel
theorem dX11_way_4 : decode cX11_way 4 = .ok (.iload_n 1, 1) := by decide +kernel
theorem dX11_way_5 : decode cX11_way 5 = .ok (.invokevirtual 58, 3) := by decide +kernel
theorem dX11_way_8 : decode cX11_way 8 = .ok (.ifCond .eq 19, 3) := by decide +kernel
theorem dX11_way_11 : decode cX11_way 11 = .ok (.aload_n 0, 1) := by decide +kernel
theorem dX11_way_12 : decode cX11_way 12 = .ok (.getfield 10, 3) := by decide +kernel
theorem dX11_way_15 : decode cX11_way 15 = .ok (.iload_n 2, 1) := by decide +kernel
theorem dX11_way_16 : decode cX11_way 16 = .ok (.invokevirtual 58, 3) := by decide +kernel
theorem dX11_way_19 : decode cX11_way 19 = .ok (.ifCond .eq 8, 3) := by decide +kernel
theorem dX11_way_22 : decode cX11_way 22 = .ok (.iload_n 1, 1) := by decide +kernel
theorem dX11_way_23 : decode cX11_way 23 = .ok (.iload_n 2, 1) := by decide +kernel
theorem dX11_way_24 : decode cX11_way 24 = .ok (.if_icmp .ne 6, 3) := by decide +kernel
theorem dX11_way_27 : decode cX11_way 27 = .ok (.bipush (-2), 2) := by decide +kernel
theorem dX11_way_29 : decode cX11_way 29 = .ok (.ireturn, 1) := by decide +kernel
theorem dX11_way_30 : decode cX11_way 30 = .ok (.aload_n 0, 1) := by decide +kernel
theorem dX11_way_31 : decode cX11_way 31 = .ok (.getfield 100, 3) := by decide +kernel
theorem dX11_way_34 : decode cX11_way 34 = .ok (.bipush 10, 2) := by decide +kernel
theorem dX11_way_36 : decode cX11_way 36 = .ok (.if_icmp .lt 8, 3) := by decide +kernel
theorem dX11_way_39 : decode cX11_way 39 = .ok (.bipush (-4), 2) := by decide +kernel
theorem dX11_way_41 : decode cX11_way 41 = .ok (.goto 20, 3) := by decide +kernel
theorem dX11_way_44 : decode cX11_way 44 = .ok (.aload_n 0, 1) := by decide +kernel
theorem dX11_way_45 : decode cX11_way 45 = .ok (.new 123, 3) := by decide +kernel
theorem dX11_way_48 : decode cX11_way 48 = .ok (.dup, 1) := by decide +kernel
theorem dX11_way_49 : decode cX11_way 49 = .ok (.aload_n 0, 1) := by decide +kernel
theorem dX11_way_50 : decode cX11_way 50 = .ok (.getfield 100, 3) := by decide +kernel
theorem dX11_way_53 : decode cX11_way 53 = .ok (.iload_n 1, 1) := by decide +kernel
theorem dX11_way_54 : decode cX11_way 54 = .ok (.iload_n 2, 1) := by decide +kernel
theorem dX11_way_55 : decode cX11_way 55 = .ok (.invokespecial 125, 3) := by decide +kernel
theorem dX11_way_58 : decode cX11_way 58 = .ok (.invokevirtual 108, 3) := by decide +kernel
theorem dX11_way_61 : decode cX11_way 61 = .ok (.ireturn, 1) := by decide +kernel
theorem dX11_pairing_0 : decode cX11_pairing 0 = .ok (.iload_n 1, 1) := by decide +kernel
theorem dX11_pairing_1 : decode cX11_pairing 1 = .ok (.ifCond .lt 14, 3) := by decide +kernel
theorem dX11_pairing_4 : decode cX11_pairing 4 = .ok (.iload_n 1, 1) := by decide +kernel
theorem dX11_pairing_5 : decode cX11_pairing 5 = .ok (.aload_n 0, 1) := by decide +kernel
theorem dX11_pairing_6 : decode cX11_pairing 6 = .ok (.getfield 10, 3) := by decide +kernel
theorem dX11_pairing_9 : decode cX11_pairing 9 = .ok (.invokevirtual 127, 3) := by decide +kernel
theorem dX11_pairing_12 : decode cX11_pairing 12 = .ok (.if_icmp .le 6, 3) := by decide +kernel
theorem dX11_pairing_15 : decode cX11_pairing 15 = .ok (.bipush (-2), 2) := by decide +kernel
theorem dX11_pairing_17 : decode cX11_pairing 17 = .ok (.ireturn, 1) := by decide +kernel
theorem dX11_pairing_18 : decode cX11_pairing 18 = .ok (.aload_n 0, 1) := by decide +kernel
theorem dX11_pairing_19 : decode cX11_pairing 19 = .ok (.getfield 100, 3) := by decide +kernel
theorem dX11_pairing_22 : decode cX11_pairing 22 = .ok (.bipush 10, 2) := by decide +kernel
theorem dX11_pairing_24 : decode cX11_pairing 24 = .ok (.if_icmp .lt 8, 3) := by decide +kernel
theorem dX11_pairing_27 : decode cX11_pairing 27 = .ok (.bipush (-4), 2) := by decide +kernel
theorem dX11_pairing_29 : decode cX11_pairing 29 = .ok (.goto 19, 3) := by decide +kernel
theorem dX11_pairing_32 : decode cX11_pairing 32 = .ok (.aload_n 0, 1) := by decide +kernel
theorem dX11_pairing_33 : decode cX11_pairing 33 = .ok (.new 130, 3) := by decide +kernel
theorem dX11_pairing_36 : decode cX11_pairing 36 = .ok (.dup, 1) := by decide +kernel
theorem dX11_pairing_37 : decode cX11_pairing 37 = .ok (.aload_n 0, 1) := by decide +kernel
theorem dX11_pairing_38 : decode cX11_pairing 38 = .ok (.getfield 100, 3) := by decide +kernel
theorem dX11_pairing_41 : decode cX11_pairing 41 = .ok (.iload_n 1, 1) := by decide +kernel
theorem dX11_pairing_42 : decode cX11_pairing 42 = .ok (.invokespecial 132, 3) := by decide +kernel
theorem dX11_pairing_45 : decode cX11_pairing 45 = .ok (.invokevirtual 108, 3) := by decide +kernel
theorem dX11_pairing_48 : decode cX11_pairing 48 = .ok (.ireturn, 1) := by decide +kernel
theorem dX11_offerTold_0 : decode cX11_offerTold 0 = .ok (.aload_n 0, 1) := by decide +kernel
theorem dX11_offerTold_1 : decode cX11_offerTold 1 = .ok (.iload_n 1, 1) := by decide +kernel
theorem dX11_offerTold_2 : decode cX11_offerTold 2 = .ok (.invokevirtual 112, 3) := by decide +kernel
theorem dX11_offerTold_5 : decode cX11_offerTold 5 = .ok (.astore_n 3, 1) := by decide +kernel
theorem dX11_offerTold_6 : decode cX11_offerTold 6 = .ok (.aload_n 3, 1) := by decide +kernel
theorem dX11_offerTold_7 : decode cX11_offerTold 7 = .ok (.ifnonnull 6, 3) := by decide +kernel
theorem dX11_offerTold_10 : decode cX11_offerTold 10 = .ok (.bipush (-2), 2) := by decide +kernel
theorem dX11_offerTold_12 : decode cX11_offerTold 12 = .ok (.ireturn, 1) := by decide +kernel
theorem dX11_offerTold_13 : decode cX11_offerTold 13 = .ok (.iload_n 2, 1) := by decide +kernel
theorem dX11_offerTold_14 : decode cX11_offerTold 14 = .ok (.tableswitch 80 0 4 #[34, 39, 47, 70, 75], 34) := by decide +kernel
theorem dX11_offerTold_48 : decode cX11_offerTold 48 = .ok (.aload_n 3, 1) := by decide +kernel
theorem dX11_offerTold_49 : decode cX11_offerTold 49 = .ok (.getfield 135, 3) := by decide +kernel
theorem dX11_offerTold_52 : decode cX11_offerTold 52 = .ok (.ireturn, 1) := by decide +kernel
theorem dX11_offerTold_53 : decode cX11_offerTold 53 = .ok (.aload_n 3, 1) := by decide +kernel
theorem dX11_offerTold_54 : decode cX11_offerTold 54 = .ok (.getfield 138, 3) := by decide +kernel
theorem dX11_offerTold_57 : decode cX11_offerTold 57 = .ok (.getfield 142, 3) := by decide +kernel
theorem dX11_offerTold_60 : decode cX11_offerTold 60 = .ok (.ireturn, 1) := by decide +kernel
theorem dX11_offerTold_61 : decode cX11_offerTold 61 = .ok (.aload_n 3, 1) := by decide +kernel
theorem dX11_offerTold_62 : decode cX11_offerTold 62 = .ok (.getfield 138, 3) := by decide +kernel
theorem dX11_offerTold_65 : decode cX11_offerTold 65 = .ok (.getfield 142, 3) := by decide +kernel
theorem dX11_offerTold_68 : decode cX11_offerTold 68 = .ok (.ifCond .le 7, 3) := by decide +kernel
theorem dX11_offerTold_71 : decode cX11_offerTold 71 = .ok (.iconst 0, 1) := by decide +kernel
theorem dX11_offerTold_72 : decode cX11_offerTold 72 = .ok (.goto 11, 3) := by decide +kernel
theorem dX11_offerTold_75 : decode cX11_offerTold 75 = .ok (.aload_n 3, 1) := by decide +kernel
theorem dX11_offerTold_76 : decode cX11_offerTold 76 = .ok (.aload_n 0, 1) := by decide +kernel
theorem dX11_offerTold_77 : decode cX11_offerTold 77 = .ok (.getfield 10, 3) := by decide +kernel
theorem dX11_offerTold_80 : decode cX11_offerTold 80 = .ok (.invokevirtual 147, 3) := by decide +kernel
theorem dX11_offerTold_83 : decode cX11_offerTold 83 = .ok (.ireturn, 1) := by decide +kernel
theorem dX11_offerTold_84 : decode cX11_offerTold 84 = .ok (.aload_n 3, 1) := by decide +kernel
theorem dX11_offerTold_85 : decode cX11_offerTold 85 = .ok (.invokevirtual 151, 3) := by decide +kernel
theorem dX11_offerTold_88 : decode cX11_offerTold 88 = .ok (.ireturn, 1) := by decide +kernel
theorem dX11_offerTold_89 : decode cX11_offerTold 89 = .ok (.aload_n 3, 1) := by decide +kernel
theorem dX11_offerTold_90 : decode cX11_offerTold 90 = .ok (.invokevirtual 154, 3) := by decide +kernel
theorem dX11_offerTold_93 : decode cX11_offerTold 93 = .ok (.ireturn, 1) := by decide +kernel
theorem dX11_offerTold_94 : decode cX11_offerTold 94 = .ok (.bipush (-2), 2) := by decide +kernel
theorem dX11_offerTold_96 : decode cX11_offerTold 96 = .ok (.ireturn, 1) := by decide +kernel
theorem dX11_choice_0 : decode cX11_choice 0 = .ok (.aload_n 0, 1) := by decide +kernel
theorem dX11_choice_1 : decode cX11_choice 1 = .ok (.iload_n 1, 1) := by decide +kernel
theorem dX11_choice_2 : decode cX11_choice 2 = .ok (.invokevirtual 112, 3) := by decide +kernel
theorem dX11_choice_5 : decode cX11_choice 5 = .ok (.astore_n 3, 1) := by decide +kernel
theorem dX11_choice_6 : decode cX11_choice 6 = .ok (.aload_n 3, 1) := by decide +kernel
theorem dX11_choice_7 : decode cX11_choice 7 = .ok (.ifnonnull 6, 3) := by decide +kernel
theorem dX11_choice_10 : decode cX11_choice 10 = .ok (.bipush (-2), 2) := by decide +kernel
theorem dX11_choice_12 : decode cX11_choice 12 = .ok (.ireturn, 1) := by decide +kernel
theorem dX11_choice_13 : decode cX11_choice 13 = .ok (.iload_n 2, 1) := by decide +kernel
theorem dX11_choice_14 : decode cX11_choice 14 = .ok (.ifCond .lt 26, 3) := by decide +kernel
theorem dX11_choice_17 : decode cX11_choice 17 = .ok (.iload_n 2, 1) := by decide +kernel
theorem dX11_choice_18 : decode cX11_choice 18 = .ok (.aload_n 3, 1) := by decide +kernel
theorem dX11_choice_19 : decode cX11_choice 19 = .ok (.getfield 138, 3) := by decide +kernel
theorem dX11_choice_22 : decode cX11_choice 22 = .ok (.getfield 142, 3) := by decide +kernel
theorem dX11_choice_25 : decode cX11_choice 25 = .ok (.if_icmp .ge 15, 3) := by decide +kernel
theorem dX11_choice_28 : decode cX11_choice 28 = .ok (.aload_n 3, 1) := by decide +kernel
theorem dX11_choice_29 : decode cX11_choice 29 = .ok (.getfield 138, 3) := by decide +kernel
theorem dX11_choice_32 : decode cX11_choice 32 = .ok (.getfield 157, 3) := by decide +kernel
theorem dX11_choice_35 : decode cX11_choice 35 = .ok (.iload_n 2, 1) := by decide +kernel
theorem dX11_choice_36 : decode cX11_choice 36 = .ok (.iaload, 1) := by decide +kernel
theorem dX11_choice_37 : decode cX11_choice 37 = .ok (.goto 4, 3) := by decide +kernel
theorem dX11_choice_40 : decode cX11_choice 40 = .ok (.iconst (-1), 1) := by decide +kernel
theorem dX11_choice_41 : decode cX11_choice 41 = .ok (.ireturn, 1) := by decide +kernel
theorem dX11_taken_0 : decode cX11_taken 0 = .ok (.iload_n 2, 1) := by decide +kernel
theorem dX11_taken_1 : decode cX11_taken 1 = .ok (.ifCond .lt 8, 3) := by decide +kernel
theorem dX11_taken_4 : decode cX11_taken 4 = .ok (.iload_n 2, 1) := by decide +kernel
theorem dX11_taken_5 : decode cX11_taken 5 = .ok (.iconst 3, 1) := by decide +kernel
theorem dX11_taken_6 : decode cX11_taken 6 = .ok (.if_icmp .le 6, 3) := by decide +kernel
theorem dX11_taken_9 : decode cX11_taken 9 = .ok (.bipush (-2), 2) := by decide +kernel
theorem dX11_taken_11 : decode cX11_taken 11 = .ok (.ireturn, 1) := by decide +kernel
theorem dX11_taken_12 : decode cX11_taken 12 = .ok (.aload_n 0, 1) := by decide +kernel
theorem dX11_taken_13 : decode cX11_taken 13 = .ok (.iload_n 1, 1) := by decide +kernel
theorem dX11_taken_14 : decode cX11_taken 14 = .ok (.invokevirtual 112, 3) := by decide +kernel
theorem dX11_taken_17 : decode cX11_taken 17 = .ok (.astore_n 3, 1) := by decide +kernel
theorem dX11_taken_18 : decode cX11_taken 18 = .ok (.aload_n 3, 1) := by decide +kernel
theorem dX11_taken_19 : decode cX11_taken 19 = .ok (.ifnonnull 6, 3) := by decide +kernel
theorem dX11_taken_22 : decode cX11_taken 22 = .ok (.bipush (-11), 2) := by decide +kernel
theorem dX11_taken_24 : decode cX11_taken 24 = .ok (.ireturn, 1) := by decide +kernel
theorem dX11_taken_25 : decode cX11_taken 25 = .ok (.aload_n 3, 1) := by decide +kernel
theorem dX11_taken_26 : decode cX11_taken 26 = .ok (.getfield 135, 3) := by decide +kernel
theorem dX11_taken_29 : decode cX11_taken 29 = .ok (.iload_n 2, 1) := by decide +kernel
theorem dX11_taken_30 : decode cX11_taken 30 = .ok (.invokestatic 161, 3) := by decide +kernel
theorem dX11_taken_33 : decode cX11_taken 33 = .ok (.ifCond .eq 13, 3) := by decide +kernel
theorem dX11_taken_36 : decode cX11_taken 36 = .ok (.aload_n 3, 1) := by decide +kernel
theorem dX11_taken_37 : decode cX11_taken 37 = .ok (.getfield 138, 3) := by decide +kernel
theorem dX11_taken_40 : decode cX11_taken 40 = .ok (.getfield 142, 3) := by decide +kernel
theorem dX11_taken_43 : decode cX11_taken 43 = .ok (.goto 5, 3) := by decide +kernel
theorem dX11_taken_46 : decode cX11_taken 46 = .ok (.bipush (-13), 2) := by decide +kernel
theorem dX11_taken_48 : decode cX11_taken 48 = .ok (.ireturn, 1) := by decide +kernel
theorem dX11_addOffer_0 : decode cX11_addOffer 0 = .ok (.aload_n 0, 1) := by decide +kernel
theorem dX11_addOffer_1 : decode cX11_addOffer 1 = .ok (.getfield 100, 3) := by decide +kernel
theorem dX11_addOffer_4 : decode cX11_addOffer 4 = .ok (.aload_n 0, 1) := by decide +kernel
theorem dX11_addOffer_5 : decode cX11_addOffer 5 = .ok (.getfield 18, 3) := by decide +kernel
theorem dX11_addOffer_8 : decode cX11_addOffer 8 = .ok (.arraylength, 1) := by decide +kernel
theorem dX11_addOffer_9 : decode cX11_addOffer 9 = .ok (.if_icmp .lt 6, 3) := by decide +kernel
theorem dX11_addOffer_12 : decode cX11_addOffer 12 = .ok (.bipush (-4), 2) := by decide +kernel
theorem dX11_addOffer_14 : decode cX11_addOffer 14 = .ok (.ireturn, 1) := by decide +kernel
theorem dX11_addOffer_15 : decode cX11_addOffer 15 = .ok (.aload_n 0, 1) := by decide +kernel
theorem dX11_addOffer_16 : decode cX11_addOffer 16 = .ok (.getfield 18, 3) := by decide +kernel
theorem dX11_addOffer_19 : decode cX11_addOffer 19 = .ok (.aload_n 0, 1) := by decide +kernel
theorem dX11_addOffer_20 : decode cX11_addOffer 20 = .ok (.getfield 100, 3) := by decide +kernel
theorem dX11_addOffer_23 : decode cX11_addOffer 23 = .ok (.aload_n 1, 1) := by decide +kernel
theorem dX11_addOffer_24 : decode cX11_addOffer 24 = .ok (.aastore, 1) := by decide +kernel
theorem dX11_addOffer_25 : decode cX11_addOffer 25 = .ok (.aload_n 0, 1) := by decide +kernel
theorem dX11_addOffer_26 : decode cX11_addOffer 26 = .ok (.dup, 1) := by decide +kernel
theorem dX11_addOffer_27 : decode cX11_addOffer 27 = .ok (.getfield 100, 3) := by decide +kernel
theorem dX11_addOffer_30 : decode cX11_addOffer 30 = .ok (.dup_x1, 1) := by decide +kernel
theorem dX11_addOffer_31 : decode cX11_addOffer 31 = .ok (.iconst 1, 1) := by decide +kernel
theorem dX11_addOffer_32 : decode cX11_addOffer 32 = .ok (.iadd, 1) := by decide +kernel
theorem dX11_addOffer_33 : decode cX11_addOffer 33 = .ok (.putfield 100, 3) := by decide +kernel
theorem dX11_addOffer_36 : decode cX11_addOffer 36 = .ok (.ireturn, 1) := by decide +kernel
theorem dX11_offerAt_0 : decode cX11_offerAt 0 = .ok (.iload_n 1, 1) := by decide +kernel
theorem dX11_offerAt_1 : decode cX11_offerAt 1 = .ok (.ifCond .lt 11, 3) := by decide +kernel
theorem dX11_offerAt_4 : decode cX11_offerAt 4 = .ok (.iload_n 1, 1) := by decide +kernel
theorem dX11_offerAt_5 : decode cX11_offerAt 5 = .ok (.aload_n 0, 1) := by decide +kernel
theorem dX11_offerAt_6 : decode cX11_offerAt 6 = .ok (.getfield 100, 3) := by decide +kernel
theorem dX11_offerAt_9 : decode cX11_offerAt 9 = .ok (.if_icmp .lt 5, 3) := by decide +kernel
theorem dX11_offerAt_12 : decode cX11_offerAt 12 = .ok (.aconst_null, 1) := by decide +kernel
theorem dX11_offerAt_13 : decode cX11_offerAt 13 = .ok (.areturn, 1) := by decide +kernel
theorem dX11_offerAt_14 : decode cX11_offerAt 14 = .ok (.aload_n 0, 1) := by decide +kernel
theorem dX11_offerAt_15 : decode cX11_offerAt 15 = .ok (.getfield 18, 3) := by decide +kernel
theorem dX11_offerAt_18 : decode cX11_offerAt 18 = .ok (.iload_n 1, 1) := by decide +kernel
theorem dX11_offerAt_19 : decode cX11_offerAt 19 = .ok (.aaload, 1) := by decide +kernel
theorem dX11_offerAt_20 : decode cX11_offerAt 20 = .ok (.astore_n 2, 1) := by decide +kernel
theorem dX11_offerAt_21 : decode cX11_offerAt 21 = .ok (.aload_n 2, 1) := by decide +kernel
theorem dX11_offerAt_22 : decode cX11_offerAt 22 = .ok (.ifnull 11, 3) := by decide +kernel
theorem dX11_offerAt_25 : decode cX11_offerAt 25 = .ok (.aload_n 2, 1) := by decide +kernel
theorem dX11_offerAt_26 : decode cX11_offerAt 26 = .ok (.aload_n 0, 1) := by decide +kernel
theorem dX11_offerAt_27 : decode cX11_offerAt 27 = .ok (.getfield 10, 3) := by decide +kernel
theorem dX11_offerAt_30 : decode cX11_offerAt 30 = .ok (.invokevirtual 164, 3) := by decide +kernel
theorem dX11_offerAt_33 : decode cX11_offerAt 33 = .ok (.aload_n 2, 1) := by decide +kernel
theorem dX11_offerAt_34 : decode cX11_offerAt 34 = .ok (.areturn, 1) := by decide +kernel
theorem dX11_offerWithChoices_0 : decode cX11_offerWithChoices 0 = .ok (.aload_n 0, 1) := by decide +kernel
theorem dX11_offerWithChoices_1 : decode cX11_offerWithChoices 1 = .ok (.iload_n 1, 1) := by decide +kernel
theorem dX11_offerWithChoices_2 : decode cX11_offerWithChoices 2 = .ok (.invokevirtual 112, 3) := by decide +kernel
theorem dX11_offerWithChoices_5 : decode cX11_offerWithChoices 5 = .ok (.astore_n 2, 1) := by decide +kernel
theorem dX11_offerWithChoices_6 : decode cX11_offerWithChoices 6 = .ok (.aload_n 2, 1) := by decide +kernel
theorem dX11_offerWithChoices_7 : decode cX11_offerWithChoices 7 = .ok (.ifnull 17, 3) := by decide +kernel
theorem dX11_offerWithChoices_10 : decode cX11_offerWithChoices 10 = .ok (.aload_n 2, 1) := by decide +kernel
theorem dX11_offerWithChoices_11 : decode cX11_offerWithChoices 11 = .ok (.getfield 138, 3) := by decide +kernel
theorem dX11_offerWithChoices_14 : decode cX11_offerWithChoices 14 = .ok (.getfield 142, 3) := by decide +kernel
theorem dX11_offerWithChoices_17 : decode cX11_offerWithChoices 17 = .ok (.ifCond .le 7, 3) := by decide +kernel
theorem dX11_offerWithChoices_20 : decode cX11_offerWithChoices 20 = .ok (.aload_n 2, 1) := by decide +kernel
theorem dX11_offerWithChoices_21 : decode cX11_offerWithChoices 21 = .ok (.goto 4, 3) := by decide +kernel
theorem dX11_offerWithChoices_24 : decode cX11_offerWithChoices 24 = .ok (.aconst_null, 1) := by decide +kernel
theorem dX11_offerWithChoices_25 : decode cX11_offerWithChoices 25 = .ok (.areturn, 1) := by decide +kernel
theorem dX11_placeIn_0 : decode cX11_placeIn 0 = .ok (.aload_n 0, 1) := by decide +kernel
theorem dX11_placeIn_1 : decode cX11_placeIn 1 = .ok (.ifnonnull 7, 3) := by decide +kernel
theorem dX11_placeIn_4 : decode cX11_placeIn 4 = .ok (.iconst (-1), 1) := by decide +kernel
theorem dX11_placeIn_5 : decode cX11_placeIn 5 = .ok (.goto 11, 3) := by decide +kernel
theorem dX11_placeIn_8 : decode cX11_placeIn 8 = .ok (.aload_n 0, 1) := by decide +kernel
theorem dX11_placeIn_9 : decode cX11_placeIn 9 = .ok (.getfield 138, 3) := by decide +kernel
theorem dX11_placeIn_12 : decode cX11_placeIn 12 = .ok (.iload_n 1, 1) := by decide +kernel
theorem dX11_placeIn_13 : decode cX11_placeIn 13 = .ok (.invokevirtual 168, 3) := by decide +kernel
theorem dX11_placeIn_16 : decode cX11_placeIn 16 = .ok (.ireturn, 1) := by decide +kernel
theorem dX11_someOfferNeeds_0 : decode cX11_someOfferNeeds 0 = .ok (.iconst 0, 1) := by decide +kernel
theorem dX11_someOfferNeeds_1 : decode cX11_someOfferNeeds 1 = .ok (.istore_n 2, 1) := by decide +kernel
theorem dX11_someOfferNeeds_2 : decode cX11_someOfferNeeds 2 = .ok (.iload_n 2, 1) := by decide +kernel
theorem dX11_someOfferNeeds_3 : decode cX11_someOfferNeeds 3 = .ok (.aload_n 0, 1) := by decide +kernel
theorem dX11_someOfferNeeds_4 : decode cX11_someOfferNeeds 4 = .ok (.getfield 100, 3) := by decide +kernel
theorem dX11_someOfferNeeds_7 : decode cX11_someOfferNeeds 7 = .ok (.if_icmp .ge 33, 3) := by decide +kernel
theorem dX11_someOfferNeeds_10 : decode cX11_someOfferNeeds 10 = .ok (.aload_n 0, 1) := by decide +kernel
theorem dX11_someOfferNeeds_11 : decode cX11_someOfferNeeds 11 = .ok (.getfield 18, 3) := by decide +kernel
theorem dX11_someOfferNeeds_14 : decode cX11_someOfferNeeds 14 = .ok (.iload_n 2, 1) := by decide +kernel
theorem dX11_someOfferNeeds_15 : decode cX11_someOfferNeeds 15 = .ok (.aaload, 1) := by decide +kernel
theorem dX11_someOfferNeeds_16 : decode cX11_someOfferNeeds 16 = .ok (.ifnull 18, 3) := by decide +kernel
theorem dX11_someOfferNeeds_19 : decode cX11_someOfferNeeds 19 = .ok (.aload_n 0, 1) := by decide +kernel
theorem dX11_someOfferNeeds_20 : decode cX11_someOfferNeeds 20 = .ok (.getfield 18, 3) := by decide +kernel
theorem dX11_someOfferNeeds_23 : decode cX11_someOfferNeeds 23 = .ok (.iload_n 2, 1) := by decide +kernel
theorem dX11_someOfferNeeds_24 : decode cX11_someOfferNeeds 24 = .ok (.aaload, 1) := by decide +kernel
theorem dX11_someOfferNeeds_25 : decode cX11_someOfferNeeds 25 = .ok (.iload_n 1, 1) := by decide +kernel
theorem dX11_someOfferNeeds_26 : decode cX11_someOfferNeeds 26 = .ok (.invokevirtual 171, 3) := by decide +kernel
theorem dX11_someOfferNeeds_29 : decode cX11_someOfferNeeds 29 = .ok (.ifCond .eq 5, 3) := by decide +kernel
theorem dX11_someOfferNeeds_32 : decode cX11_someOfferNeeds 32 = .ok (.iconst 1, 1) := by decide +kernel
theorem dX11_someOfferNeeds_33 : decode cX11_someOfferNeeds 33 = .ok (.ireturn, 1) := by decide +kernel
theorem dX11_someOfferNeeds_34 : decode cX11_someOfferNeeds 34 = .ok (.iinc 2 1, 3) := by decide +kernel
theorem dX11_someOfferNeeds_37 : decode cX11_someOfferNeeds 37 = .ok (.goto (-35), 3) := by decide +kernel
theorem dX11_someOfferNeeds_40 : decode cX11_someOfferNeeds 40 = .ok (.iconst 0, 1) := by decide +kernel
theorem dX11_someOfferNeeds_41 : decode cX11_someOfferNeeds 41 = .ok (.ireturn, 1) := by decide +kernel
theorem dX11_cost_0 : decode cX11_cost 0 = .ok (.iload_n 1, 1) := by decide +kernel
theorem dX11_cost_1 : decode cX11_cost 1 = .ok (.ifCond .lt 35, 3) := by decide +kernel
theorem dX11_cost_4 : decode cX11_cost 4 = .ok (.iload_n 1, 1) := by decide +kernel
theorem dX11_cost_5 : decode cX11_cost 5 = .ok (.iconst 1, 1) := by decide +kernel
theorem dX11_cost_6 : decode cX11_cost 6 = .ok (.aload_n 0, 1) := by decide +kernel
theorem dX11_cost_7 : decode cX11_cost 7 = .ok (.getfield 10, 3) := by decide +kernel
theorem dX11_cost_10 : decode cX11_cost 10 = .ok (.getfield 77, 3) := by decide +kernel
theorem dX11_cost_13 : decode cX11_cost 13 = .ok (.ishl, 1) := by decide +kernel
theorem dX11_cost_14 : decode cX11_cost 14 = .ok (.if_icmp .ge 22, 3) := by decide +kernel
theorem dX11_cost_17 : decode cX11_cost 17 = .ok (.iload_n 2, 1) := by decide +kernel
theorem dX11_cost_18 : decode cX11_cost 18 = .ok (.iload_n 3, 1) := by decide +kernel
theorem dX11_cost_19 : decode cX11_cost 19 = .ok (.invokestatic 174, 3) := by decide +kernel
theorem dX11_cost_22 : decode cX11_cost 22 = .ok (.ifCond .eq 14, 3) := by decide +kernel
theorem dX11_cost_25 : decode cX11_cost 25 = .ok (.iload 4, 2) := by decide +kernel
theorem dX11_cost_27 : decode cX11_cost 27 = .ok (.ifCond .lt 9, 3) := by decide +kernel
theorem dX11_cost_30 : decode cX11_cost 30 = .ok (.iload 4, 2) := by decide +kernel
theorem dX11_cost_32 : decode cX11_cost 32 = .ok (.iconst 1, 1) := by decide +kernel
theorem dX11_cost_33 : decode cX11_cost 33 = .ok (.if_icmp .le 7, 3) := by decide +kernel
theorem dX11_cost_36 : decode cX11_cost 36 = .ok (.ldc2_w 177, 3) := by decide +kernel
theorem dX11_cost_39 : decode cX11_cost 39 = .ok (.lreturn, 1) := by decide +kernel
theorem dX11_cost_40 : decode cX11_cost 40 = .ok (.aload_n 0, 1) := by decide +kernel
theorem dX11_cost_41 : decode cX11_cost 41 = .ok (.getfield 10, 3) := by decide +kernel
theorem dX11_cost_44 : decode cX11_cost 44 = .ok (.aload_n 0, 1) := by decide +kernel
theorem dX11_cost_45 : decode cX11_cost 45 = .ok (.getfield 10, 3) := by decide +kernel
theorem dX11_cost_48 : decode cX11_cost 48 = .ok (.getfield 179, 3) := by decide +kernel
theorem dX11_cost_51 : decode cX11_cost 51 = .ok (.iload_n 1, 1) := by decide +kernel
theorem dX11_cost_52 : decode cX11_cost 52 = .ok (.invokevirtual 182, 3) := by decide +kernel
theorem dX11_cost_55 : decode cX11_cost 55 = .ok (.i2l, 1) := by decide +kernel
theorem dX11_cost_56 : decode cX11_cost 56 = .ok (.iload_n 3, 1) := by decide +kernel
theorem dX11_cost_57 : decode cX11_cost 57 = .ok (.i2l, 1) := by decide +kernel
theorem dX11_cost_58 : decode cX11_cost 58 = .ok (.lmul, 1) := by decide +kernel
theorem dX11_cost_59 : decode cX11_cost 59 = .ok (.aload_n 0, 1) := by decide +kernel
theorem dX11_cost_60 : decode cX11_cost 60 = .ok (.getfield 10, 3) := by decide +kernel
theorem dX11_cost_63 : decode cX11_cost 63 = .ok (.aload_n 0, 1) := by decide +kernel
theorem dX11_cost_64 : decode cX11_cost 64 = .ok (.getfield 10, 3) := by decide +kernel
theorem dX11_cost_67 : decode cX11_cost 67 = .ok (.getfield 186, 3) := by decide +kernel
theorem dX11_cost_70 : decode cX11_cost 70 = .ok (.iload_n 1, 1) := by decide +kernel
theorem dX11_cost_71 : decode cX11_cost 71 = .ok (.invokevirtual 182, 3) := by decide +kernel
theorem dX11_cost_74 : decode cX11_cost 74 = .ok (.i2l, 1) := by decide +kernel
theorem dX11_cost_75 : decode cX11_cost 75 = .ok (.iload_n 2, 1) := by decide +kernel
theorem dX11_cost_76 : decode cX11_cost 76 = .ok (.i2l, 1) := by decide +kernel
theorem dX11_cost_77 : decode cX11_cost 77 = .ok (.lmul, 1) := by decide +kernel
theorem dX11_cost_78 : decode cX11_cost 78 = .ok (.ladd, 1) := by decide +kernel
theorem dX11_cost_79 : decode cX11_cost 79 = .ok (.lstore 5, 2) := by decide +kernel
theorem dX11_cost_81 : decode cX11_cost 81 = .ok (.lload 5, 2) := by decide +kernel
theorem dX11_cost_83 : decode cX11_cost 83 = .ok (.iload_n 3, 1) := by decide +kernel
theorem dX11_cost_84 : decode cX11_cost 84 = .ok (.i2l, 1) := by decide +kernel
theorem dX11_cost_85 : decode cX11_cost 85 = .ok (.iload 4, 2) := by decide +kernel
theorem dX11_cost_87 : decode cX11_cost 87 = .ok (.invokestatic 189, 3) := by decide +kernel
theorem dX11_cost_90 : decode cX11_cost 90 = .ok (.lreturn, 1) := by decide +kernel
theorem dX11_best_0 : decode cX11_best 0 = .ok (.aload_n 0, 1) := by decide +kernel
theorem dX11_best_1 : decode cX11_best 1 = .ok (.iload_n 1, 1) := by decide +kernel
theorem dX11_best_2 : decode cX11_best 2 = .ok (.invokevirtual 112, 3) := by decide +kernel
theorem dX11_best_5 : decode cX11_best 5 = .ok (.astore 5, 2) := by decide +kernel
theorem dX11_best_7 : decode cX11_best 7 = .ok (.aload 5, 2) := by decide +kernel
theorem dX11_best_9 : decode cX11_best 9 = .ok (.ifnull 22, 3) := by decide +kernel
theorem dX11_best_12 : decode cX11_best 12 = .ok (.iload_n 2, 1) := by decide +kernel
theorem dX11_best_13 : decode cX11_best 13 = .ok (.iload_n 3, 1) := by decide +kernel
theorem dX11_best_14 : decode cX11_best 14 = .ok (.invokestatic 174, 3) := by decide +kernel
theorem dX11_best_17 : decode cX11_best 17 = .ok (.ifCond .eq 14, 3) := by decide +kernel
theorem dX11_best_20 : decode cX11_best 20 = .ok (.iload 4, 2) := by decide +kernel
theorem dX11_best_22 : decode cX11_best 22 = .ok (.ifCond .lt 9, 3) := by decide +kernel
theorem dX11_best_25 : decode cX11_best 25 = .ok (.iload 4, 2) := by decide +kernel
theorem dX11_best_27 : decode cX11_best 27 = .ok (.iconst 2, 1) := by decide +kernel
theorem dX11_best_28 : decode cX11_best 28 = .ok (.if_icmp .le 6, 3) := by decide +kernel
theorem dX11_best_31 : decode cX11_best 31 = .ok (.bipush (-2), 2) := by decide +kernel
theorem dX11_best_33 : decode cX11_best 33 = .ok (.ireturn, 1) := by decide +kernel
theorem dX11_best_34 : decode cX11_best 34 = .ok (.aload 5, 2) := by decide +kernel
theorem dX11_best_36 : decode cX11_best 36 = .ok (.getfield 138, 3) := by decide +kernel
theorem dX11_best_39 : decode cX11_best 39 = .ok (.iload_n 2, 1) := by decide +kernel
theorem dX11_best_40 : decode cX11_best 40 = .ok (.iload_n 3, 1) := by decide +kernel
theorem dX11_best_41 : decode cX11_best 41 = .ok (.iload 4, 2) := by decide +kernel
theorem dX11_best_43 : decode cX11_best 43 = .ok (.invokevirtual 193, 3) := by decide +kernel
theorem dX11_best_46 : decode cX11_best 46 = .ok (.istore 6, 2) := by decide +kernel
theorem dX11_best_48 : decode cX11_best 48 = .ok (.iload 6, 2) := by decide +kernel
theorem dX11_best_50 : decode cX11_best 50 = .ok (.ifCond .ge 7, 3) := by decide +kernel
theorem dX11_best_53 : decode cX11_best 53 = .ok (.iconst (-1), 1) := by decide +kernel
theorem dX11_best_54 : decode cX11_best 54 = .ok (.goto 14, 3) := by decide +kernel
theorem dX11_best_57 : decode cX11_best 57 = .ok (.aload 5, 2) := by decide +kernel
theorem dX11_best_59 : decode cX11_best 59 = .ok (.getfield 138, 3) := by decide +kernel
theorem dX11_best_62 : decode cX11_best 62 = .ok (.getfield 157, 3) := by decide +kernel
theorem dX11_best_65 : decode cX11_best 65 = .ok (.iload 6, 2) := by decide +kernel
theorem dX11_best_67 : decode cX11_best 67 = .ok (.iaload, 1) := by decide +kernel
theorem dX11_best_68 : decode cX11_best 68 = .ok (.ireturn, 1) := by decide +kernel
theorem dX11_least_0 : decode cX11_least 0 = .ok (.aload_n 0, 1) := by decide +kernel
theorem dX11_least_1 : decode cX11_least 1 = .ok (.iload_n 1, 1) := by decide +kernel
theorem dX11_least_2 : decode cX11_least 2 = .ok (.invokevirtual 197, 3) := by decide +kernel
theorem dX11_least_5 : decode cX11_least 5 = .ok (.astore 5, 2) := by decide +kernel
theorem dX11_least_7 : decode cX11_least 7 = .ok (.aload 5, 2) := by decide +kernel
theorem dX11_least_9 : decode cX11_least 9 = .ok (.ifnull 22, 3) := by decide +kernel
theorem dX11_least_12 : decode cX11_least 12 = .ok (.iload_n 2, 1) := by decide +kernel
theorem dX11_least_13 : decode cX11_least 13 = .ok (.iload_n 3, 1) := by decide +kernel
theorem dX11_least_14 : decode cX11_least 14 = .ok (.invokestatic 174, 3) := by decide +kernel
theorem dX11_least_17 : decode cX11_least 17 = .ok (.ifCond .eq 14, 3) := by decide +kernel
theorem dX11_least_20 : decode cX11_least 20 = .ok (.iload 4, 2) := by decide +kernel
theorem dX11_least_22 : decode cX11_least 22 = .ok (.ifCond .lt 9, 3) := by decide +kernel
theorem dX11_least_25 : decode cX11_least 25 = .ok (.iload 4, 2) := by decide +kernel
theorem dX11_least_27 : decode cX11_least 27 = .ok (.iconst 1, 1) := by decide +kernel
theorem dX11_least_28 : decode cX11_least 28 = .ok (.if_icmp .le 7, 3) := by decide +kernel
theorem dX11_least_31 : decode cX11_least 31 = .ok (.ldc2_w 177, 3) := by decide +kernel
theorem dX11_least_34 : decode cX11_least 34 = .ok (.lreturn, 1) := by decide +kernel
theorem dX11_least_35 : decode cX11_least 35 = .ok (.aload 5, 2) := by decide +kernel
theorem dX11_least_37 : decode cX11_least 37 = .ok (.getfield 138, 3) := by decide +kernel
theorem dX11_least_40 : decode cX11_least 40 = .ok (.iload_n 2, 1) := by decide +kernel
theorem dX11_least_41 : decode cX11_least 41 = .ok (.iload_n 3, 1) := by decide +kernel
theorem dX11_least_42 : decode cX11_least 42 = .ok (.invokevirtual 200, 3) := by decide +kernel
theorem dX11_least_45 : decode cX11_least 45 = .ok (.iload_n 3, 1) := by decide +kernel
theorem dX11_least_46 : decode cX11_least 46 = .ok (.i2l, 1) := by decide +kernel
theorem dX11_least_47 : decode cX11_least 47 = .ok (.iload 4, 2) := by decide +kernel
theorem dX11_least_49 : decode cX11_least 49 = .ok (.invokestatic 189, 3) := by decide +kernel
theorem dX11_least_52 : decode cX11_least 52 = .ok (.lreturn, 1) := by decide +kernel
theorem dX11_window_0 : decode cX11_window 0 = .ok (.iload_n 1, 1) := by decide +kernel
theorem dX11_window_1 : decode cX11_window 1 = .ok (.iload_n 2, 1) := by decide +kernel
theorem dX11_window_2 : decode cX11_window 2 = .ok (.invokestatic 174, 3) := by decide +kernel
theorem dX11_window_5 : decode cX11_window 5 = .ok (.ifCond .eq 27, 3) := by decide +kernel
theorem dX11_window_8 : decode cX11_window 8 = .ok (.iload_n 3, 1) := by decide +kernel
theorem dX11_window_9 : decode cX11_window 9 = .ok (.iload 4, 2) := by decide +kernel
theorem dX11_window_11 : decode cX11_window 11 = .ok (.invokestatic 174, 3) := by decide +kernel
theorem dX11_window_14 : decode cX11_window 14 = .ok (.ifCond .eq 18, 3) := by decide +kernel
theorem dX11_window_17 : decode cX11_window 17 = .ok (.iload_n 3, 1) := by decide +kernel
theorem dX11_window_18 : decode cX11_window 18 = .ok (.i2l, 1) := by decide +kernel
theorem dX11_window_19 : decode cX11_window 19 = .ok (.iload 4, 2) := by decide +kernel
theorem dX11_window_21 : decode cX11_window 21 = .ok (.i2l, 1) := by decide +kernel
theorem dX11_window_22 : decode cX11_window 22 = .ok (.iload_n 1, 1) := by decide +kernel
theorem dX11_window_23 : decode cX11_window 23 = .ok (.i2l, 1) := by decide +kernel
theorem dX11_window_24 : decode cX11_window 24 = .ok (.iload_n 2, 1) := by decide +kernel
theorem dX11_window_25 : decode cX11_window 25 = .ok (.i2l, 1) := by decide +kernel
theorem dX11_window_26 : decode cX11_window 26 = .ok (.invokestatic 204, 3) := by decide +kernel
theorem dX11_window_29 : decode cX11_window 29 = .ok (.ifCond .eq 6, 3) := by decide +kernel
theorem dX11_window_32 : decode cX11_window 32 = .ok (.bipush (-2), 2) := by decide +kernel
theorem dX11_window_34 : decode cX11_window 34 = .ok (.ireturn, 1) := by decide +kernel
theorem dX11_window_35 : decode cX11_window 35 = .ok (.aload_n 0, 1) := by decide +kernel
theorem dX11_window_36 : decode cX11_window 36 = .ok (.getfield 25, 3) := by decide +kernel
theorem dX11_window_39 : decode cX11_window 39 = .ok (.iload_n 1, 1) := by decide +kernel
theorem dX11_window_40 : decode cX11_window 40 = .ok (.iload_n 2, 1) := by decide +kernel
theorem dX11_window_41 : decode cX11_window 41 = .ok (.iload_n 3, 1) := by decide +kernel
theorem dX11_window_42 : decode cX11_window 42 = .ok (.iload 4, 2) := by decide +kernel
theorem dX11_window_44 : decode cX11_window 44 = .ok (.invokevirtual 208, 3) := by decide +kernel
theorem dX11_window_47 : decode cX11_window 47 = .ok (.iconst 1, 1) := by decide +kernel
theorem dX11_window_48 : decode cX11_window 48 = .ok (.ireturn, 1) := by decide +kernel
theorem dX11_span_0 : decode cX11_span 0 = .ok (.aload_n 0, 1) := by decide +kernel
theorem dX11_span_1 : decode cX11_span 1 = .ok (.iload_n 1, 1) := by decide +kernel
theorem dX11_span_2 : decode cX11_span 2 = .ok (.invokevirtual 112, 3) := by decide +kernel
theorem dX11_span_5 : decode cX11_span 5 = .ok (.astore 4, 2) := by decide +kernel
theorem dX11_span_7 : decode cX11_span 7 = .ok (.aload 4, 2) := by decide +kernel
theorem dX11_span_9 : decode cX11_span 9 = .ok (.iload_n 2, 1) := by decide +kernel
theorem dX11_span_10 : decode cX11_span 10 = .ok (.invokestatic 212, 3) := by decide +kernel
theorem dX11_span_13 : decode cX11_span 13 = .ok (.istore 5, 2) := by decide +kernel
theorem dX11_span_15 : decode cX11_span 15 = .ok (.aload 4, 2) := by decide +kernel
theorem dX11_span_17 : decode cX11_span 17 = .ok (.ifnull 17, 3) := by decide +kernel
theorem dX11_span_20 : decode cX11_span 20 = .ok (.iload 5, 2) := by decide +kernel
theorem dX11_span_22 : decode cX11_span 22 = .ok (.ifCond .lt 12, 3) := by decide +kernel
theorem dX11_span_25 : decode cX11_span 25 = .ok (.iload_n 3, 1) := by decide +kernel
theorem dX11_span_26 : decode cX11_span 26 = .ok (.ifCond .lt 8, 3) := by decide +kernel
theorem dX11_span_29 : decode cX11_span 29 = .ok (.iload_n 3, 1) := by decide +kernel
theorem dX11_span_30 : decode cX11_span 30 = .ok (.iconst 4, 1) := by decide +kernel
theorem dX11_span_31 : decode cX11_span 31 = .ok (.if_icmp .le 7, 3) := by decide +kernel
theorem dX11_span_34 : decode cX11_span 34 = .ok (.ldc2_w 177, 3) := by decide +kernel
theorem dX11_span_37 : decode cX11_span 37 = .ok (.lreturn, 1) := by decide +kernel
theorem dX11_span_38 : decode cX11_span 38 = .ok (.aload 4, 2) := by decide +kernel
theorem dX11_span_40 : decode cX11_span 40 = .ok (.getfield 138, 3) := by decide +kernel
theorem dX11_span_43 : decode cX11_span 43 = .ok (.iload 5, 2) := by decide +kernel
theorem dX11_span_45 : decode cX11_span 45 = .ok (.aload_n 0, 1) := by decide +kernel
theorem dX11_span_46 : decode cX11_span 46 = .ok (.getfield 49, 3) := by decide +kernel
theorem dX11_span_49 : decode cX11_span 49 = .ok (.invokevirtual 216, 3) := by decide +kernel
theorem dX11_span_52 : decode cX11_span 52 = .ok (.istore 6, 2) := by decide +kernel
theorem dX11_span_54 : decode cX11_span 54 = .ok (.iload_n 3, 1) := by decide +kernel
theorem dX11_span_55 : decode cX11_span 55 = .ok (.ifCond .ne 14, 3) := by decide +kernel
theorem dX11_span_58 : decode cX11_span 58 = .ok (.iload 6, 2) := by decide +kernel
theorem dX11_span_60 : decode cX11_span 60 = .ok (.ifCond .eq 7, 3) := by decide +kernel
theorem dX11_span_63 : decode cX11_span 63 = .ok (.lconst 1, 1) := by decide +kernel
theorem dX11_span_64 : decode cX11_span 64 = .ok (.goto 4, 3) := by decide +kernel
theorem dX11_span_67 : decode cX11_span 67 = .ok (.lconst 0, 1) := by decide +kernel
theorem dX11_span_68 : decode cX11_span 68 = .ok (.lreturn, 1) := by decide +kernel
theorem dX11_span_69 : decode cX11_span 69 = .ok (.iload 6, 2) := by decide +kernel
theorem dX11_span_71 : decode cX11_span 71 = .ok (.ifCond .eq 12, 3) := by decide +kernel
theorem dX11_span_74 : decode cX11_span 74 = .ok (.aload_n 0, 1) := by decide +kernel
theorem dX11_span_75 : decode cX11_span 75 = .ok (.getfield 49, 3) := by decide +kernel
theorem dX11_span_78 : decode cX11_span 78 = .ok (.iload_n 3, 1) := by decide +kernel
theorem dX11_span_79 : decode cX11_span 79 = .ok (.laload, 1) := by decide +kernel
theorem dX11_span_80 : decode cX11_span 80 = .ok (.goto 6, 3) := by decide +kernel
theorem dX11_span_83 : decode cX11_span 83 = .ok (.ldc2_w 177, 3) := by decide +kernel
theorem dX11_span_86 : decode cX11_span 86 = .ok (.lreturn, 1) := by decide +kernel
theorem dX11_top_0 : decode cX11_top 0 = .ok (.aload_n 0, 1) := by decide +kernel
theorem dX11_top_1 : decode cX11_top 1 = .ok (.iload_n 1, 1) := by decide +kernel
theorem dX11_top_2 : decode cX11_top 2 = .ok (.invokevirtual 197, 3) := by decide +kernel
theorem dX11_top_5 : decode cX11_top 5 = .ok (.astore_n 3, 1) := by decide +kernel
theorem dX11_top_6 : decode cX11_top 6 = .ok (.aload_n 3, 1) := by decide +kernel
theorem dX11_top_7 : decode cX11_top 7 = .ok (.ifnull 12, 3) := by decide +kernel
theorem dX11_top_10 : decode cX11_top 10 = .ok (.iload_n 2, 1) := by decide +kernel
theorem dX11_top_11 : decode cX11_top 11 = .ok (.ifCond .lt 8, 3) := by decide +kernel
theorem dX11_top_14 : decode cX11_top 14 = .ok (.iload_n 2, 1) := by decide +kernel
theorem dX11_top_15 : decode cX11_top 15 = .ok (.iconst 3, 1) := by decide +kernel
theorem dX11_top_16 : decode cX11_top 16 = .ok (.if_icmp .le 7, 3) := by decide +kernel
theorem dX11_top_19 : decode cX11_top 19 = .ok (.ldc2_w 177, 3) := by decide +kernel
theorem dX11_top_22 : decode cX11_top 22 = .ok (.lreturn, 1) := by decide +kernel
theorem dX11_top_23 : decode cX11_top 23 = .ok (.aload_n 0, 1) := by decide +kernel
theorem dX11_top_24 : decode cX11_top 24 = .ok (.aload_n 3, 1) := by decide +kernel
theorem dX11_top_25 : decode cX11_top 25 = .ok (.invokevirtual 220, 3) := by decide +kernel
theorem dX11_top_28 : decode cX11_top 28 = .ok (.aload_n 0, 1) := by decide +kernel
theorem dX11_top_29 : decode cX11_top 29 = .ok (.getfield 49, 3) := by decide +kernel
theorem dX11_top_32 : decode cX11_top 32 = .ok (.iload_n 2, 1) := by decide +kernel
theorem dX11_top_33 : decode cX11_top 33 = .ok (.laload, 1) := by decide +kernel
theorem dX11_top_34 : decode cX11_top 34 = .ok (.lreturn, 1) := by decide +kernel
theorem dX11_ratio_0 : decode cX11_ratio 0 = .ok (.aload_n 0, 1) := by decide +kernel
theorem dX11_ratio_1 : decode cX11_ratio 1 = .ok (.iload_n 1, 1) := by decide +kernel
theorem dX11_ratio_2 : decode cX11_ratio 2 = .ok (.invokevirtual 197, 3) := by decide +kernel
theorem dX11_ratio_5 : decode cX11_ratio 5 = .ok (.astore_n 3, 1) := by decide +kernel
theorem dX11_ratio_6 : decode cX11_ratio 6 = .ok (.aload_n 3, 1) := by decide +kernel
theorem dX11_ratio_7 : decode cX11_ratio 7 = .ok (.ifnull 12, 3) := by decide +kernel
theorem dX11_ratio_10 : decode cX11_ratio 10 = .ok (.iload_n 2, 1) := by decide +kernel
theorem dX11_ratio_11 : decode cX11_ratio 11 = .ok (.ifCond .lt 8, 3) := by decide +kernel
theorem dX11_ratio_14 : decode cX11_ratio 14 = .ok (.iload_n 2, 1) := by decide +kernel
theorem dX11_ratio_15 : decode cX11_ratio 15 = .ok (.iconst 2, 1) := by decide +kernel
theorem dX11_ratio_16 : decode cX11_ratio 16 = .ok (.if_icmp .le 7, 3) := by decide +kernel
theorem dX11_ratio_19 : decode cX11_ratio 19 = .ok (.ldc2_w 177, 3) := by decide +kernel
theorem dX11_ratio_22 : decode cX11_ratio 22 = .ok (.lreturn, 1) := by decide +kernel
theorem dX11_ratio_23 : decode cX11_ratio 23 = .ok (.aload_n 3, 1) := by decide +kernel
theorem dX11_ratio_24 : decode cX11_ratio 24 = .ok (.getfield 138, 3) := by decide +kernel
theorem dX11_ratio_27 : decode cX11_ratio 27 = .ok (.invokevirtual 224, 3) := by decide +kernel
theorem dX11_ratio_30 : decode cX11_ratio 30 = .ok (.istore 4, 2) := by decide +kernel
theorem dX11_ratio_32 : decode cX11_ratio 32 = .ok (.iload 4, 2) := by decide +kernel
theorem dX11_ratio_34 : decode cX11_ratio 34 = .ok (.ifCond .ge 7, 3) := by decide +kernel
theorem dX11_ratio_37 : decode cX11_ratio 37 = .ok (.ldc2_w 177, 3) := by decide +kernel
theorem dX11_ratio_40 : decode cX11_ratio 40 = .ok (.lreturn, 1) := by decide +kernel
theorem dX11_ratio_41 : decode cX11_ratio 41 = .ok (.aload_n 3, 1) := by decide +kernel
theorem dX11_ratio_42 : decode cX11_ratio 42 = .ok (.getfield 138, 3) := by decide +kernel
theorem dX11_ratio_45 : decode cX11_ratio 45 = .ok (.astore 5, 2) := by decide +kernel
theorem dX11_ratio_47 : decode cX11_ratio 47 = .ok (.iload_n 2, 1) := by decide +kernel
theorem dX11_ratio_48 : decode cX11_ratio 48 = .ok (.iconst 2, 1) := by decide +kernel
theorem dX11_ratio_49 : decode cX11_ratio 49 = .ok (.if_icmp .ne 15, 3) := by decide +kernel
theorem dX11_ratio_52 : decode cX11_ratio 52 = .ok (.aload 5, 2) := by decide +kernel
theorem dX11_ratio_54 : decode cX11_ratio 54 = .ok (.getfield 157, 3) := by decide +kernel
theorem dX11_ratio_57 : decode cX11_ratio 57 = .ok (.iload 4, 2) := by decide +kernel
theorem dX11_ratio_59 : decode cX11_ratio 59 = .ok (.iaload, 1) := by decide +kernel
theorem dX11_ratio_60 : decode cX11_ratio 60 = .ok (.i2l, 1) := by decide +kernel
theorem dX11_ratio_61 : decode cX11_ratio 61 = .ok (.goto 25, 3) := by decide +kernel
theorem dX11_ratio_64 : decode cX11_ratio 64 = .ok (.aload 5, 2) := by decide +kernel
theorem dX11_ratio_66 : decode cX11_ratio 66 = .ok (.getfield 227, 3) := by decide +kernel
theorem dX11_ratio_69 : decode cX11_ratio 69 = .ok (.iload 4, 2) := by decide +kernel
theorem dX11_ratio_71 : decode cX11_ratio 71 = .ok (.iaload, 1) := by decide +kernel
theorem dX11_ratio_72 : decode cX11_ratio 72 = .ok (.i2l, 1) := by decide +kernel
theorem dX11_ratio_73 : decode cX11_ratio 73 = .ok (.aload 5, 2) := by decide +kernel
theorem dX11_ratio_75 : decode cX11_ratio 75 = .ok (.getfield 230, 3) := by decide +kernel
theorem dX11_ratio_78 : decode cX11_ratio 78 = .ok (.iload 4, 2) := by decide +kernel
theorem dX11_ratio_80 : decode cX11_ratio 80 = .ok (.iaload, 1) := by decide +kernel
theorem dX11_ratio_81 : decode cX11_ratio 81 = .ok (.i2l, 1) := by decide +kernel
theorem dX11_ratio_82 : decode cX11_ratio 82 = .ok (.iload_n 2, 1) := by decide +kernel
theorem dX11_ratio_83 : decode cX11_ratio 83 = .ok (.invokestatic 189, 3) := by decide +kernel
theorem dX11_ratio_86 : decode cX11_ratio 86 = .ok (.lreturn, 1) := by decide +kernel
theorem dX11_regret_0 : decode cX11_regret 0 = .ok (.aload_n 0, 1) := by decide +kernel
theorem dX11_regret_1 : decode cX11_regret 1 = .ok (.iload_n 1, 1) := by decide +kernel
theorem dX11_regret_2 : decode cX11_regret 2 = .ok (.invokevirtual 112, 3) := by decide +kernel
theorem dX11_regret_5 : decode cX11_regret 5 = .ok (.astore 4, 2) := by decide +kernel
theorem dX11_regret_7 : decode cX11_regret 7 = .ok (.aload 4, 2) := by decide +kernel
theorem dX11_regret_9 : decode cX11_regret 9 = .ok (.iload_n 2, 1) := by decide +kernel
theorem dX11_regret_10 : decode cX11_regret 10 = .ok (.invokestatic 212, 3) := by decide +kernel
theorem dX11_regret_13 : decode cX11_regret 13 = .ok (.istore 5, 2) := by decide +kernel
theorem dX11_regret_15 : decode cX11_regret 15 = .ok (.aload 4, 2) := by decide +kernel
theorem dX11_regret_17 : decode cX11_regret 17 = .ok (.ifnull 17, 3) := by decide +kernel
theorem dX11_regret_20 : decode cX11_regret 20 = .ok (.iload 5, 2) := by decide +kernel
theorem dX11_regret_22 : decode cX11_regret 22 = .ok (.ifCond .lt 12, 3) := by decide +kernel
theorem dX11_regret_25 : decode cX11_regret 25 = .ok (.iload_n 3, 1) := by decide +kernel
theorem dX11_regret_26 : decode cX11_regret 26 = .ok (.ifCond .lt 8, 3) := by decide +kernel
theorem dX11_regret_29 : decode cX11_regret 29 = .ok (.iload_n 3, 1) := by decide +kernel
theorem dX11_regret_30 : decode cX11_regret 30 = .ok (.iconst 1, 1) := by decide +kernel
theorem dX11_regret_31 : decode cX11_regret 31 = .ok (.if_icmp .le 7, 3) := by decide +kernel
theorem dX11_regret_34 : decode cX11_regret 34 = .ok (.ldc2_w 177, 3) := by decide +kernel
theorem dX11_regret_37 : decode cX11_regret 37 = .ok (.lreturn, 1) := by decide +kernel
theorem dX11_regret_38 : decode cX11_regret 38 = .ok (.aload 4, 2) := by decide +kernel
theorem dX11_regret_40 : decode cX11_regret 40 = .ok (.getfield 138, 3) := by decide +kernel
theorem dX11_regret_43 : decode cX11_regret 43 = .ok (.iload 5, 2) := by decide +kernel
theorem dX11_regret_45 : decode cX11_regret 45 = .ok (.aload_n 0, 1) := by decide +kernel
theorem dX11_regret_46 : decode cX11_regret 46 = .ok (.getfield 25, 3) := by decide +kernel
theorem dX11_regret_49 : decode cX11_regret 49 = .ok (.aload_n 0, 1) := by decide +kernel
theorem dX11_regret_50 : decode cX11_regret 50 = .ok (.getfield 49, 3) := by decide +kernel
theorem dX11_regret_53 : decode cX11_regret 53 = .ok (.invokevirtual 233, 3) := by decide +kernel
theorem dX11_regret_56 : decode cX11_regret 56 = .ok (.aload_n 0, 1) := by decide +kernel
theorem dX11_regret_57 : decode cX11_regret 57 = .ok (.getfield 49, 3) := by decide +kernel
theorem dX11_regret_60 : decode cX11_regret 60 = .ok (.iconst 0, 1) := by decide +kernel
theorem dX11_regret_61 : decode cX11_regret 61 = .ok (.laload, 1) := by decide +kernel
theorem dX11_regret_62 : decode cX11_regret 62 = .ok (.aload_n 0, 1) := by decide +kernel
theorem dX11_regret_63 : decode cX11_regret 63 = .ok (.getfield 49, 3) := by decide +kernel
theorem dX11_regret_66 : decode cX11_regret 66 = .ok (.iconst 1, 1) := by decide +kernel
theorem dX11_regret_67 : decode cX11_regret 67 = .ok (.laload, 1) := by decide +kernel
theorem dX11_regret_68 : decode cX11_regret 68 = .ok (.iload_n 3, 1) := by decide +kernel
theorem dX11_regret_69 : decode cX11_regret 69 = .ok (.invokestatic 189, 3) := by decide +kernel
theorem dX11_regret_72 : decode cX11_regret 72 = .ok (.lreturn, 1) := by decide +kernel
theorem dX11_calm_0 : decode cX11_calm 0 = .ok (.aload_n 0, 1) := by decide +kernel
theorem dX11_calm_1 : decode cX11_calm 1 = .ok (.iload_n 1, 1) := by decide +kernel
theorem dX11_calm_2 : decode cX11_calm 2 = .ok (.invokevirtual 112, 3) := by decide +kernel
theorem dX11_calm_5 : decode cX11_calm 5 = .ok (.astore_n 2, 1) := by decide +kernel
theorem dX11_calm_6 : decode cX11_calm 6 = .ok (.aload_n 2, 1) := by decide +kernel
theorem dX11_calm_7 : decode cX11_calm 7 = .ok (.ifnonnull 6, 3) := by decide +kernel
theorem dX11_calm_10 : decode cX11_calm 10 = .ok (.bipush (-2), 2) := by decide +kernel
theorem dX11_calm_12 : decode cX11_calm 12 = .ok (.ireturn, 1) := by decide +kernel
theorem dX11_calm_13 : decode cX11_calm 13 = .ok (.aload_n 2, 1) := by decide +kernel
theorem dX11_calm_14 : decode cX11_calm 14 = .ok (.aload_n 0, 1) := by decide +kernel
theorem dX11_calm_15 : decode cX11_calm 15 = .ok (.getfield 25, 3) := by decide +kernel
theorem dX11_calm_18 : decode cX11_calm 18 = .ok (.invokevirtual 237, 3) := by decide +kernel
theorem dX11_calm_21 : decode cX11_calm 21 = .ok (.astore_n 3, 1) := by decide +kernel
theorem dX11_calm_22 : decode cX11_calm 22 = .ok (.aload_n 2, 1) := by decide +kernel
theorem dX11_calm_23 : decode cX11_calm 23 = .ok (.getfield 138, 3) := by decide +kernel
theorem dX11_calm_26 : decode cX11_calm 26 = .ok (.aload_n 0, 1) := by decide +kernel
theorem dX11_calm_27 : decode cX11_calm 27 = .ok (.getfield 25, 3) := by decide +kernel
theorem dX11_calm_30 : decode cX11_calm 30 = .ok (.getfield 241, 3) := by decide +kernel
theorem dX11_calm_33 : decode cX11_calm 33 = .ok (.aload_n 0, 1) := by decide +kernel
theorem dX11_calm_34 : decode cX11_calm 34 = .ok (.getfield 25, 3) := by decide +kernel
theorem dX11_calm_37 : decode cX11_calm 37 = .ok (.getfield 244, 3) := by decide +kernel
theorem dX11_calm_40 : decode cX11_calm 40 = .ok (.iconst 1, 1) := by decide +kernel
theorem dX11_calm_41 : decode cX11_calm 41 = .ok (.invokevirtual 193, 3) := by decide +kernel
theorem dX11_calm_44 : decode cX11_calm 44 = .ok (.istore 4, 2) := by decide +kernel
theorem dX11_calm_46 : decode cX11_calm 46 = .ok (.iload 4, 2) := by decide +kernel
theorem dX11_calm_48 : decode cX11_calm 48 = .ok (.ifCond .ge 5, 3) := by decide +kernel
theorem dX11_calm_51 : decode cX11_calm 51 = .ok (.iconst (-1), 1) := by decide +kernel
theorem dX11_calm_52 : decode cX11_calm 52 = .ok (.ireturn, 1) := by decide +kernel
theorem dX11_calm_53 : decode cX11_calm 53 = .ok (.iconst 0, 1) := by decide +kernel
theorem dX11_calm_54 : decode cX11_calm 54 = .ok (.istore 5, 2) := by decide +kernel
theorem dX11_calm_56 : decode cX11_calm 56 = .ok (.iload 5, 2) := by decide +kernel
theorem dX11_calm_58 : decode cX11_calm 58 = .ok (.aload_n 3, 1) := by decide +kernel
theorem dX11_calm_59 : decode cX11_calm 59 = .ok (.getfield 247, 3) := by decide +kernel
theorem dX11_calm_62 : decode cX11_calm 62 = .ok (.if_icmp .ge 49, 3) := by decide +kernel
theorem dX11_calm_65 : decode cX11_calm 65 = .ok (.aload_n 2, 1) := by decide +kernel
theorem dX11_calm_66 : decode cX11_calm 66 = .ok (.getfield 138, 3) := by decide +kernel
theorem dX11_calm_69 : decode cX11_calm 69 = .ok (.aload_n 3, 1) := by decide +kernel
theorem dX11_calm_70 : decode cX11_calm 70 = .ok (.iload 5, 2) := by decide +kernel
theorem dX11_calm_72 : decode cX11_calm 72 = .ok (.iconst 3, 1) := by decide +kernel
theorem dX11_calm_73 : decode cX11_calm 73 = .ok (.invokevirtual 248, 3) := by decide +kernel
theorem dX11_calm_76 : decode cX11_calm 76 = .ok (.invokevirtual 168, 3) := by decide +kernel
theorem dX11_calm_79 : decode cX11_calm 79 = .ok (.istore 6, 2) := by decide +kernel
theorem dX11_calm_81 : decode cX11_calm 81 = .ok (.iload 6, 2) := by decide +kernel
theorem dX11_calm_83 : decode cX11_calm 83 = .ok (.ifCond .lt 22, 3) := by decide +kernel
theorem dX11_calm_86 : decode cX11_calm 86 = .ok (.aload_n 0, 1) := by decide +kernel
theorem dX11_calm_87 : decode cX11_calm 87 = .ok (.aload_n 2, 1) := by decide +kernel
theorem dX11_calm_88 : decode cX11_calm 88 = .ok (.getfield 138, 3) := by decide +kernel
theorem dX11_calm_91 : decode cX11_calm 91 = .ok (.iload 6, 2) := by decide +kernel
theorem dX11_calm_93 : decode cX11_calm 93 = .ok (.iload 4, 2) := by decide +kernel
theorem dX11_calm_95 : decode cX11_calm 95 = .ok (.invokevirtual 251, 3) := by decide +kernel
theorem dX11_calm_98 : decode cX11_calm 98 = .ok (.ifCond .eq 7, 3) := by decide +kernel
theorem dX11_calm_101 : decode cX11_calm 101 = .ok (.iload 6, 2) := by decide +kernel
theorem dX11_calm_103 : decode cX11_calm 103 = .ok (.istore 4, 2) := by decide +kernel
theorem dX11_calm_105 : decode cX11_calm 105 = .ok (.iinc 5 1, 3) := by decide +kernel
theorem dX11_calm_108 : decode cX11_calm 108 = .ok (.goto (-52), 3) := by decide +kernel
theorem dX11_calm_111 : decode cX11_calm 111 = .ok (.aload_n 2, 1) := by decide +kernel
theorem dX11_calm_112 : decode cX11_calm 112 = .ok (.getfield 138, 3) := by decide +kernel
theorem dX11_calm_115 : decode cX11_calm 115 = .ok (.getfield 157, 3) := by decide +kernel
theorem dX11_calm_118 : decode cX11_calm 118 = .ok (.iload 4, 2) := by decide +kernel
theorem dX11_calm_120 : decode cX11_calm 120 = .ok (.iaload, 1) := by decide +kernel
theorem dX11_calm_121 : decode cX11_calm 121 = .ok (.ireturn, 1) := by decide +kernel
theorem dX11_why_0 : decode cX11_why 0 = .ok (.aload_n 0, 1) := by decide +kernel
theorem dX11_why_1 : decode cX11_why 1 = .ok (.iload_n 1, 1) := by decide +kernel
theorem dX11_why_2 : decode cX11_why 2 = .ok (.invokevirtual 112, 3) := by decide +kernel
theorem dX11_why_5 : decode cX11_why 5 = .ok (.astore 5, 2) := by decide +kernel
theorem dX11_why_7 : decode cX11_why 7 = .ok (.aload 5, 2) := by decide +kernel
theorem dX11_why_9 : decode cX11_why 9 = .ok (.ifnull 30, 3) := by decide +kernel
theorem dX11_why_12 : decode cX11_why 12 = .ok (.aload 5, 2) := by decide +kernel
theorem dX11_why_14 : decode cX11_why 14 = .ok (.getfield 135, 3) := by decide +kernel
theorem dX11_why_17 : decode cX11_why 17 = .ok (.iconst 1, 1) := by decide +kernel
theorem dX11_why_18 : decode cX11_why 18 = .ok (.if_icmp .ne 21, 3) := by decide +kernel
theorem dX11_why_21 : decode cX11_why 21 = .ok (.aload 5, 2) := by decide +kernel
theorem dX11_why_23 : decode cX11_why 23 = .ok (.iload_n 2, 1) := by decide +kernel
theorem dX11_why_24 : decode cX11_why 24 = .ok (.invokestatic 212, 3) := by decide +kernel
theorem dX11_why_27 : decode cX11_why 27 = .ok (.ifCond .lt 12, 3) := by decide +kernel
theorem dX11_why_30 : decode cX11_why 30 = .ok (.iload_n 3, 1) := by decide +kernel
theorem dX11_why_31 : decode cX11_why 31 = .ok (.iload 4, 2) := by decide +kernel
theorem dX11_why_33 : decode cX11_why 33 = .ok (.invokestatic 174, 3) := by decide +kernel
theorem dX11_why_36 : decode cX11_why 36 = .ok (.ifCond .ne 6, 3) := by decide +kernel
theorem dX11_why_39 : decode cX11_why 39 = .ok (.bipush (-2), 2) := by decide +kernel
theorem dX11_why_41 : decode cX11_why 41 = .ok (.ireturn, 1) := by decide +kernel
theorem dX11_why_42 : decode cX11_why 42 = .ok (.iconst 0, 1) := by decide +kernel
theorem dX11_why_43 : decode cX11_why 43 = .ok (.istore 6, 2) := by decide +kernel
theorem dX11_why_45 : decode cX11_why 45 = .ok (.iload 6, 2) := by decide +kernel
theorem dX11_why_47 : decode cX11_why 47 = .ok (.aload_n 0, 1) := by decide +kernel
theorem dX11_why_48 : decode cX11_why 48 = .ok (.getfield 10, 3) := by decide +kernel
theorem dX11_why_51 : decode cX11_why 51 = .ok (.getfield 77, 3) := by decide +kernel
theorem dX11_why_54 : decode cX11_why 54 = .ok (.if_icmp .ge 75, 3) := by decide +kernel
theorem dX11_why_57 : decode cX11_why 57 = .ok (.iload_n 2, 1) := by decide +kernel
theorem dX11_why_58 : decode cX11_why 58 = .ok (.iload 6, 2) := by decide +kernel
theorem dX11_why_60 : decode cX11_why 60 = .ok (.ishr, 1) := by decide +kernel
theorem dX11_why_61 : decode cX11_why 61 = .ok (.iconst 1, 1) := by decide +kernel
theorem dX11_why_62 : decode cX11_why 62 = .ok (.iand, 1) := by decide +kernel
theorem dX11_why_63 : decode cX11_why 63 = .ok (.ifCond .ne 60, 3) := by decide +kernel
theorem dX11_why_66 : decode cX11_why 66 = .ok (.aload_n 0, 1) := by decide +kernel
theorem dX11_why_67 : decode cX11_why 67 = .ok (.getfield 10, 3) := by decide +kernel
theorem dX11_why_70 : decode cX11_why 70 = .ok (.iload_n 2, 1) := by decide +kernel
theorem dX11_why_71 : decode cX11_why 71 = .ok (.iload 6, 2) := by decide +kernel
theorem dX11_why_73 : decode cX11_why 73 = .ok (.iload_n 3, 1) := by decide +kernel
theorem dX11_why_74 : decode cX11_why 74 = .ok (.iload 4, 2) := by decide +kernel
theorem dX11_why_76 : decode cX11_why 76 = .ok (.invokevirtual 255, 3) := by decide +kernel
theorem dX11_why_79 : decode cX11_why 79 = .ok (.istore 7, 2) := by decide +kernel
theorem dX11_why_81 : decode cX11_why 81 = .ok (.iload 7, 2) := by decide +kernel
theorem dX11_why_83 : decode cX11_why 83 = .ok (.ifCond .lt 40, 3) := by decide +kernel
theorem dX11_why_86 : decode cX11_why 86 = .ok (.aload_n 0, 1) := by decide +kernel
theorem dX11_why_87 : decode cX11_why 87 = .ok (.getfield 10, 3) := by decide +kernel
theorem dX11_why_90 : decode cX11_why 90 = .ok (.iload 6, 2) := by decide +kernel
theorem dX11_why_92 : decode cX11_why 92 = .ok (.iload_n 3, 1) := by decide +kernel
theorem dX11_why_93 : decode cX11_why 93 = .ok (.iload 4, 2) := by decide +kernel
theorem dX11_why_95 : decode cX11_why 95 = .ok (.invokevirtual 258, 3) := by decide +kernel
theorem dX11_why_98 : decode cX11_why 98 = .ok (.aload_n 0, 1) := by decide +kernel
theorem dX11_why_99 : decode cX11_why 99 = .ok (.getfield 10, 3) := by decide +kernel
theorem dX11_why_102 : decode cX11_why 102 = .ok (.iload 7, 2) := by decide +kernel
theorem dX11_why_104 : decode cX11_why 104 = .ok (.iload_n 3, 1) := by decide +kernel
theorem dX11_why_105 : decode cX11_why 105 = .ok (.iload 4, 2) := by decide +kernel
theorem dX11_why_107 : decode cX11_why 107 = .ok (.invokevirtual 258, 3) := by decide +kernel
theorem dX11_why_110 : decode cX11_why 110 = .ok (.lcmp, 1) := by decide +kernel
theorem dX11_why_111 : decode cX11_why 111 = .ok (.ifCond .ge 12, 3) := by decide +kernel
theorem dX11_why_114 : decode cX11_why 114 = .ok (.bipush 12, 2) := by decide +kernel
theorem dX11_why_116 : decode cX11_why 116 = .ok (.iload 6, 2) := by decide +kernel
theorem dX11_why_118 : decode cX11_why 118 = .ok (.imul, 1) := by decide +kernel
theorem dX11_why_119 : decode cX11_why 119 = .ok (.iload 7, 2) := by decide +kernel
theorem dX11_why_121 : decode cX11_why 121 = .ok (.iadd, 1) := by decide +kernel
theorem dX11_why_122 : decode cX11_why 122 = .ok (.ireturn, 1) := by decide +kernel
theorem dX11_why_123 : decode cX11_why 123 = .ok (.iinc 6 1, 3) := by decide +kernel
theorem dX11_why_126 : decode cX11_why 126 = .ok (.goto (-81), 3) := by decide +kernel
theorem dX11_why_129 : decode cX11_why 129 = .ok (.iconst (-1), 1) := by decide +kernel
theorem dX11_why_130 : decode cX11_why 130 = .ok (.ireturn, 1) := by decide +kernel
theorem dX11_findTop_0 : decode cX11_findTop 0 = .ok (.aload_n 1, 1) := by decide +kernel
theorem dX11_findTop_1 : decode cX11_findTop 1 = .ok (.aload_n 0, 1) := by decide +kernel
theorem dX11_findTop_2 : decode cX11_findTop 2 = .ok (.getfield 25, 3) := by decide +kernel
theorem dX11_findTop_5 : decode cX11_findTop 5 = .ok (.invokevirtual 237, 3) := by decide +kernel
theorem dX11_findTop_8 : decode cX11_findTop 8 = .ok (.astore_n 2, 1) := by decide +kernel
theorem dX11_findTop_9 : decode cX11_findTop 9 = .ok (.aload_n 0, 1) := by decide +kernel
theorem dX11_findTop_10 : decode cX11_findTop 10 = .ok (.getfield 25, 3) := by decide +kernel
theorem dX11_findTop_13 : decode cX11_findTop 13 = .ok (.getfield 241, 3) := by decide +kernel
theorem dX11_findTop_16 : decode cX11_findTop 16 = .ok (.istore_n 3, 1) := by decide +kernel
theorem dX11_findTop_17 : decode cX11_findTop 17 = .ok (.aload_n 0, 1) := by decide +kernel
theorem dX11_findTop_18 : decode cX11_findTop 18 = .ok (.getfield 25, 3) := by decide +kernel
theorem dX11_findTop_21 : decode cX11_findTop 21 = .ok (.getfield 244, 3) := by decide +kernel
theorem dX11_findTop_24 : decode cX11_findTop 24 = .ok (.istore 4, 2) := by decide +kernel
theorem dX11_findTop_26 : decode cX11_findTop 26 = .ok (.aload_n 1, 1) := by decide +kernel
theorem dX11_findTop_27 : decode cX11_findTop 27 = .ok (.getfield 138, 3) := by decide +kernel
theorem dX11_findTop_30 : decode cX11_findTop 30 = .ok (.iload_n 3, 1) := by decide +kernel
theorem dX11_findTop_31 : decode cX11_findTop 31 = .ok (.iload 4, 2) := by decide +kernel
theorem dX11_findTop_33 : decode cX11_findTop 33 = .ok (.invokevirtual 200, 3) := by decide +kernel
theorem dX11_findTop_36 : decode cX11_findTop 36 = .ok (.lstore 5, 2) := by decide +kernel
theorem dX11_findTop_38 : decode cX11_findTop 38 = .ok (.iconst 0, 1) := by decide +kernel
theorem dX11_findTop_39 : decode cX11_findTop 39 = .ok (.istore 7, 2) := by decide +kernel
theorem dX11_findTop_41 : decode cX11_findTop 41 = .ok (.iload 7, 2) := by decide +kernel
theorem dX11_findTop_43 : decode cX11_findTop 43 = .ok (.aload_n 2, 1) := by decide +kernel
theorem dX11_findTop_44 : decode cX11_findTop 44 = .ok (.getfield 247, 3) := by decide +kernel
theorem dX11_findTop_47 : decode cX11_findTop 47 = .ok (.if_icmp .gt 113, 3) := by decide +kernel
theorem dX11_findTop_50 : decode cX11_findTop 50 = .ok (.iload 7, 2) := by decide +kernel
theorem dX11_findTop_52 : decode cX11_findTop 52 = .ok (.aload_n 2, 1) := by decide +kernel
theorem dX11_findTop_53 : decode cX11_findTop 53 = .ok (.getfield 247, 3) := by decide +kernel
theorem dX11_findTop_56 : decode cX11_findTop 56 = .ok (.if_icmp .ge 7, 3) := by decide +kernel
theorem dX11_findTop_59 : decode cX11_findTop 59 = .ok (.iconst 1, 1) := by decide +kernel
theorem dX11_findTop_60 : decode cX11_findTop 60 = .ok (.goto 4, 3) := by decide +kernel
theorem dX11_findTop_63 : decode cX11_findTop 63 = .ok (.iconst 0, 1) := by decide +kernel
theorem dX11_findTop_64 : decode cX11_findTop 64 = .ok (.istore 8, 2) := by decide +kernel
theorem dX11_findTop_66 : decode cX11_findTop 66 = .ok (.iload 8, 2) := by decide +kernel
theorem dX11_findTop_68 : decode cX11_findTop 68 = .ok (.ifCond .eq 13, 3) := by decide +kernel
theorem dX11_findTop_71 : decode cX11_findTop 71 = .ok (.aload_n 2, 1) := by decide +kernel
theorem dX11_findTop_72 : decode cX11_findTop 72 = .ok (.iload 7, 2) := by decide +kernel
theorem dX11_findTop_74 : decode cX11_findTop 74 = .ok (.iconst 0, 1) := by decide +kernel
theorem dX11_findTop_75 : decode cX11_findTop 75 = .ok (.invokevirtual 248, 3) := by decide +kernel
theorem dX11_findTop_78 : decode cX11_findTop 78 = .ok (.goto 10, 3) := by decide +kernel
theorem dX11_findTop_81 : decode cX11_findTop 81 = .ok (.aload_n 0, 1) := by decide +kernel
theorem dX11_findTop_82 : decode cX11_findTop 82 = .ok (.getfield 25, 3) := by decide +kernel
theorem dX11_findTop_85 : decode cX11_findTop 85 = .ok (.getfield 262, 3) := by decide +kernel
theorem dX11_findTop_88 : decode cX11_findTop 88 = .ok (.istore 9, 2) := by decide +kernel
theorem dX11_findTop_90 : decode cX11_findTop 90 = .ok (.iload 8, 2) := by decide +kernel
theorem dX11_findTop_92 : decode cX11_findTop 92 = .ok (.ifCond .eq 13, 3) := by decide +kernel
theorem dX11_findTop_95 : decode cX11_findTop 95 = .ok (.aload_n 2, 1) := by decide +kernel
theorem dX11_findTop_96 : decode cX11_findTop 96 = .ok (.iload 7, 2) := by decide +kernel
theorem dX11_findTop_98 : decode cX11_findTop 98 = .ok (.iconst 1, 1) := by decide +kernel
theorem dX11_findTop_99 : decode cX11_findTop 99 = .ok (.invokevirtual 248, 3) := by decide +kernel
theorem dX11_findTop_102 : decode cX11_findTop 102 = .ok (.goto 10, 3) := by decide +kernel
theorem dX11_findTop_105 : decode cX11_findTop 105 = .ok (.aload_n 0, 1) := by decide +kernel
theorem dX11_findTop_106 : decode cX11_findTop 106 = .ok (.getfield 25, 3) := by decide +kernel
theorem dX11_findTop_109 : decode cX11_findTop 109 = .ok (.getfield 265, 3) := by decide +kernel
theorem dX11_findTop_112 : decode cX11_findTop 112 = .ok (.istore 10, 2) := by decide +kernel
theorem dX11_findTop_114 : decode cX11_findTop 114 = .ok (.aload_n 1, 1) := by decide +kernel
theorem dX11_findTop_115 : decode cX11_findTop 115 = .ok (.getfield 138, 3) := by decide +kernel
theorem dX11_findTop_118 : decode cX11_findTop 118 = .ok (.iload 9, 2) := by decide +kernel
theorem dX11_findTop_120 : decode cX11_findTop 120 = .ok (.iload 10, 2) := by decide +kernel
theorem dX11_findTop_122 : decode cX11_findTop 122 = .ok (.invokevirtual 200, 3) := by decide +kernel
theorem dX11_findTop_125 : decode cX11_findTop 125 = .ok (.lstore 11, 2) := by decide +kernel
theorem dX11_findTop_127 : decode cX11_findTop 127 = .ok (.lload 5, 2) := by decide +kernel
theorem dX11_findTop_129 : decode cX11_findTop 129 = .ok (.iload 4, 2) := by decide +kernel
theorem dX11_findTop_131 : decode cX11_findTop 131 = .ok (.i2l, 1) := by decide +kernel
theorem dX11_findTop_132 : decode cX11_findTop 132 = .ok (.lload 11, 2) := by decide +kernel
theorem dX11_findTop_134 : decode cX11_findTop 134 = .ok (.iload 10, 2) := by decide +kernel
theorem dX11_findTop_136 : decode cX11_findTop 136 = .ok (.i2l, 1) := by decide +kernel
theorem dX11_findTop_137 : decode cX11_findTop 137 = .ok (.invokestatic 204, 3) := by decide +kernel
theorem dX11_findTop_140 : decode cX11_findTop 140 = .ok (.ifCond .eq 14, 3) := by decide +kernel
theorem dX11_findTop_143 : decode cX11_findTop 143 = .ok (.iload 9, 2) := by decide +kernel
theorem dX11_findTop_145 : decode cX11_findTop 145 = .ok (.istore_n 3, 1) := by decide +kernel
theorem dX11_findTop_146 : decode cX11_findTop 146 = .ok (.iload 10, 2) := by decide +kernel
theorem dX11_findTop_148 : decode cX11_findTop 148 = .ok (.istore 4, 2) := by decide +kernel
theorem dX11_findTop_150 : decode cX11_findTop 150 = .ok (.lload 11, 2) := by decide +kernel
theorem dX11_findTop_152 : decode cX11_findTop 152 = .ok (.lstore 5, 2) := by decide +kernel
theorem dX11_findTop_154 : decode cX11_findTop 154 = .ok (.iinc 7 1, 3) := by decide +kernel
theorem dX11_findTop_157 : decode cX11_findTop 157 = .ok (.goto (-116), 3) := by decide +kernel
theorem dX11_findTop_160 : decode cX11_findTop 160 = .ok (.aload_n 0, 1) := by decide +kernel
theorem dX11_findTop_161 : decode cX11_findTop 161 = .ok (.getfield 49, 3) := by decide +kernel
theorem dX11_findTop_164 : decode cX11_findTop 164 = .ok (.iconst 0, 1) := by decide +kernel
theorem dX11_findTop_165 : decode cX11_findTop 165 = .ok (.iload_n 3, 1) := by decide +kernel
theorem dX11_findTop_166 : decode cX11_findTop 166 = .ok (.i2l, 1) := by decide +kernel
theorem dX11_findTop_167 : decode cX11_findTop 167 = .ok (.iload 4, 2) := by decide +kernel
theorem dX11_findTop_169 : decode cX11_findTop 169 = .ok (.i2l, 1) := by decide +kernel
theorem dX11_findTop_170 : decode cX11_findTop 170 = .ok (.iconst 0, 1) := by decide +kernel
theorem dX11_findTop_171 : decode cX11_findTop 171 = .ok (.invokestatic 189, 3) := by decide +kernel
theorem dX11_findTop_174 : decode cX11_findTop 174 = .ok (.lastore, 1) := by decide +kernel
theorem dX11_findTop_175 : decode cX11_findTop 175 = .ok (.aload_n 0, 1) := by decide +kernel
theorem dX11_findTop_176 : decode cX11_findTop 176 = .ok (.getfield 49, 3) := by decide +kernel
theorem dX11_findTop_179 : decode cX11_findTop 179 = .ok (.iconst 1, 1) := by decide +kernel
theorem dX11_findTop_180 : decode cX11_findTop 180 = .ok (.iload_n 3, 1) := by decide +kernel
theorem dX11_findTop_181 : decode cX11_findTop 181 = .ok (.i2l, 1) := by decide +kernel
theorem dX11_findTop_182 : decode cX11_findTop 182 = .ok (.iload 4, 2) := by decide +kernel
theorem dX11_findTop_184 : decode cX11_findTop 184 = .ok (.i2l, 1) := by decide +kernel
theorem dX11_findTop_185 : decode cX11_findTop 185 = .ok (.iconst 1, 1) := by decide +kernel
theorem dX11_findTop_186 : decode cX11_findTop 186 = .ok (.invokestatic 189, 3) := by decide +kernel
theorem dX11_findTop_189 : decode cX11_findTop 189 = .ok (.lastore, 1) := by decide +kernel
theorem dX11_findTop_190 : decode cX11_findTop 190 = .ok (.aload_n 0, 1) := by decide +kernel
theorem dX11_findTop_191 : decode cX11_findTop 191 = .ok (.getfield 49, 3) := by decide +kernel
theorem dX11_findTop_194 : decode cX11_findTop 194 = .ok (.iconst 2, 1) := by decide +kernel
theorem dX11_findTop_195 : decode cX11_findTop 195 = .ok (.lload 5, 2) := by decide +kernel
theorem dX11_findTop_197 : decode cX11_findTop 197 = .ok (.iload 4, 2) := by decide +kernel
theorem dX11_findTop_199 : decode cX11_findTop 199 = .ok (.i2l, 1) := by decide +kernel
theorem dX11_findTop_200 : decode cX11_findTop 200 = .ok (.iconst 0, 1) := by decide +kernel
theorem dX11_findTop_201 : decode cX11_findTop 201 = .ok (.invokestatic 189, 3) := by decide +kernel
theorem dX11_findTop_204 : decode cX11_findTop 204 = .ok (.lastore, 1) := by decide +kernel
theorem dX11_findTop_205 : decode cX11_findTop 205 = .ok (.aload_n 0, 1) := by decide +kernel
theorem dX11_findTop_206 : decode cX11_findTop 206 = .ok (.getfield 49, 3) := by decide +kernel
theorem dX11_findTop_209 : decode cX11_findTop 209 = .ok (.iconst 3, 1) := by decide +kernel
theorem dX11_findTop_210 : decode cX11_findTop 210 = .ok (.lload 5, 2) := by decide +kernel
theorem dX11_findTop_212 : decode cX11_findTop 212 = .ok (.iload 4, 2) := by decide +kernel
theorem dX11_findTop_214 : decode cX11_findTop 214 = .ok (.i2l, 1) := by decide +kernel
theorem dX11_findTop_215 : decode cX11_findTop 215 = .ok (.iconst 1, 1) := by decide +kernel
theorem dX11_findTop_216 : decode cX11_findTop 216 = .ok (.invokestatic 189, 3) := by decide +kernel
theorem dX11_findTop_219 : decode cX11_findTop 219 = .ok (.lastore, 1) := by decide +kernel
theorem dX11_findTop_220 : decode cX11_findTop 220 = .ok (.return_, 1) := by decide +kernel
theorem dX11_isCalmer_0 : decode cX11_isCalmer 0 = .ok (.aload_n 1, 1) := by decide +kernel
theorem dX11_isCalmer_1 : decode cX11_isCalmer 1 = .ok (.iload_n 3, 1) := by decide +kernel
theorem dX11_isCalmer_2 : decode cX11_isCalmer 2 = .ok (.aload_n 0, 1) := by decide +kernel
theorem dX11_isCalmer_3 : decode cX11_isCalmer 3 = .ok (.getfield 25, 3) := by decide +kernel
theorem dX11_isCalmer_6 : decode cX11_isCalmer 6 = .ok (.aload_n 0, 1) := by decide +kernel
theorem dX11_isCalmer_7 : decode cX11_isCalmer 7 = .ok (.getfield 49, 3) := by decide +kernel
theorem dX11_isCalmer_10 : decode cX11_isCalmer 10 = .ok (.invokevirtual 233, 3) := by decide +kernel
theorem dX11_isCalmer_13 : decode cX11_isCalmer 13 = .ok (.aload_n 0, 1) := by decide +kernel
theorem dX11_isCalmer_14 : decode cX11_isCalmer 14 = .ok (.getfield 49, 3) := by decide +kernel
theorem dX11_isCalmer_17 : decode cX11_isCalmer 17 = .ok (.iconst 0, 1) := by decide +kernel
theorem dX11_isCalmer_18 : decode cX11_isCalmer 18 = .ok (.laload, 1) := by decide +kernel
theorem dX11_isCalmer_19 : decode cX11_isCalmer 19 = .ok (.lstore 4, 2) := by decide +kernel
theorem dX11_isCalmer_21 : decode cX11_isCalmer 21 = .ok (.aload_n 0, 1) := by decide +kernel
theorem dX11_isCalmer_22 : decode cX11_isCalmer 22 = .ok (.getfield 49, 3) := by decide +kernel
theorem dX11_isCalmer_25 : decode cX11_isCalmer 25 = .ok (.iconst 1, 1) := by decide +kernel
theorem dX11_isCalmer_26 : decode cX11_isCalmer 26 = .ok (.laload, 1) := by decide +kernel
theorem dX11_isCalmer_27 : decode cX11_isCalmer 27 = .ok (.lstore 6, 2) := by decide +kernel
theorem dX11_isCalmer_29 : decode cX11_isCalmer 29 = .ok (.aload_n 1, 1) := by decide +kernel
theorem dX11_isCalmer_30 : decode cX11_isCalmer 30 = .ok (.iload_n 2, 1) := by decide +kernel
theorem dX11_isCalmer_31 : decode cX11_isCalmer 31 = .ok (.aload_n 0, 1) := by decide +kernel
theorem dX11_isCalmer_32 : decode cX11_isCalmer 32 = .ok (.getfield 25, 3) := by decide +kernel
theorem dX11_isCalmer_35 : decode cX11_isCalmer 35 = .ok (.aload_n 0, 1) := by decide +kernel
theorem dX11_isCalmer_36 : decode cX11_isCalmer 36 = .ok (.getfield 49, 3) := by decide +kernel
theorem dX11_isCalmer_39 : decode cX11_isCalmer 39 = .ok (.invokevirtual 233, 3) := by decide +kernel
theorem dX11_isCalmer_42 : decode cX11_isCalmer 42 = .ok (.aload_n 0, 1) := by decide +kernel
theorem dX11_isCalmer_43 : decode cX11_isCalmer 43 = .ok (.getfield 49, 3) := by decide +kernel
theorem dX11_isCalmer_46 : decode cX11_isCalmer 46 = .ok (.iconst 0, 1) := by decide +kernel
theorem dX11_isCalmer_47 : decode cX11_isCalmer 47 = .ok (.laload, 1) := by decide +kernel
theorem dX11_isCalmer_48 : decode cX11_isCalmer 48 = .ok (.aload_n 0, 1) := by decide +kernel
theorem dX11_isCalmer_49 : decode cX11_isCalmer 49 = .ok (.getfield 49, 3) := by decide +kernel
theorem dX11_isCalmer_52 : decode cX11_isCalmer 52 = .ok (.iconst 1, 1) := by decide +kernel
theorem dX11_isCalmer_53 : decode cX11_isCalmer 53 = .ok (.laload, 1) := by decide +kernel
theorem dX11_isCalmer_54 : decode cX11_isCalmer 54 = .ok (.lload 4, 2) := by decide +kernel
theorem dX11_isCalmer_56 : decode cX11_isCalmer 56 = .ok (.lload 6, 2) := by decide +kernel
theorem dX11_isCalmer_58 : decode cX11_isCalmer 58 = .ok (.invokestatic 204, 3) := by decide +kernel
theorem dX11_isCalmer_61 : decode cX11_isCalmer 61 = .ok (.ifCond .eq 5, 3) := by decide +kernel
theorem dX11_isCalmer_64 : decode cX11_isCalmer 64 = .ok (.iconst 1, 1) := by decide +kernel
theorem dX11_isCalmer_65 : decode cX11_isCalmer 65 = .ok (.ireturn, 1) := by decide +kernel
theorem dX11_isCalmer_66 : decode cX11_isCalmer 66 = .ok (.lload 4, 2) := by decide +kernel
theorem dX11_isCalmer_68 : decode cX11_isCalmer 68 = .ok (.lload 6, 2) := by decide +kernel
theorem dX11_isCalmer_70 : decode cX11_isCalmer 70 = .ok (.aload_n 0, 1) := by decide +kernel
theorem dX11_isCalmer_71 : decode cX11_isCalmer 71 = .ok (.getfield 49, 3) := by decide +kernel
theorem dX11_isCalmer_74 : decode cX11_isCalmer 74 = .ok (.iconst 0, 1) := by decide +kernel
theorem dX11_isCalmer_75 : decode cX11_isCalmer 75 = .ok (.laload, 1) := by decide +kernel
theorem dX11_isCalmer_76 : decode cX11_isCalmer 76 = .ok (.aload_n 0, 1) := by decide +kernel
theorem dX11_isCalmer_77 : decode cX11_isCalmer 77 = .ok (.getfield 49, 3) := by decide +kernel
theorem dX11_isCalmer_80 : decode cX11_isCalmer 80 = .ok (.iconst 1, 1) := by decide +kernel
theorem dX11_isCalmer_81 : decode cX11_isCalmer 81 = .ok (.laload, 1) := by decide +kernel
theorem dX11_isCalmer_82 : decode cX11_isCalmer 82 = .ok (.invokestatic 204, 3) := by decide +kernel
theorem dX11_isCalmer_85 : decode cX11_isCalmer 85 = .ok (.ifCond .ne 12, 3) := by decide +kernel
theorem dX11_isCalmer_88 : decode cX11_isCalmer 88 = .ok (.iload_n 2, 1) := by decide +kernel
theorem dX11_isCalmer_89 : decode cX11_isCalmer 89 = .ok (.iload_n 3, 1) := by decide +kernel
theorem dX11_isCalmer_90 : decode cX11_isCalmer 90 = .ok (.if_icmp .ge 7, 3) := by decide +kernel
theorem dX11_isCalmer_93 : decode cX11_isCalmer 93 = .ok (.iconst 1, 1) := by decide +kernel
theorem dX11_isCalmer_94 : decode cX11_isCalmer 94 = .ok (.goto 4, 3) := by decide +kernel
theorem dX11_isCalmer_97 : decode cX11_isCalmer 97 = .ok (.iconst 0, 1) := by decide +kernel
theorem dX11_isCalmer_98 : decode cX11_isCalmer 98 = .ok (.ireturn, 1) := by decide +kernel
theorem dX11_isPrice_0 : decode cX11_isPrice 0 = .ok (.iload_n 0, 1) := by decide +kernel
theorem dX11_isPrice_1 : decode cX11_isPrice 1 = .ok (.sipush (-10000), 3) := by decide +kernel
theorem dX11_isPrice_4 : decode cX11_isPrice 4 = .ok (.if_icmp .lt 26, 3) := by decide +kernel
theorem dX11_isPrice_7 : decode cX11_isPrice 7 = .ok (.iload_n 0, 1) := by decide +kernel
theorem dX11_isPrice_8 : decode cX11_isPrice 8 = .ok (.sipush 10000, 3) := by decide +kernel
theorem dX11_isPrice_11 : decode cX11_isPrice 11 = .ok (.if_icmp .gt 19, 3) := by decide +kernel
theorem dX11_isPrice_14 : decode cX11_isPrice 14 = .ok (.iload_n 1, 1) := by decide +kernel
theorem dX11_isPrice_15 : decode cX11_isPrice 15 = .ok (.iconst 1, 1) := by decide +kernel
theorem dX11_isPrice_16 : decode cX11_isPrice 16 = .ok (.if_icmp .lt 14, 3) := by decide +kernel
theorem dX11_isPrice_19 : decode cX11_isPrice 19 = .ok (.iload_n 1, 1) := by decide +kernel
theorem dX11_isPrice_20 : decode cX11_isPrice 20 = .ok (.sipush 1000, 3) := by decide +kernel
theorem dX11_isPrice_23 : decode cX11_isPrice 23 = .ok (.if_icmp .gt 7, 3) := by decide +kernel
theorem dX11_isPrice_26 : decode cX11_isPrice 26 = .ok (.iconst 1, 1) := by decide +kernel
theorem dX11_isPrice_27 : decode cX11_isPrice 27 = .ok (.goto 4, 3) := by decide +kernel
theorem dX11_isPrice_30 : decode cX11_isPrice 30 = .ok (.iconst 0, 1) := by decide +kernel
theorem dX11_isPrice_31 : decode cX11_isPrice 31 = .ok (.ireturn, 1) := by decide +kernel
theorem dX11_isLess_0 : decode cX11_isLess 0 = .ok (.lload_n 0, 1) := by decide +kernel
theorem dX11_isLess_1 : decode cX11_isLess 1 = .ok (.lload 6, 2) := by decide +kernel
theorem dX11_isLess_3 : decode cX11_isLess 3 = .ok (.lmul, 1) := by decide +kernel
theorem dX11_isLess_4 : decode cX11_isLess 4 = .ok (.lload 4, 2) := by decide +kernel
theorem dX11_isLess_6 : decode cX11_isLess 6 = .ok (.lload_n 2, 1) := by decide +kernel
theorem dX11_isLess_7 : decode cX11_isLess 7 = .ok (.lmul, 1) := by decide +kernel
theorem dX11_isLess_8 : decode cX11_isLess 8 = .ok (.lcmp, 1) := by decide +kernel
theorem dX11_isLess_9 : decode cX11_isLess 9 = .ok (.ifCond .ge 7, 3) := by decide +kernel
theorem dX11_isLess_12 : decode cX11_isLess 12 = .ok (.iconst 1, 1) := by decide +kernel
theorem dX11_isLess_13 : decode cX11_isLess 13 = .ok (.goto 4, 3) := by decide +kernel
theorem dX11_isLess_16 : decode cX11_isLess 16 = .ok (.iconst 0, 1) := by decide +kernel
theorem dX11_isLess_17 : decode cX11_isLess 17 = .ok (.ireturn, 1) := by decide +kernel
theorem dX11_lowest_0 : decode cX11_lowest 0 = .ok (.lload_n 0, 1) := by decide +kernel
theorem dX11_lowest_1 : decode cX11_lowest 1 = .ok (.invokestatic 268, 3) := by decide +kernel
theorem dX11_lowest_4 : decode cX11_lowest 4 = .ok (.lload_n 2, 1) := by decide +kernel
theorem dX11_lowest_5 : decode cX11_lowest 5 = .ok (.invokestatic 274, 3) := by decide +kernel
theorem dX11_lowest_8 : decode cX11_lowest 8 = .ok (.lstore 5, 2) := by decide +kernel
theorem dX11_lowest_10 : decode cX11_lowest 10 = .ok (.iload 4, 2) := by decide +kernel
theorem dX11_lowest_12 : decode cX11_lowest 12 = .ok (.ifCond .ne 7, 3) := by decide +kernel
theorem dX11_lowest_15 : decode cX11_lowest 15 = .ok (.lload_n 0, 1) := by decide +kernel
theorem dX11_lowest_16 : decode cX11_lowest 16 = .ok (.goto 4, 3) := by decide +kernel
theorem dX11_lowest_19 : decode cX11_lowest 19 = .ok (.lload_n 2, 1) := by decide +kernel
theorem dX11_lowest_20 : decode cX11_lowest 20 = .ok (.lload 5, 2) := by decide +kernel
theorem dX11_lowest_22 : decode cX11_lowest 22 = .ok (.ldiv, 1) := by decide +kernel
theorem dX11_lowest_23 : decode cX11_lowest 23 = .ok (.lreturn, 1) := by decide +kernel
theorem dX11_commonOf_0 : decode cX11_commonOf 0 = .ok (.iconst 0, 1) := by decide +kernel
theorem dX11_commonOf_1 : decode cX11_commonOf 1 = .ok (.istore 4, 2) := by decide +kernel
theorem dX11_commonOf_3 : decode cX11_commonOf 3 = .ok (.iload 4, 2) := by decide +kernel
theorem dX11_commonOf_5 : decode cX11_commonOf 5 = .ok (.sipush 1000, 3) := by decide +kernel
theorem dX11_commonOf_8 : decode cX11_commonOf 8 = .ok (.if_icmp .ge 25, 3) := by decide +kernel
theorem dX11_commonOf_11 : decode cX11_commonOf 11 = .ok (.lload_n 2, 1) := by decide +kernel
theorem dX11_commonOf_12 : decode cX11_commonOf 12 = .ok (.lconst 0, 1) := by decide +kernel
theorem dX11_commonOf_13 : decode cX11_commonOf 13 = .ok (.lcmp, 1) := by decide +kernel
theorem dX11_commonOf_14 : decode cX11_commonOf 14 = .ok (.ifCond .eq 19, 3) := by decide +kernel
theorem dX11_commonOf_17 : decode cX11_commonOf 17 = .ok (.lload_n 0, 1) := by decide +kernel
theorem dX11_commonOf_18 : decode cX11_commonOf 18 = .ok (.lload_n 2, 1) := by decide +kernel
theorem dX11_commonOf_19 : decode cX11_commonOf 19 = .ok (.lrem, 1) := by decide +kernel
theorem dX11_commonOf_20 : decode cX11_commonOf 20 = .ok (.lstore 5, 2) := by decide +kernel
theorem dX11_commonOf_22 : decode cX11_commonOf 22 = .ok (.lload_n 2, 1) := by decide +kernel
theorem dX11_commonOf_23 : decode cX11_commonOf 23 = .ok (.lstore_n 0, 1) := by decide +kernel
theorem dX11_commonOf_24 : decode cX11_commonOf 24 = .ok (.lload 5, 2) := by decide +kernel
theorem dX11_commonOf_26 : decode cX11_commonOf 26 = .ok (.lstore_n 2, 1) := by decide +kernel
theorem dX11_commonOf_27 : decode cX11_commonOf 27 = .ok (.iinc 4 1, 3) := by decide +kernel
theorem dX11_commonOf_30 : decode cX11_commonOf 30 = .ok (.goto (-27), 3) := by decide +kernel
theorem dX11_commonOf_33 : decode cX11_commonOf 33 = .ok (.lload_n 0, 1) := by decide +kernel
theorem dX11_commonOf_34 : decode cX11_commonOf 34 = .ok (.lconst 0, 1) := by decide +kernel
theorem dX11_commonOf_35 : decode cX11_commonOf 35 = .ok (.lcmp, 1) := by decide +kernel
theorem dX11_commonOf_36 : decode cX11_commonOf 36 = .ok (.ifCond .ne 7, 3) := by decide +kernel
theorem dX11_commonOf_39 : decode cX11_commonOf 39 = .ok (.lconst 1, 1) := by decide +kernel
theorem dX11_commonOf_40 : decode cX11_commonOf 40 = .ok (.goto 4, 3) := by decide +kernel
theorem dX11_commonOf_43 : decode cX11_commonOf 43 = .ok (.lload_n 0, 1) := by decide +kernel
theorem dX11_commonOf_44 : decode cX11_commonOf 44 = .ok (.lreturn, 1) := by decide +kernel
theorem dX11_bends_0 : decode cX11_bends 0 = .ok (.aload_n 0, 1) := by decide +kernel
theorem dX11_bends_1 : decode cX11_bends 1 = .ok (.iload_n 1, 1) := by decide +kernel
theorem dX11_bends_2 : decode cX11_bends 2 = .ok (.invokevirtual 112, 3) := by decide +kernel
theorem dX11_bends_5 : decode cX11_bends 5 = .ok (.astore_n 2, 1) := by decide +kernel
theorem dX11_bends_6 : decode cX11_bends 6 = .ok (.aload_n 2, 1) := by decide +kernel
theorem dX11_bends_7 : decode cX11_bends 7 = .ok (.ifnonnull 8, 3) := by decide +kernel
theorem dX11_bends_10 : decode cX11_bends 10 = .ok (.bipush (-2), 2) := by decide +kernel
theorem dX11_bends_12 : decode cX11_bends 12 = .ok (.goto 14, 3) := by decide +kernel
theorem dX11_bends_15 : decode cX11_bends 15 = .ok (.aload_n 2, 1) := by decide +kernel
theorem dX11_bends_16 : decode cX11_bends 16 = .ok (.aload_n 0, 1) := by decide +kernel
theorem dX11_bends_17 : decode cX11_bends 17 = .ok (.getfield 25, 3) := by decide +kernel
theorem dX11_bends_20 : decode cX11_bends 20 = .ok (.invokevirtual 237, 3) := by decide +kernel
theorem dX11_bends_23 : decode cX11_bends 23 = .ok (.getfield 247, 3) := by decide +kernel
theorem dX11_bends_26 : decode cX11_bends 26 = .ok (.ireturn, 1) := by decide +kernel
theorem dX11_bend_0 : decode cX11_bend 0 = .ok (.aload_n 0, 1) := by decide +kernel
theorem dX11_bend_1 : decode cX11_bend 1 = .ok (.iload_n 1, 1) := by decide +kernel
theorem dX11_bend_2 : decode cX11_bend 2 = .ok (.invokevirtual 112, 3) := by decide +kernel
theorem dX11_bend_5 : decode cX11_bend 5 = .ok (.astore 4, 2) := by decide +kernel
theorem dX11_bend_7 : decode cX11_bend 7 = .ok (.aload 4, 2) := by decide +kernel
theorem dX11_bend_9 : decode cX11_bend 9 = .ok (.ifnonnull 9, 3) := by decide +kernel
theorem dX11_bend_12 : decode cX11_bend 12 = .ok (.ldc2_w 177, 3) := by decide +kernel
theorem dX11_bend_15 : decode cX11_bend 15 = .ok (.goto 17, 3) := by decide +kernel
theorem dX11_bend_18 : decode cX11_bend 18 = .ok (.aload 4, 2) := by decide +kernel
theorem dX11_bend_20 : decode cX11_bend 20 = .ok (.aload_n 0, 1) := by decide +kernel
theorem dX11_bend_21 : decode cX11_bend 21 = .ok (.getfield 25, 3) := by decide +kernel
theorem dX11_bend_24 : decode cX11_bend 24 = .ok (.invokevirtual 237, 3) := by decide +kernel
theorem dX11_bend_27 : decode cX11_bend 27 = .ok (.iload_n 2, 1) := by decide +kernel
theorem dX11_bend_28 : decode cX11_bend 28 = .ok (.iload_n 3, 1) := by decide +kernel
theorem dX11_bend_29 : decode cX11_bend 29 = .ok (.invokestatic 278, 3) := by decide +kernel
theorem dX11_bend_32 : decode cX11_bend 32 = .ok (.lreturn, 1) := by decide +kernel
theorem dX11_write_0 : decode cX11_write 0 = .ok (.aload_n 0, 1) := by decide +kernel
theorem dX11_write_1 : decode cX11_write 1 = .ok (.iload_n 1, 1) := by decide +kernel
theorem dX11_write_2 : decode cX11_write 2 = .ok (.invokevirtual 112, 3) := by decide +kernel
theorem dX11_write_5 : decode cX11_write 5 = .ok (.astore_n 2, 1) := by decide +kernel
theorem dX11_write_6 : decode cX11_write 6 = .ok (.aload_n 2, 1) := by decide +kernel
theorem dX11_write_7 : decode cX11_write 7 = .ok (.ifnonnull 6, 3) := by decide +kernel
theorem dX11_write_10 : decode cX11_write 10 = .ok (.bipush (-2), 2) := by decide +kernel
theorem dX11_write_12 : decode cX11_write 12 = .ok (.ireturn, 1) := by decide +kernel
theorem dX11_write_13 : decode cX11_write 13 = .ok (.aload_n 0, 1) := by decide +kernel
theorem dX11_write_14 : decode cX11_write 14 = .ok (.getfield 32, 3) := by decide +kernel
theorem dX11_write_17 : decode cX11_write 17 = .ok (.aload_n 2, 1) := by decide +kernel
theorem dX11_write_18 : decode cX11_write 18 = .ok (.aload_n 0, 1) := by decide +kernel
theorem dX11_write_19 : decode cX11_write 19 = .ok (.getfield 25, 3) := by decide +kernel
theorem dX11_write_22 : decode cX11_write 22 = .ok (.invokevirtual 237, 3) := by decide +kernel
theorem dX11_write_25 : decode cX11_write 25 = .ok (.invokevirtual 282, 3) := by decide +kernel
theorem dX11_write_28 : decode cX11_write 28 = .ok (.aload_n 0, 1) := by decide +kernel
theorem dX11_write_29 : decode cX11_write 29 = .ok (.getfield 32, 3) := by decide +kernel
theorem dX11_write_32 : decode cX11_write 32 = .ok (.getfield 247, 3) := by decide +kernel
theorem dX11_write_35 : decode cX11_write 35 = .ok (.ireturn, 1) := by decide +kernel
theorem dX11_row_0 : decode cX11_row 0 = .ok (.aload_n 0, 1) := by decide +kernel
theorem dX11_row_1 : decode cX11_row 1 = .ok (.getfield 32, 3) := by decide +kernel
theorem dX11_row_4 : decode cX11_row 4 = .ok (.iload_n 1, 1) := by decide +kernel
theorem dX11_row_5 : decode cX11_row 5 = .ok (.iload_n 2, 1) := by decide +kernel
theorem dX11_row_6 : decode cX11_row 6 = .ok (.invokestatic 278, 3) := by decide +kernel
theorem dX11_row_9 : decode cX11_row 9 = .ok (.lreturn, 1) := by decide +kernel
theorem dX11_forge_0 : decode cX11_forge 0 = .ok (.aload_n 0, 1) := by decide +kernel
theorem dX11_forge_1 : decode cX11_forge 1 = .ok (.getfield 32, 3) := by decide +kernel
theorem dX11_forge_4 : decode cX11_forge 4 = .ok (.iload_n 1, 1) := by decide +kernel
theorem dX11_forge_5 : decode cX11_forge 5 = .ok (.iload_n 2, 1) := by decide +kernel
theorem dX11_forge_6 : decode cX11_forge 6 = .ok (.invokevirtual 286, 3) := by decide +kernel
theorem dX11_forge_9 : decode cX11_forge 9 = .ok (.ifCond .eq 17, 3) := by decide +kernel
theorem dX11_forge_12 : decode cX11_forge 12 = .ok (.iload_n 3, 1) := by decide +kernel
theorem dX11_forge_13 : decode cX11_forge 13 = .ok (.ldc_w 289, 3) := by decide +kernel
theorem dX11_forge_16 : decode cX11_forge 16 = .ok (.if_icmp .lt 10, 3) := by decide +kernel
theorem dX11_forge_19 : decode cX11_forge 19 = .ok (.iload_n 3, 1) := by decide +kernel
theorem dX11_forge_20 : decode cX11_forge 20 = .ok (.ldc_w 290, 3) := by decide +kernel
theorem dX11_forge_23 : decode cX11_forge 23 = .ok (.if_icmp .le 6, 3) := by decide +kernel
theorem dX11_forge_26 : decode cX11_forge 26 = .ok (.bipush (-2), 2) := by decide +kernel
theorem dX11_forge_28 : decode cX11_forge 28 = .ok (.ireturn, 1) := by decide +kernel
theorem dX11_forge_29 : decode cX11_forge 29 = .ok (.aload_n 0, 1) := by decide +kernel
theorem dX11_forge_30 : decode cX11_forge 30 = .ok (.getfield 32, 3) := by decide +kernel
theorem dX11_forge_33 : decode cX11_forge 33 = .ok (.iload_n 1, 1) := by decide +kernel
theorem dX11_forge_34 : decode cX11_forge 34 = .ok (.iload_n 2, 1) := by decide +kernel
theorem dX11_forge_35 : decode cX11_forge 35 = .ok (.iload_n 3, 1) := by decide +kernel
theorem dX11_forge_36 : decode cX11_forge 36 = .ok (.invokevirtual 291, 3) := by decide +kernel
theorem dX11_forge_39 : decode cX11_forge 39 = .ok (.iconst 1, 1) := by decide +kernel
theorem dX11_forge_40 : decode cX11_forge 40 = .ok (.ireturn, 1) := by decide +kernel
theorem dX11_check_0 : decode cX11_check 0 = .ok (.aload_n 0, 1) := by decide +kernel
theorem dX11_check_1 : decode cX11_check 1 = .ok (.iload_n 1, 1) := by decide +kernel
theorem dX11_check_2 : decode cX11_check 2 = .ok (.invokevirtual 112, 3) := by decide +kernel
theorem dX11_check_5 : decode cX11_check 5 = .ok (.astore_n 2, 1) := by decide +kernel
theorem dX11_check_6 : decode cX11_check 6 = .ok (.aload_n 2, 1) := by decide +kernel
theorem dX11_check_7 : decode cX11_check 7 = .ok (.ifnonnull 6, 3) := by decide +kernel
theorem dX11_check_10 : decode cX11_check 10 = .ok (.bipush (-2), 2) := by decide +kernel
theorem dX11_check_12 : decode cX11_check 12 = .ok (.ireturn, 1) := by decide +kernel
theorem dX11_check_13 : decode cX11_check 13 = .ok (.iconst 0, 1) := by decide +kernel
theorem dX11_check_14 : decode cX11_check 14 = .ok (.istore_n 3, 1) := by decide +kernel
theorem dX11_check_15 : decode cX11_check 15 = .ok (.iload_n 3, 1) := by decide +kernel
theorem dX11_check_16 : decode cX11_check 16 = .ok (.aload_n 0, 1) := by decide +kernel
theorem dX11_check_17 : decode cX11_check 17 = .ok (.getfield 32, 3) := by decide +kernel
theorem dX11_check_20 : decode cX11_check 20 = .ok (.getfield 247, 3) := by decide +kernel
theorem dX11_check_23 : decode cX11_check 23 = .ok (.if_icmp .ge 33, 3) := by decide +kernel
theorem dX11_check_26 : decode cX11_check 26 = .ok (.aload_n 0, 1) := by decide +kernel
theorem dX11_check_27 : decode cX11_check 27 = .ok (.aload_n 2, 1) := by decide +kernel
theorem dX11_check_28 : decode cX11_check 28 = .ok (.getfield 138, 3) := by decide +kernel
theorem dX11_check_31 : decode cX11_check 31 = .ok (.iload_n 3, 1) := by decide +kernel
theorem dX11_check_32 : decode cX11_check 32 = .ok (.invokevirtual 294, 3) := by decide +kernel
theorem dX11_check_35 : decode cX11_check 35 = .ok (.istore 4, 2) := by decide +kernel
theorem dX11_check_37 : decode cX11_check 37 = .ok (.iload 4, 2) := by decide +kernel
theorem dX11_check_39 : decode cX11_check 39 = .ok (.ifCond .le 11, 3) := by decide +kernel
theorem dX11_check_42 : decode cX11_check 42 = .ok (.bipush 8, 2) := by decide +kernel
theorem dX11_check_44 : decode cX11_check 44 = .ok (.iload_n 3, 1) := by decide +kernel
theorem dX11_check_45 : decode cX11_check 45 = .ok (.imul, 1) := by decide +kernel
theorem dX11_check_46 : decode cX11_check 46 = .ok (.iload 4, 2) := by decide +kernel
theorem dX11_check_48 : decode cX11_check 48 = .ok (.iadd, 1) := by decide +kernel
theorem dX11_check_49 : decode cX11_check 49 = .ok (.ireturn, 1) := by decide +kernel
theorem dX11_check_50 : decode cX11_check 50 = .ok (.iinc 3 1, 3) := by decide +kernel
theorem dX11_check_53 : decode cX11_check 53 = .ok (.goto (-38), 3) := by decide +kernel
theorem dX11_check_56 : decode cX11_check 56 = .ok (.aload_n 0, 1) := by decide +kernel
theorem dX11_check_57 : decode cX11_check 57 = .ok (.getfield 32, 3) := by decide +kernel
theorem dX11_check_60 : decode cX11_check 60 = .ok (.getfield 247, 3) := by decide +kernel
theorem dX11_check_63 : decode cX11_check 63 = .ok (.aload_n 2, 1) := by decide +kernel
theorem dX11_check_64 : decode cX11_check 64 = .ok (.aload_n 0, 1) := by decide +kernel
theorem dX11_check_65 : decode cX11_check 65 = .ok (.getfield 25, 3) := by decide +kernel
theorem dX11_check_68 : decode cX11_check 68 = .ok (.invokevirtual 237, 3) := by decide +kernel
theorem dX11_check_71 : decode cX11_check 71 = .ok (.getfield 247, 3) := by decide +kernel
theorem dX11_check_74 : decode cX11_check 74 = .ok (.if_icmp .ge 8, 3) := by decide +kernel
theorem dX11_check_77 : decode cX11_check 77 = .ok (.bipush (-3), 2) := by decide +kernel
theorem dX11_check_79 : decode cX11_check 79 = .ok (.goto 4, 3) := by decide +kernel
theorem dX11_check_82 : decode cX11_check 82 = .ok (.iconst (-1), 1) := by decide +kernel
theorem dX11_check_83 : decode cX11_check 83 = .ok (.ireturn, 1) := by decide +kernel
theorem dX11_numberOrNo_0 : decode cX11_numberOrNo 0 = .ok (.aload_n 0, 1) := by decide +kernel
theorem dX11_numberOrNo_1 : decode cX11_numberOrNo 1 = .ok (.iload_n 1, 1) := by decide +kernel
theorem dX11_numberOrNo_2 : decode cX11_numberOrNo 2 = .ok (.iload_n 2, 1) := by decide +kernel
theorem dX11_numberOrNo_3 : decode cX11_numberOrNo 3 = .ok (.invokevirtual 286, 3) := by decide +kernel
theorem dX11_numberOrNo_6 : decode cX11_numberOrNo 6 = .ok (.ifCond .eq 13, 3) := by decide +kernel
theorem dX11_numberOrNo_9 : decode cX11_numberOrNo 9 = .ok (.aload_n 0, 1) := by decide +kernel
theorem dX11_numberOrNo_10 : decode cX11_numberOrNo 10 = .ok (.iload_n 1, 1) := by decide +kernel
theorem dX11_numberOrNo_11 : decode cX11_numberOrNo 11 = .ok (.iload_n 2, 1) := by decide +kernel
theorem dX11_numberOrNo_12 : decode cX11_numberOrNo 12 = .ok (.invokevirtual 248, 3) := by decide +kernel
theorem dX11_numberOrNo_15 : decode cX11_numberOrNo 15 = .ok (.i2l, 1) := by decide +kernel
theorem dX11_numberOrNo_16 : decode cX11_numberOrNo 16 = .ok (.goto 6, 3) := by decide +kernel
theorem dX11_numberOrNo_19 : decode cX11_numberOrNo 19 = .ok (.ldc2_w 177, 3) := by decide +kernel
theorem dX11_numberOrNo_22 : decode cX11_numberOrNo 22 = .ok (.lreturn, 1) := by decide +kernel
theorem dX11_howWrong_0 : decode cX11_howWrong 0 = .ok (.aload_n 0, 1) := by decide +kernel
theorem dX11_howWrong_1 : decode cX11_howWrong 1 = .ok (.getfield 32, 3) := by decide +kernel
theorem dX11_howWrong_4 : decode cX11_howWrong 4 = .ok (.iload_n 2, 1) := by decide +kernel
theorem dX11_howWrong_5 : decode cX11_howWrong 5 = .ok (.iconst 0, 1) := by decide +kernel
theorem dX11_howWrong_6 : decode cX11_howWrong 6 = .ok (.invokevirtual 248, 3) := by decide +kernel
theorem dX11_howWrong_9 : decode cX11_howWrong 9 = .ok (.istore_n 3, 1) := by decide +kernel
theorem dX11_howWrong_10 : decode cX11_howWrong 10 = .ok (.aload_n 0, 1) := by decide +kernel
theorem dX11_howWrong_11 : decode cX11_howWrong 11 = .ok (.getfield 32, 3) := by decide +kernel
theorem dX11_howWrong_14 : decode cX11_howWrong 14 = .ok (.iload_n 2, 1) := by decide +kernel
theorem dX11_howWrong_15 : decode cX11_howWrong 15 = .ok (.iconst 1, 1) := by decide +kernel
theorem dX11_howWrong_16 : decode cX11_howWrong 16 = .ok (.invokevirtual 248, 3) := by decide +kernel
theorem dX11_howWrong_19 : decode cX11_howWrong 19 = .ok (.istore 4, 2) := by decide +kernel
theorem dX11_howWrong_21 : decode cX11_howWrong 21 = .ok (.iload_n 3, 1) := by decide +kernel
theorem dX11_howWrong_22 : decode cX11_howWrong 22 = .ok (.iload 4, 2) := by decide +kernel
theorem dX11_howWrong_24 : decode cX11_howWrong 24 = .ok (.invokestatic 174, 3) := by decide +kernel
theorem dX11_howWrong_27 : decode cX11_howWrong 27 = .ok (.ifCond .eq 32, 3) := by decide +kernel
theorem dX11_howWrong_30 : decode cX11_howWrong 30 = .ok (.iload_n 3, 1) := by decide +kernel
theorem dX11_howWrong_31 : decode cX11_howWrong 31 = .ok (.invokestatic 298, 3) := by decide +kernel
theorem dX11_howWrong_34 : decode cX11_howWrong 34 = .ok (.i2l, 1) := by decide +kernel
theorem dX11_howWrong_35 : decode cX11_howWrong 35 = .ok (.iload 4, 2) := by decide +kernel
theorem dX11_howWrong_37 : decode cX11_howWrong 37 = .ok (.i2l, 1) := by decide +kernel
theorem dX11_howWrong_38 : decode cX11_howWrong 38 = .ok (.invokestatic 274, 3) := by decide +kernel
theorem dX11_howWrong_41 : decode cX11_howWrong 41 = .ok (.lconst 1, 1) := by decide +kernel
theorem dX11_howWrong_42 : decode cX11_howWrong 42 = .ok (.lcmp, 1) := by decide +kernel
theorem dX11_howWrong_43 : decode cX11_howWrong 43 = .ok (.ifCond .ne 16, 3) := by decide +kernel
theorem dX11_howWrong_46 : decode cX11_howWrong 46 = .ok (.aload_n 0, 1) := by decide +kernel
theorem dX11_howWrong_47 : decode cX11_howWrong 47 = .ok (.getfield 25, 3) := by decide +kernel
theorem dX11_howWrong_50 : decode cX11_howWrong 50 = .ok (.iload_n 3, 1) := by decide +kernel
theorem dX11_howWrong_51 : decode cX11_howWrong 51 = .ok (.iload 4, 2) := by decide +kernel
theorem dX11_howWrong_53 : decode cX11_howWrong 53 = .ok (.invokevirtual 300, 3) := by decide +kernel
theorem dX11_howWrong_56 : decode cX11_howWrong 56 = .ok (.ifCond .ne 5, 3) := by decide +kernel
theorem dX11_howWrong_59 : decode cX11_howWrong 59 = .ok (.iconst 1, 1) := by decide +kernel
theorem dX11_howWrong_60 : decode cX11_howWrong 60 = .ok (.ireturn, 1) := by decide +kernel
theorem dX11_howWrong_61 : decode cX11_howWrong 61 = .ok (.iload_n 2, 1) := by decide +kernel
theorem dX11_howWrong_62 : decode cX11_howWrong 62 = .ok (.ifCond .le 40, 3) := by decide +kernel
theorem dX11_howWrong_65 : decode cX11_howWrong 65 = .ok (.aload_n 0, 1) := by decide +kernel
theorem dX11_howWrong_66 : decode cX11_howWrong 66 = .ok (.getfield 32, 3) := by decide +kernel
theorem dX11_howWrong_69 : decode cX11_howWrong 69 = .ok (.iload_n 2, 1) := by decide +kernel
theorem dX11_howWrong_70 : decode cX11_howWrong 70 = .ok (.iconst 1, 1) := by decide +kernel
theorem dX11_howWrong_71 : decode cX11_howWrong 71 = .ok (.isub, 1) := by decide +kernel
theorem dX11_howWrong_72 : decode cX11_howWrong 72 = .ok (.iconst 0, 1) := by decide +kernel
theorem dX11_howWrong_73 : decode cX11_howWrong 73 = .ok (.invokevirtual 248, 3) := by decide +kernel
theorem dX11_howWrong_76 : decode cX11_howWrong 76 = .ok (.i2l, 1) := by decide +kernel
theorem dX11_howWrong_77 : decode cX11_howWrong 77 = .ok (.aload_n 0, 1) := by decide +kernel
theorem dX11_howWrong_78 : decode cX11_howWrong 78 = .ok (.getfield 32, 3) := by decide +kernel
theorem dX11_howWrong_81 : decode cX11_howWrong 81 = .ok (.iload_n 2, 1) := by decide +kernel
theorem dX11_howWrong_82 : decode cX11_howWrong 82 = .ok (.iconst 1, 1) := by decide +kernel
theorem dX11_howWrong_83 : decode cX11_howWrong 83 = .ok (.isub, 1) := by decide +kernel
theorem dX11_howWrong_84 : decode cX11_howWrong 84 = .ok (.iconst 1, 1) := by decide +kernel
theorem dX11_howWrong_85 : decode cX11_howWrong 85 = .ok (.invokevirtual 248, 3) := by decide +kernel
theorem dX11_howWrong_88 : decode cX11_howWrong 88 = .ok (.i2l, 1) := by decide +kernel
theorem dX11_howWrong_89 : decode cX11_howWrong 89 = .ok (.iload_n 3, 1) := by decide +kernel
theorem dX11_howWrong_90 : decode cX11_howWrong 90 = .ok (.i2l, 1) := by decide +kernel
theorem dX11_howWrong_91 : decode cX11_howWrong 91 = .ok (.iload 4, 2) := by decide +kernel
theorem dX11_howWrong_93 : decode cX11_howWrong 93 = .ok (.i2l, 1) := by decide +kernel
theorem dX11_howWrong_94 : decode cX11_howWrong 94 = .ok (.invokestatic 204, 3) := by decide +kernel
theorem dX11_howWrong_97 : decode cX11_howWrong 97 = .ok (.ifCond .ne 5, 3) := by decide +kernel
theorem dX11_howWrong_100 : decode cX11_howWrong 100 = .ok (.iconst 2, 1) := by decide +kernel
theorem dX11_howWrong_101 : decode cX11_howWrong 101 = .ok (.ireturn, 1) := by decide +kernel
theorem dX11_howWrong_102 : decode cX11_howWrong 102 = .ok (.aload_n 1, 1) := by decide +kernel
theorem dX11_howWrong_103 : decode cX11_howWrong 103 = .ok (.aload_n 0, 1) := by decide +kernel
theorem dX11_howWrong_104 : decode cX11_howWrong 104 = .ok (.getfield 32, 3) := by decide +kernel
theorem dX11_howWrong_107 : decode cX11_howWrong 107 = .ok (.iload_n 2, 1) := by decide +kernel
theorem dX11_howWrong_108 : decode cX11_howWrong 108 = .ok (.iconst 2, 1) := by decide +kernel
theorem dX11_howWrong_109 : decode cX11_howWrong 109 = .ok (.invokevirtual 248, 3) := by decide +kernel
theorem dX11_howWrong_112 : decode cX11_howWrong 112 = .ok (.invokevirtual 168, 3) := by decide +kernel
theorem dX11_howWrong_115 : decode cX11_howWrong 115 = .ok (.istore 5, 2) := by decide +kernel
theorem dX11_howWrong_117 : decode cX11_howWrong 117 = .ok (.iload 5, 2) := by decide +kernel
theorem dX11_howWrong_119 : decode cX11_howWrong 119 = .ok (.ifCond .ge 5, 3) := by decide +kernel
theorem dX11_howWrong_122 : decode cX11_howWrong 122 = .ok (.iconst 3, 1) := by decide +kernel
theorem dX11_howWrong_123 : decode cX11_howWrong 123 = .ok (.ireturn, 1) := by decide +kernel
theorem dX11_howWrong_124 : decode cX11_howWrong 124 = .ok (.aload_n 1, 1) := by decide +kernel
theorem dX11_howWrong_125 : decode cX11_howWrong 125 = .ok (.aload_n 0, 1) := by decide +kernel
theorem dX11_howWrong_126 : decode cX11_howWrong 126 = .ok (.getfield 32, 3) := by decide +kernel
theorem dX11_howWrong_129 : decode cX11_howWrong 129 = .ok (.iload_n 2, 1) := by decide +kernel
theorem dX11_howWrong_130 : decode cX11_howWrong 130 = .ok (.iconst 3, 1) := by decide +kernel
theorem dX11_howWrong_131 : decode cX11_howWrong 131 = .ok (.invokevirtual 248, 3) := by decide +kernel
theorem dX11_howWrong_134 : decode cX11_howWrong 134 = .ok (.invokevirtual 168, 3) := by decide +kernel
theorem dX11_howWrong_137 : decode cX11_howWrong 137 = .ok (.istore 6, 2) := by decide +kernel
theorem dX11_howWrong_139 : decode cX11_howWrong 139 = .ok (.iload 6, 2) := by decide +kernel
theorem dX11_howWrong_141 : decode cX11_howWrong 141 = .ok (.ifCond .ge 5, 3) := by decide +kernel
theorem dX11_howWrong_144 : decode cX11_howWrong 144 = .ok (.iconst 4, 1) := by decide +kernel
theorem dX11_howWrong_145 : decode cX11_howWrong 145 = .ok (.ireturn, 1) := by decide +kernel
theorem dX11_howWrong_146 : decode cX11_howWrong 146 = .ok (.aload_n 1, 1) := by decide +kernel
theorem dX11_howWrong_147 : decode cX11_howWrong 147 = .ok (.iload 5, 2) := by decide +kernel
theorem dX11_howWrong_149 : decode cX11_howWrong 149 = .ok (.iload_n 3, 1) := by decide +kernel
theorem dX11_howWrong_150 : decode cX11_howWrong 150 = .ok (.iload 4, 2) := by decide +kernel
theorem dX11_howWrong_152 : decode cX11_howWrong 152 = .ok (.invokevirtual 303, 3) := by decide +kernel
theorem dX11_howWrong_155 : decode cX11_howWrong 155 = .ok (.lstore 7, 2) := by decide +kernel
theorem dX11_howWrong_157 : decode cX11_howWrong 157 = .ok (.lload 7, 2) := by decide +kernel
theorem dX11_howWrong_159 : decode cX11_howWrong 159 = .ok (.aload_n 1, 1) := by decide +kernel
theorem dX11_howWrong_160 : decode cX11_howWrong 160 = .ok (.iload 6, 2) := by decide +kernel
theorem dX11_howWrong_162 : decode cX11_howWrong 162 = .ok (.iload_n 3, 1) := by decide +kernel
theorem dX11_howWrong_163 : decode cX11_howWrong 163 = .ok (.iload 4, 2) := by decide +kernel
theorem dX11_howWrong_165 : decode cX11_howWrong 165 = .ok (.invokevirtual 303, 3) := by decide +kernel
theorem dX11_howWrong_168 : decode cX11_howWrong 168 = .ok (.lcmp, 1) := by decide +kernel
theorem dX11_howWrong_169 : decode cX11_howWrong 169 = .ok (.ifCond .eq 5, 3) := by decide +kernel
theorem dX11_howWrong_172 : decode cX11_howWrong 172 = .ok (.iconst 5, 1) := by decide +kernel
theorem dX11_howWrong_173 : decode cX11_howWrong 173 = .ok (.ireturn, 1) := by decide +kernel
theorem dX11_howWrong_174 : decode cX11_howWrong 174 = .ok (.aload_n 1, 1) := by decide +kernel
theorem dX11_howWrong_175 : decode cX11_howWrong 175 = .ok (.iload_n 3, 1) := by decide +kernel
theorem dX11_howWrong_176 : decode cX11_howWrong 176 = .ok (.iload 4, 2) := by decide +kernel
theorem dX11_howWrong_178 : decode cX11_howWrong 178 = .ok (.invokevirtual 200, 3) := by decide +kernel
theorem dX11_howWrong_181 : decode cX11_howWrong 181 = .ok (.lload 7, 2) := by decide +kernel
theorem dX11_howWrong_183 : decode cX11_howWrong 183 = .ok (.lcmp, 1) := by decide +kernel
theorem dX11_howWrong_184 : decode cX11_howWrong 184 = .ok (.ifCond .ge 6, 3) := by decide +kernel
theorem dX11_howWrong_187 : decode cX11_howWrong 187 = .ok (.bipush 6, 2) := by decide +kernel
theorem dX11_howWrong_189 : decode cX11_howWrong 189 = .ok (.ireturn, 1) := by decide +kernel
theorem dX11_howWrong_190 : decode cX11_howWrong 190 = .ok (.aload_n 1, 1) := by decide +kernel
theorem dX11_howWrong_191 : decode cX11_howWrong 191 = .ok (.getfield 230, 3) := by decide +kernel
theorem dX11_howWrong_194 : decode cX11_howWrong 194 = .ok (.iload 5, 2) := by decide +kernel
theorem dX11_howWrong_196 : decode cX11_howWrong 196 = .ok (.iaload, 1) := by decide +kernel
theorem dX11_howWrong_197 : decode cX11_howWrong 197 = .ok (.aload_n 1, 1) := by decide +kernel
theorem dX11_howWrong_198 : decode cX11_howWrong 198 = .ok (.getfield 230, 3) := by decide +kernel
theorem dX11_howWrong_201 : decode cX11_howWrong 201 = .ok (.iload 6, 2) := by decide +kernel
theorem dX11_howWrong_203 : decode cX11_howWrong 203 = .ok (.iaload, 1) := by decide +kernel
theorem dX11_howWrong_204 : decode cX11_howWrong 204 = .ok (.if_icmp .le 7, 3) := by decide +kernel
theorem dX11_howWrong_207 : decode cX11_howWrong 207 = .ok (.iconst 0, 1) := by decide +kernel
theorem dX11_howWrong_208 : decode cX11_howWrong 208 = .ok (.goto 5, 3) := by decide +kernel
theorem dX11_howWrong_211 : decode cX11_howWrong 211 = .ok (.bipush 7, 2) := by decide +kernel
theorem dX11_howWrong_213 : decode cX11_howWrong 213 = .ok (.ireturn, 1) := by decide +kernel
theorem dX11_act_0 : decode cX11_act 0 = .ok (.aload_n 0, 1) := by decide +kernel
theorem dX11_act_1 : decode cX11_act 1 = .ok (.getfield 39, 3) := by decide +kernel
theorem dX11_act_4 : decode cX11_act 4 = .ok (.invokevirtual 306, 3) := by decide +kernel
theorem dX11_act_7 : decode cX11_act 7 = .ok (.aload_n 0, 1) := by decide +kernel
theorem dX11_act_8 : decode cX11_act 8 = .ok (.iload_n 1, 1) := by decide +kernel
theorem dX11_act_9 : decode cX11_act 9 = .ok (.invokevirtual 112, 3) := by decide +kernel
theorem dX11_act_12 : decode cX11_act 12 = .ok (.astore 4, 2) := by decide +kernel
theorem dX11_act_14 : decode cX11_act 14 = .ok (.aload 4, 2) := by decide +kernel
theorem dX11_act_16 : decode cX11_act 16 = .ok (.ifnull 12, 3) := by decide +kernel
theorem dX11_act_19 : decode cX11_act 19 = .ok (.iload_n 2, 1) := by decide +kernel
theorem dX11_act_20 : decode cX11_act 20 = .ok (.ifCond .lt 8, 3) := by decide +kernel
theorem dX11_act_23 : decode cX11_act 23 = .ok (.iload_n 2, 1) := by decide +kernel
theorem dX11_act_24 : decode cX11_act 24 = .ok (.iconst 2, 1) := by decide +kernel
theorem dX11_act_25 : decode cX11_act 25 = .ok (.if_icmp .le 7, 3) := by decide +kernel
theorem dX11_act_28 : decode cX11_act 28 = .ok (.iconst 0, 1) := by decide +kernel
theorem dX11_act_29 : decode cX11_act 29 = .ok (.goto 14, 3) := by decide +kernel
theorem dX11_act_32 : decode cX11_act 32 = .ok (.aload_n 0, 1) := by decide +kernel
theorem dX11_act_33 : decode cX11_act 33 = .ok (.getfield 39, 3) := by decide +kernel
theorem dX11_act_36 : decode cX11_act 36 = .ok (.aload 4, 2) := by decide +kernel
theorem dX11_act_38 : decode cX11_act 38 = .ok (.iload_n 2, 1) := by decide +kernel
theorem dX11_act_39 : decode cX11_act 39 = .ok (.iload_n 3, 1) := by decide +kernel
theorem dX11_act_40 : decode cX11_act 40 = .ok (.invokevirtual 309, 3) := by decide +kernel
theorem dX11_act_43 : decode cX11_act 43 = .ok (.ireturn, 1) := by decide +kernel
theorem dX11_trace_0 : decode cX11_trace 0 = .ok (.iload_n 1, 1) := by decide +kernel
theorem dX11_trace_1 : decode cX11_trace 1 = .ok (.ifCond .lt 38, 3) := by decide +kernel
theorem dX11_trace_4 : decode cX11_trace 4 = .ok (.iload_n 1, 1) := by decide +kernel
theorem dX11_trace_5 : decode cX11_trace 5 = .ok (.aload_n 0, 1) := by decide +kernel
theorem dX11_trace_6 : decode cX11_trace 6 = .ok (.getfield 39, 3) := by decide +kernel
theorem dX11_trace_9 : decode cX11_trace 9 = .ok (.getfield 312, 3) := by decide +kernel
theorem dX11_trace_12 : decode cX11_trace 12 = .ok (.if_icmp .ge 27, 3) := by decide +kernel
theorem dX11_trace_15 : decode cX11_trace 15 = .ok (.iload_n 1, 1) := by decide +kernel
theorem dX11_trace_16 : decode cX11_trace 16 = .ok (.aload_n 0, 1) := by decide +kernel
theorem dX11_trace_17 : decode cX11_trace 17 = .ok (.getfield 39, 3) := by decide +kernel
theorem dX11_trace_20 : decode cX11_trace 20 = .ok (.getfield 315, 3) := by decide +kernel
theorem dX11_trace_23 : decode cX11_trace 23 = .ok (.arraylength, 1) := by decide +kernel
theorem dX11_trace_24 : decode cX11_trace 24 = .ok (.if_icmp .ge 15, 3) := by decide +kernel
theorem dX11_trace_27 : decode cX11_trace 27 = .ok (.aload_n 0, 1) := by decide +kernel
theorem dX11_trace_28 : decode cX11_trace 28 = .ok (.getfield 39, 3) := by decide +kernel
theorem dX11_trace_31 : decode cX11_trace 31 = .ok (.getfield 315, 3) := by decide +kernel
theorem dX11_trace_34 : decode cX11_trace 34 = .ok (.iload_n 1, 1) := by decide +kernel
theorem dX11_trace_35 : decode cX11_trace 35 = .ok (.iaload, 1) := by decide +kernel
theorem dX11_trace_36 : decode cX11_trace 36 = .ok (.goto 4, 3) := by decide +kernel
theorem dX11_trace_39 : decode cX11_trace 39 = .ok (.iconst (-1), 1) := by decide +kernel
theorem dX11_trace_40 : decode cX11_trace 40 = .ok (.ireturn, 1) := by decide +kernel
theorem dX11_count_0 : decode cX11_count 0 = .ok (.iload_n 1, 1) := by decide +kernel
theorem dX11_count_1 : decode cX11_count 1 = .ok (.tableswitch 72 0 4 #[35, 43, 51, 56, 64], 35) := by decide +kernel
theorem dX11_count_36 : decode cX11_count 36 = .ok (.aload_n 0, 1) := by decide +kernel
theorem dX11_count_37 : decode cX11_count 37 = .ok (.getfield 10, 3) := by decide +kernel
theorem dX11_count_40 : decode cX11_count 40 = .ok (.getfield 87, 3) := by decide +kernel
theorem dX11_count_43 : decode cX11_count 43 = .ok (.ireturn, 1) := by decide +kernel
theorem dX11_count_44 : decode cX11_count 44 = .ok (.aload_n 0, 1) := by decide +kernel
theorem dX11_count_45 : decode cX11_count 45 = .ok (.getfield 10, 3) := by decide +kernel
theorem dX11_count_48 : decode cX11_count 48 = .ok (.getfield 77, 3) := by decide +kernel
theorem dX11_count_51 : decode cX11_count 51 = .ok (.ireturn, 1) := by decide +kernel
theorem dX11_count_52 : decode cX11_count 52 = .ok (.aload_n 0, 1) := by decide +kernel
theorem dX11_count_53 : decode cX11_count 53 = .ok (.getfield 100, 3) := by decide +kernel
theorem dX11_count_56 : decode cX11_count 56 = .ok (.ireturn, 1) := by decide +kernel
theorem dX11_count_57 : decode cX11_count 57 = .ok (.aload_n 0, 1) := by decide +kernel
theorem dX11_count_58 : decode cX11_count 58 = .ok (.getfield 32, 3) := by decide +kernel
theorem dX11_count_61 : decode cX11_count 61 = .ok (.getfield 247, 3) := by decide +kernel
theorem dX11_count_64 : decode cX11_count 64 = .ok (.ireturn, 1) := by decide +kernel
theorem dX11_count_65 : decode cX11_count 65 = .ok (.aload_n 0, 1) := by decide +kernel
theorem dX11_count_66 : decode cX11_count 66 = .ok (.getfield 39, 3) := by decide +kernel
theorem dX11_count_69 : decode cX11_count 69 = .ok (.getfield 312, 3) := by decide +kernel
theorem dX11_count_72 : decode cX11_count 72 = .ok (.ireturn, 1) := by decide +kernel
theorem dX11_count_73 : decode cX11_count 73 = .ok (.bipush (-2), 2) := by decide +kernel
theorem dX11_count_75 : decode cX11_count 75 = .ok (.ireturn, 1) := by decide +kernel
theorem dX11_sheet_0 : decode cX11_sheet 0 = .ok (.aload_n 0, 1) := by decide +kernel
theorem dX11_sheet_1 : decode cX11_sheet 1 = .ok (.iload_n 1, 1) := by decide +kernel
theorem dX11_sheet_2 : decode cX11_sheet 2 = .ok (.invokevirtual 318, 3) := by decide +kernel
theorem dX11_sheet_5 : decode cX11_sheet 5 = .ok (.astore 4, 2) := by decide +kernel
theorem dX11_sheet_7 : decode cX11_sheet 7 = .ok (.aload 4, 2) := by decide +kernel
theorem dX11_sheet_9 : decode cX11_sheet 9 = .ok (.ifnull 13, 3) := by decide +kernel
theorem dX11_sheet_12 : decode cX11_sheet 12 = .ok (.iload_n 2, 1) := by decide +kernel
theorem dX11_sheet_13 : decode cX11_sheet 13 = .ok (.iconst (-1), 1) := by decide +kernel
theorem dX11_sheet_14 : decode cX11_sheet 14 = .ok (.if_icmp .lt 8, 3) := by decide +kernel
theorem dX11_sheet_17 : decode cX11_sheet 17 = .ok (.iload_n 2, 1) := by decide +kernel
theorem dX11_sheet_18 : decode cX11_sheet 18 = .ok (.iconst 2, 1) := by decide +kernel
theorem dX11_sheet_19 : decode cX11_sheet 19 = .ok (.if_icmp .le 6, 3) := by decide +kernel
theorem dX11_sheet_22 : decode cX11_sheet 22 = .ok (.bipush (-2), 2) := by decide +kernel
theorem dX11_sheet_24 : decode cX11_sheet 24 = .ok (.ireturn, 1) := by decide +kernel
theorem dX11_sheet_25 : decode cX11_sheet 25 = .ok (.iload_n 2, 1) := by decide +kernel
theorem dX11_sheet_26 : decode cX11_sheet 26 = .ok (.iconst (-1), 1) := by decide +kernel
theorem dX11_sheet_27 : decode cX11_sheet 27 = .ok (.if_icmp .eq 12, 3) := by decide +kernel
theorem dX11_sheet_30 : decode cX11_sheet 30 = .ok (.iload_n 3, 1) := by decide +kernel
theorem dX11_sheet_31 : decode cX11_sheet 31 = .ok (.bipush 40, 2) := by decide +kernel
theorem dX11_sheet_33 : decode cX11_sheet 33 = .ok (.if_icmp .le 6, 3) := by decide +kernel
theorem dX11_sheet_36 : decode cX11_sheet 36 = .ok (.bipush (-2), 2) := by decide +kernel
theorem dX11_sheet_38 : decode cX11_sheet 38 = .ok (.ireturn, 1) := by decide +kernel
theorem dX11_sheet_39 : decode cX11_sheet 39 = .ok (.iload_n 2, 1) := by decide +kernel
theorem dX11_sheet_40 : decode cX11_sheet 40 = .ok (.iconst (-1), 1) := by decide +kernel
theorem dX11_sheet_41 : decode cX11_sheet 41 = .ok (.if_icmp .eq 10, 3) := by decide +kernel
theorem dX11_sheet_44 : decode cX11_sheet 44 = .ok (.iload_n 3, 1) := by decide +kernel
theorem dX11_sheet_45 : decode cX11_sheet 45 = .ok (.ifCond .ge 6, 3) := by decide +kernel
theorem dX11_sheet_48 : decode cX11_sheet 48 = .ok (.bipush (-14), 2) := by decide +kernel
theorem dX11_sheet_50 : decode cX11_sheet 50 = .ok (.ireturn, 1) := by decide +kernel
theorem dX11_sheet_51 : decode cX11_sheet 51 = .ok (.aload 4, 2) := by decide +kernel
theorem dX11_sheet_53 : decode cX11_sheet 53 = .ok (.iload_n 2, 1) := by decide +kernel
theorem dX11_sheet_54 : decode cX11_sheet 54 = .ok (.iload_n 3, 1) := by decide +kernel
theorem dX11_sheet_55 : decode cX11_sheet 55 = .ok (.invokevirtual 322, 3) := by decide +kernel
theorem dX11_sheet_58 : decode cX11_sheet 58 = .ok (.iconst 1, 1) := by decide +kernel
theorem dX11_sheet_59 : decode cX11_sheet 59 = .ok (.ireturn, 1) := by decide +kernel
theorem dX11_cell_0 : decode cX11_cell 0 = .ok (.aload_n 0, 1) := by decide +kernel
theorem dX11_cell_1 : decode cX11_cell 1 = .ok (.iload_n 1, 1) := by decide +kernel
theorem dX11_cell_2 : decode cX11_cell 2 = .ok (.invokevirtual 318, 3) := by decide +kernel
theorem dX11_cell_5 : decode cX11_cell 5 = .ok (.astore 4, 2) := by decide +kernel
theorem dX11_cell_7 : decode cX11_cell 7 = .ok (.aload 4, 2) := by decide +kernel
theorem dX11_cell_9 : decode cX11_cell 9 = .ok (.ifnonnull 6, 3) := by decide +kernel
theorem dX11_cell_12 : decode cX11_cell 12 = .ok (.bipush (-2), 2) := by decide +kernel
theorem dX11_cell_14 : decode cX11_cell 14 = .ok (.ireturn, 1) := by decide +kernel
theorem dX11_cell_15 : decode cX11_cell 15 = .ok (.aload 4, 2) := by decide +kernel
theorem dX11_cell_17 : decode cX11_cell 17 = .ok (.getfield 324, 3) := by decide +kernel
theorem dX11_cell_20 : decode cX11_cell 20 = .ok (.iconst (-1), 1) := by decide +kernel
theorem dX11_cell_21 : decode cX11_cell 21 = .ok (.if_icmp .ne 6, 3) := by decide +kernel
theorem dX11_cell_24 : decode cX11_cell 24 = .ok (.bipush (-11), 2) := by decide +kernel
theorem dX11_cell_26 : decode cX11_cell 26 = .ok (.ireturn, 1) := by decide +kernel
theorem dX11_cell_27 : decode cX11_cell 27 = .ok (.aload 4, 2) := by decide +kernel
theorem dX11_cell_29 : decode cX11_cell 29 = .ok (.iload_n 2, 1) := by decide +kernel
theorem dX11_cell_30 : decode cX11_cell 30 = .ok (.iconst 1, 1) := by decide +kernel
theorem dX11_cell_31 : decode cX11_cell 31 = .ok (.invokevirtual 327, 3) := by decide +kernel
theorem dX11_cell_34 : decode cX11_cell 34 = .ok (.ifCond .ne 6, 3) := by decide +kernel
theorem dX11_cell_37 : decode cX11_cell 37 = .ok (.bipush (-12), 2) := by decide +kernel
theorem dX11_cell_39 : decode cX11_cell 39 = .ok (.ireturn, 1) := by decide +kernel
theorem dX11_cell_40 : decode cX11_cell 40 = .ok (.aload 4, 2) := by decide +kernel
theorem dX11_cell_42 : decode cX11_cell 42 = .ok (.getfield 330, 3) := by decide +kernel
theorem dX11_cell_45 : decode cX11_cell 45 = .ok (.iload_n 2, 1) := by decide +kernel
theorem dX11_cell_46 : decode cX11_cell 46 = .ok (.aload 4, 2) := by decide +kernel
theorem dX11_cell_48 : decode cX11_cell 48 = .ok (.getfield 324, 3) := by decide +kernel
theorem dX11_cell_51 : decode cX11_cell 51 = .ok (.ifCond .ne 9, 3) := by decide +kernel
theorem dX11_cell_54 : decode cX11_cell 54 = .ok (.iload_n 3, 1) := by decide +kernel
theorem dX11_cell_55 : decode cX11_cell 55 = .ok (.i2b, 1) := by decide +kernel
theorem dX11_cell_56 : decode cX11_cell 56 = .ok (.i2l, 1) := by decide +kernel
theorem dX11_cell_57 : decode cX11_cell 57 = .ok (.goto 5, 3) := by decide +kernel
theorem dX11_cell_60 : decode cX11_cell 60 = .ok (.iload_n 3, 1) := by decide +kernel
theorem dX11_cell_61 : decode cX11_cell 61 = .ok (.i2l, 1) := by decide +kernel
theorem dX11_cell_62 : decode cX11_cell 62 = .ok (.lastore, 1) := by decide +kernel
theorem dX11_cell_63 : decode cX11_cell 63 = .ok (.iconst 1, 1) := by decide +kernel
theorem dX11_cell_64 : decode cX11_cell 64 = .ok (.ireturn, 1) := by decide +kernel
theorem dX11_lay_0 : decode cX11_lay 0 = .ok (.aload_n 0, 1) := by decide +kernel
theorem dX11_lay_1 : decode cX11_lay 1 = .ok (.iload_n 1, 1) := by decide +kernel
theorem dX11_lay_2 : decode cX11_lay 2 = .ok (.invokevirtual 318, 3) := by decide +kernel
theorem dX11_lay_5 : decode cX11_lay 5 = .ok (.astore 4, 2) := by decide +kernel
theorem dX11_lay_7 : decode cX11_lay 7 = .ok (.aload 4, 2) := by decide +kernel
theorem dX11_lay_9 : decode cX11_lay 9 = .ok (.ifnull 12, 3) := by decide +kernel
theorem dX11_lay_12 : decode cX11_lay 12 = .ok (.iload_n 2, 1) := by decide +kernel
theorem dX11_lay_13 : decode cX11_lay 13 = .ok (.ifCond .lt 8, 3) := by decide +kernel
theorem dX11_lay_16 : decode cX11_lay 16 = .ok (.iload_n 2, 1) := by decide +kernel
theorem dX11_lay_17 : decode cX11_lay 17 = .ok (.iconst 2, 1) := by decide +kernel
theorem dX11_lay_18 : decode cX11_lay 18 = .ok (.if_icmp .le 6, 3) := by decide +kernel
theorem dX11_lay_21 : decode cX11_lay 21 = .ok (.bipush (-2), 2) := by decide +kernel
theorem dX11_lay_23 : decode cX11_lay 23 = .ok (.ireturn, 1) := by decide +kernel
theorem dX11_lay_24 : decode cX11_lay 24 = .ok (.aload 4, 2) := by decide +kernel
theorem dX11_lay_26 : decode cX11_lay 26 = .ok (.getfield 324, 3) := by decide +kernel
theorem dX11_lay_29 : decode cX11_lay 29 = .ok (.iconst (-1), 1) := by decide +kernel
theorem dX11_lay_30 : decode cX11_lay 30 = .ok (.if_icmp .eq 15, 3) := by decide +kernel
theorem dX11_lay_33 : decode cX11_lay 33 = .ok (.aload 4, 2) := by decide +kernel
theorem dX11_lay_35 : decode cX11_lay 35 = .ok (.getfield 324, 3) := by decide +kernel
theorem dX11_lay_38 : decode cX11_lay 38 = .ok (.iload_n 2, 1) := by decide +kernel
theorem dX11_lay_39 : decode cX11_lay 39 = .ok (.if_icmp .eq 6, 3) := by decide +kernel
theorem dX11_lay_42 : decode cX11_lay 42 = .ok (.bipush (-13), 2) := by decide +kernel
theorem dX11_lay_44 : decode cX11_lay 44 = .ok (.ireturn, 1) := by decide +kernel
theorem dX11_lay_45 : decode cX11_lay 45 = .ok (.aload 4, 2) := by decide +kernel
theorem dX11_lay_47 : decode cX11_lay 47 = .ok (.getfield 324, 3) := by decide +kernel
theorem dX11_lay_50 : decode cX11_lay 50 = .ok (.iconst (-1), 1) := by decide +kernel
theorem dX11_lay_51 : decode cX11_lay 51 = .ok (.if_icmp .ne 6, 3) := by decide +kernel
theorem dX11_lay_54 : decode cX11_lay 54 = .ok (.bipush (-11), 2) := by decide +kernel
theorem dX11_lay_56 : decode cX11_lay 56 = .ok (.ireturn, 1) := by decide +kernel
theorem dX11_lay_57 : decode cX11_lay 57 = .ok (.aload 4, 2) := by decide +kernel
theorem dX11_lay_59 : decode cX11_lay 59 = .ok (.iload_n 3, 1) := by decide +kernel
theorem dX11_lay_60 : decode cX11_lay 60 = .ok (.iconst 4, 1) := by decide +kernel
theorem dX11_lay_61 : decode cX11_lay 61 = .ok (.invokevirtual 327, 3) := by decide +kernel
theorem dX11_lay_64 : decode cX11_lay 64 = .ok (.ifCond .ne 6, 3) := by decide +kernel
theorem dX11_lay_67 : decode cX11_lay 67 = .ok (.bipush (-12), 2) := by decide +kernel
theorem dX11_lay_69 : decode cX11_lay 69 = .ok (.ireturn, 1) := by decide +kernel
theorem dX11_lay_70 : decode cX11_lay 70 = .ok (.aload 4, 2) := by decide +kernel
theorem dX11_lay_72 : decode cX11_lay 72 = .ok (.getfield 330, 3) := by decide +kernel
theorem dX11_lay_75 : decode cX11_lay 75 = .ok (.astore 5, 2) := by decide +kernel
theorem dX11_lay_77 : decode cX11_lay 77 = .ok (.aload_n 0, 1) := by decide +kernel
theorem dX11_lay_78 : decode cX11_lay 78 = .ok (.aload 5, 2) := by decide +kernel
theorem dX11_lay_80 : decode cX11_lay 80 = .ok (.iload_n 3, 1) := by decide +kernel
theorem dX11_lay_81 : decode cX11_lay 81 = .ok (.laload, 1) := by decide +kernel
theorem dX11_lay_82 : decode cX11_lay 82 = .ok (.l2i, 1) := by decide +kernel
theorem dX11_lay_83 : decode cX11_lay 83 = .ok (.aload 5, 2) := by decide +kernel
theorem dX11_lay_85 : decode cX11_lay 85 = .ok (.iload_n 3, 1) := by decide +kernel
theorem dX11_lay_86 : decode cX11_lay 86 = .ok (.iconst 1, 1) := by decide +kernel
theorem dX11_lay_87 : decode cX11_lay 87 = .ok (.iadd, 1) := by decide +kernel
theorem dX11_lay_88 : decode cX11_lay 88 = .ok (.laload, 1) := by decide +kernel
theorem dX11_lay_89 : decode cX11_lay 89 = .ok (.l2i, 1) := by decide +kernel
theorem dX11_lay_90 : decode cX11_lay 90 = .ok (.aload 5, 2) := by decide +kernel
theorem dX11_lay_92 : decode cX11_lay 92 = .ok (.iload_n 3, 1) := by decide +kernel
theorem dX11_lay_93 : decode cX11_lay 93 = .ok (.iconst 2, 1) := by decide +kernel
theorem dX11_lay_94 : decode cX11_lay 94 = .ok (.iadd, 1) := by decide +kernel
theorem dX11_lay_95 : decode cX11_lay 95 = .ok (.laload, 1) := by decide +kernel
theorem dX11_lay_96 : decode cX11_lay 96 = .ok (.l2i, 1) := by decide +kernel
theorem dX11_lay_97 : decode cX11_lay 97 = .ok (.aload 5, 2) := by decide +kernel
theorem dX11_lay_99 : decode cX11_lay 99 = .ok (.iload_n 3, 1) := by decide +kernel
theorem dX11_lay_100 : decode cX11_lay 100 = .ok (.iconst 3, 1) := by decide +kernel
theorem dX11_lay_101 : decode cX11_lay 101 = .ok (.iadd, 1) := by decide +kernel
theorem dX11_lay_102 : decode cX11_lay 102 = .ok (.laload, 1) := by decide +kernel
theorem dX11_lay_103 : decode cX11_lay 103 = .ok (.l2i, 1) := by decide +kernel
theorem dX11_lay_104 : decode cX11_lay 104 = .ok (.invokevirtual 333, 3) := by decide +kernel
theorem dX11_lay_107 : decode cX11_lay 107 = .ok (.ireturn, 1) := by decide +kernel
theorem dX11_copy_0 : decode cX11_copy 0 = .ok (.aload_n 0, 1) := by decide +kernel
theorem dX11_copy_1 : decode cX11_copy 1 = .ok (.iload_n 1, 1) := by decide +kernel
theorem dX11_copy_2 : decode cX11_copy 2 = .ok (.invokevirtual 318, 3) := by decide +kernel
theorem dX11_copy_5 : decode cX11_copy 5 = .ok (.astore 6, 2) := by decide +kernel
theorem dX11_copy_7 : decode cX11_copy 7 = .ok (.aload_n 0, 1) := by decide +kernel
theorem dX11_copy_8 : decode cX11_copy 8 = .ok (.iload_n 3, 1) := by decide +kernel
theorem dX11_copy_9 : decode cX11_copy 9 = .ok (.invokevirtual 318, 3) := by decide +kernel
theorem dX11_copy_12 : decode cX11_copy 12 = .ok (.astore 7, 2) := by decide +kernel
theorem dX11_copy_14 : decode cX11_copy 14 = .ok (.aload 6, 2) := by decide +kernel
theorem dX11_copy_16 : decode cX11_copy 16 = .ok (.ifnull 8, 3) := by decide +kernel
theorem dX11_copy_19 : decode cX11_copy 19 = .ok (.aload 7, 2) := by decide +kernel
theorem dX11_copy_21 : decode cX11_copy 21 = .ok (.ifnonnull 6, 3) := by decide +kernel
theorem dX11_copy_24 : decode cX11_copy 24 = .ok (.bipush (-2), 2) := by decide +kernel
theorem dX11_copy_26 : decode cX11_copy 26 = .ok (.ireturn, 1) := by decide +kernel
theorem dX11_copy_27 : decode cX11_copy 27 = .ok (.aload 6, 2) := by decide +kernel
theorem dX11_copy_29 : decode cX11_copy 29 = .ok (.getfield 324, 3) := by decide +kernel
theorem dX11_copy_32 : decode cX11_copy 32 = .ok (.iconst (-1), 1) := by decide +kernel
theorem dX11_copy_33 : decode cX11_copy 33 = .ok (.if_icmp .eq 12, 3) := by decide +kernel
theorem dX11_copy_36 : decode cX11_copy 36 = .ok (.aload 7, 2) := by decide +kernel
theorem dX11_copy_38 : decode cX11_copy 38 = .ok (.getfield 324, 3) := by decide +kernel
theorem dX11_copy_41 : decode cX11_copy 41 = .ok (.iconst (-1), 1) := by decide +kernel
theorem dX11_copy_42 : decode cX11_copy 42 = .ok (.if_icmp .ne 6, 3) := by decide +kernel
theorem dX11_copy_45 : decode cX11_copy 45 = .ok (.bipush (-11), 2) := by decide +kernel
theorem dX11_copy_47 : decode cX11_copy 47 = .ok (.ireturn, 1) := by decide +kernel
theorem dX11_copy_48 : decode cX11_copy 48 = .ok (.aload 6, 2) := by decide +kernel
theorem dX11_copy_50 : decode cX11_copy 50 = .ok (.getfield 324, 3) := by decide +kernel
theorem dX11_copy_53 : decode cX11_copy 53 = .ok (.aload 7, 2) := by decide +kernel
theorem dX11_copy_55 : decode cX11_copy 55 = .ok (.getfield 324, 3) := by decide +kernel
theorem dX11_copy_58 : decode cX11_copy 58 = .ok (.if_icmp .eq 6, 3) := by decide +kernel
theorem dX11_copy_61 : decode cX11_copy 61 = .ok (.bipush (-13), 2) := by decide +kernel
theorem dX11_copy_63 : decode cX11_copy 63 = .ok (.ireturn, 1) := by decide +kernel
theorem dX11_copy_64 : decode cX11_copy 64 = .ok (.aload 6, 2) := by decide +kernel
theorem dX11_copy_66 : decode cX11_copy 66 = .ok (.iload_n 2, 1) := by decide +kernel
theorem dX11_copy_67 : decode cX11_copy 67 = .ok (.iload 5, 2) := by decide +kernel
theorem dX11_copy_69 : decode cX11_copy 69 = .ok (.invokevirtual 327, 3) := by decide +kernel
theorem dX11_copy_72 : decode cX11_copy 72 = .ok (.ifCond .eq 15, 3) := by decide +kernel
theorem dX11_copy_75 : decode cX11_copy 75 = .ok (.aload 7, 2) := by decide +kernel
theorem dX11_copy_77 : decode cX11_copy 77 = .ok (.iload 4, 2) := by decide +kernel
theorem dX11_copy_79 : decode cX11_copy 79 = .ok (.iload 5, 2) := by decide +kernel
theorem dX11_copy_81 : decode cX11_copy 81 = .ok (.invokevirtual 327, 3) := by decide +kernel
theorem dX11_copy_84 : decode cX11_copy 84 = .ok (.ifCond .ne 6, 3) := by decide +kernel
theorem dX11_copy_87 : decode cX11_copy 87 = .ok (.bipush (-12), 2) := by decide +kernel
theorem dX11_copy_89 : decode cX11_copy 89 = .ok (.ireturn, 1) := by decide +kernel
theorem dX11_copy_90 : decode cX11_copy 90 = .ok (.aload 6, 2) := by decide +kernel
theorem dX11_copy_92 : decode cX11_copy 92 = .ok (.getfield 330, 3) := by decide +kernel
theorem dX11_copy_95 : decode cX11_copy 95 = .ok (.iload_n 2, 1) := by decide +kernel
theorem dX11_copy_96 : decode cX11_copy 96 = .ok (.aload 7, 2) := by decide +kernel
theorem dX11_copy_98 : decode cX11_copy 98 = .ok (.getfield 330, 3) := by decide +kernel
theorem dX11_copy_101 : decode cX11_copy 101 = .ok (.iload 4, 2) := by decide +kernel
theorem dX11_copy_103 : decode cX11_copy 103 = .ok (.iload 5, 2) := by decide +kernel
theorem dX11_copy_105 : decode cX11_copy 105 = .ok (.invokestatic 336, 3) := by decide +kernel
theorem dX11_copy_108 : decode cX11_copy 108 = .ok (.iload 5, 2) := by decide +kernel
theorem dX11_copy_110 : decode cX11_copy 110 = .ok (.ireturn, 1) := by decide +kernel
theorem dX11_sheetAt_0 : decode cX11_sheetAt 0 = .ok (.iload_n 1, 1) := by decide +kernel
theorem dX11_sheetAt_1 : decode cX11_sheetAt 1 = .ok (.ifCond .lt 17, 3) := by decide +kernel
theorem dX11_sheetAt_4 : decode cX11_sheetAt 4 = .ok (.iload_n 1, 1) := by decide +kernel
theorem dX11_sheetAt_5 : decode cX11_sheetAt 5 = .ok (.iconst 4, 1) := by decide +kernel
theorem dX11_sheetAt_6 : decode cX11_sheetAt 6 = .ok (.if_icmp .ge 12, 3) := by decide +kernel
theorem dX11_sheetAt_9 : decode cX11_sheetAt 9 = .ok (.aload_n 0, 1) := by decide +kernel
theorem dX11_sheetAt_10 : decode cX11_sheetAt 10 = .ok (.getfield 45, 3) := by decide +kernel
theorem dX11_sheetAt_13 : decode cX11_sheetAt 13 = .ok (.iload_n 1, 1) := by decide +kernel
theorem dX11_sheetAt_14 : decode cX11_sheetAt 14 = .ok (.aaload, 1) := by decide +kernel
theorem dX11_sheetAt_15 : decode cX11_sheetAt 15 = .ok (.goto 4, 3) := by decide +kernel
theorem dX11_sheetAt_18 : decode cX11_sheetAt 18 = .ok (.aconst_null, 1) := by decide +kernel
theorem dX11_sheetAt_19 : decode cX11_sheetAt 19 = .ok (.areturn, 1) := by decide +kernel
theorem dJ6_bitCount_0f7a4_0 : decode cJ6_bitCount_0f7a4 0 = .ok (.iload_n 0, 1) := by decide +kernel
theorem dJ6_bitCount_0f7a4_1 : decode cJ6_bitCount_0f7a4 1 = .ok (.iload_n 0, 1) := by decide +kernel
theorem dJ6_bitCount_0f7a4_2 : decode cJ6_bitCount_0f7a4 2 = .ok (.iconst 1, 1) := by decide +kernel
theorem dJ6_bitCount_0f7a4_3 : decode cJ6_bitCount_0f7a4 3 = .ok (.iushr, 1) := by decide +kernel
theorem dJ6_bitCount_0f7a4_4 : decode cJ6_bitCount_0f7a4 4 = .ok (.ldc_w 265, 3) := by decide +kernel
theorem dJ6_bitCount_0f7a4_7 : decode cJ6_bitCount_0f7a4 7 = .ok (.iand, 1) := by decide +kernel
theorem dJ6_bitCount_0f7a4_8 : decode cJ6_bitCount_0f7a4 8 = .ok (.isub, 1) := by decide +kernel
theorem dJ6_bitCount_0f7a4_9 : decode cJ6_bitCount_0f7a4 9 = .ok (.istore_n 0, 1) := by decide +kernel
theorem dJ6_bitCount_0f7a4_10 : decode cJ6_bitCount_0f7a4 10 = .ok (.iload_n 0, 1) := by decide +kernel
theorem dJ6_bitCount_0f7a4_11 : decode cJ6_bitCount_0f7a4 11 = .ok (.ldc_w 266, 3) := by decide +kernel
theorem dJ6_bitCount_0f7a4_14 : decode cJ6_bitCount_0f7a4 14 = .ok (.iand, 1) := by decide +kernel
theorem dJ6_bitCount_0f7a4_15 : decode cJ6_bitCount_0f7a4 15 = .ok (.iload_n 0, 1) := by decide +kernel
theorem dJ6_bitCount_0f7a4_16 : decode cJ6_bitCount_0f7a4 16 = .ok (.iconst 2, 1) := by decide +kernel
theorem dJ6_bitCount_0f7a4_17 : decode cJ6_bitCount_0f7a4 17 = .ok (.iushr, 1) := by decide +kernel
theorem dJ6_bitCount_0f7a4_18 : decode cJ6_bitCount_0f7a4 18 = .ok (.ldc_w 266, 3) := by decide +kernel
theorem dJ6_bitCount_0f7a4_21 : decode cJ6_bitCount_0f7a4 21 = .ok (.iand, 1) := by decide +kernel
theorem dJ6_bitCount_0f7a4_22 : decode cJ6_bitCount_0f7a4 22 = .ok (.iadd, 1) := by decide +kernel
theorem dJ6_bitCount_0f7a4_23 : decode cJ6_bitCount_0f7a4 23 = .ok (.istore_n 0, 1) := by decide +kernel
theorem dJ6_bitCount_0f7a4_24 : decode cJ6_bitCount_0f7a4 24 = .ok (.iload_n 0, 1) := by decide +kernel
theorem dJ6_bitCount_0f7a4_25 : decode cJ6_bitCount_0f7a4 25 = .ok (.iload_n 0, 1) := by decide +kernel
theorem dJ6_bitCount_0f7a4_26 : decode cJ6_bitCount_0f7a4 26 = .ok (.iconst 4, 1) := by decide +kernel
theorem dJ6_bitCount_0f7a4_27 : decode cJ6_bitCount_0f7a4 27 = .ok (.iushr, 1) := by decide +kernel
theorem dJ6_bitCount_0f7a4_28 : decode cJ6_bitCount_0f7a4 28 = .ok (.iadd, 1) := by decide +kernel
theorem dJ6_bitCount_0f7a4_29 : decode cJ6_bitCount_0f7a4 29 = .ok (.ldc_w 267, 3) := by decide +kernel
theorem dJ6_bitCount_0f7a4_32 : decode cJ6_bitCount_0f7a4 32 = .ok (.iand, 1) := by decide +kernel
theorem dJ6_bitCount_0f7a4_33 : decode cJ6_bitCount_0f7a4 33 = .ok (.istore_n 0, 1) := by decide +kernel
theorem dJ6_bitCount_0f7a4_34 : decode cJ6_bitCount_0f7a4 34 = .ok (.iload_n 0, 1) := by decide +kernel
theorem dJ6_bitCount_0f7a4_35 : decode cJ6_bitCount_0f7a4 35 = .ok (.iload_n 0, 1) := by decide +kernel
theorem dJ6_bitCount_0f7a4_36 : decode cJ6_bitCount_0f7a4 36 = .ok (.bipush 8, 2) := by decide +kernel
theorem dJ6_bitCount_0f7a4_38 : decode cJ6_bitCount_0f7a4 38 = .ok (.iushr, 1) := by decide +kernel
theorem dJ6_bitCount_0f7a4_39 : decode cJ6_bitCount_0f7a4 39 = .ok (.iadd, 1) := by decide +kernel
theorem dJ6_bitCount_0f7a4_40 : decode cJ6_bitCount_0f7a4 40 = .ok (.istore_n 0, 1) := by decide +kernel
theorem dJ6_bitCount_0f7a4_41 : decode cJ6_bitCount_0f7a4 41 = .ok (.iload_n 0, 1) := by decide +kernel
theorem dJ6_bitCount_0f7a4_42 : decode cJ6_bitCount_0f7a4 42 = .ok (.iload_n 0, 1) := by decide +kernel
theorem dJ6_bitCount_0f7a4_43 : decode cJ6_bitCount_0f7a4 43 = .ok (.bipush 16, 2) := by decide +kernel
theorem dJ6_bitCount_0f7a4_45 : decode cJ6_bitCount_0f7a4 45 = .ok (.iushr, 1) := by decide +kernel
theorem dJ6_bitCount_0f7a4_46 : decode cJ6_bitCount_0f7a4 46 = .ok (.iadd, 1) := by decide +kernel
theorem dJ6_bitCount_0f7a4_47 : decode cJ6_bitCount_0f7a4 47 = .ok (.istore_n 0, 1) := by decide +kernel
theorem dJ6_bitCount_0f7a4_48 : decode cJ6_bitCount_0f7a4 48 = .ok (.iload_n 0, 1) := by decide +kernel
theorem dJ6_bitCount_0f7a4_49 : decode cJ6_bitCount_0f7a4 49 = .ok (.bipush 63, 2) := by decide +kernel
theorem dJ6_bitCount_0f7a4_51 : decode cJ6_bitCount_0f7a4 51 = .ok (.iand, 1) := by decide +kernel
theorem dJ6_bitCount_0f7a4_52 : decode cJ6_bitCount_0f7a4 52 = .ok (.ireturn, 1) := by decide +kernel
theorem dJ9_abs_0f7a4_0 : decode cJ9_abs_0f7a4 0 = .ok (.iload_n 0, 1) := by decide +kernel
theorem dJ9_abs_0f7a4_1 : decode cJ9_abs_0f7a4 1 = .ok (.ifCond .ge 8, 3) := by decide +kernel
theorem dJ9_abs_0f7a4_4 : decode cJ9_abs_0f7a4 4 = .ok (.iload_n 0, 1) := by decide +kernel
theorem dJ9_abs_0f7a4_5 : decode cJ9_abs_0f7a4 5 = .ok (.ineg, 1) := by decide +kernel
theorem dJ9_abs_0f7a4_6 : decode cJ9_abs_0f7a4 6 = .ok (.goto 4, 3) := by decide +kernel
theorem dJ9_abs_0f7a4_9 : decode cJ9_abs_0f7a4 9 = .ok (.iload_n 0, 1) := by decide +kernel
theorem dJ9_abs_0f7a4_10 : decode cJ9_abs_0f7a4 10 = .ok (.ireturn, 1) := by decide +kernel
theorem dJ9_abs_067f4_0 : decode cJ9_abs_067f4 0 = .ok (.lload_n 0, 1) := by decide +kernel
theorem dJ9_abs_067f4_1 : decode cJ9_abs_067f4 1 = .ok (.lconst 0, 1) := by decide +kernel
theorem dJ9_abs_067f4_2 : decode cJ9_abs_067f4 2 = .ok (.lcmp, 1) := by decide +kernel
theorem dJ9_abs_067f4_3 : decode cJ9_abs_067f4 3 = .ok (.ifCond .ge 8, 3) := by decide +kernel
theorem dJ9_abs_067f4_6 : decode cJ9_abs_067f4 6 = .ok (.lload_n 0, 1) := by decide +kernel
theorem dJ9_abs_067f4_7 : decode cJ9_abs_067f4 7 = .ok (.lneg, 1) := by decide +kernel
theorem dJ9_abs_067f4_8 : decode cJ9_abs_067f4 8 = .ok (.goto 4, 3) := by decide +kernel
theorem dJ9_abs_067f4_11 : decode cJ9_abs_067f4 11 = .ok (.lload_n 0, 1) := by decide +kernel
theorem dJ9_abs_067f4_12 : decode cJ9_abs_067f4 12 = .ok (.lreturn, 1) := by decide +kernel
theorem dJ9_min_7cf53_0 : decode cJ9_min_7cf53 0 = .ok (.iload_n 0, 1) := by decide +kernel
theorem dJ9_min_7cf53_1 : decode cJ9_min_7cf53 1 = .ok (.iload_n 1, 1) := by decide +kernel
theorem dJ9_min_7cf53_2 : decode cJ9_min_7cf53 2 = .ok (.if_icmp .gt 7, 3) := by decide +kernel
theorem dJ9_min_7cf53_5 : decode cJ9_min_7cf53 5 = .ok (.iload_n 0, 1) := by decide +kernel
theorem dJ9_min_7cf53_6 : decode cJ9_min_7cf53 6 = .ok (.goto 4, 3) := by decide +kernel
theorem dJ9_min_7cf53_9 : decode cJ9_min_7cf53 9 = .ok (.iload_n 1, 1) := by decide +kernel
theorem dJ9_min_7cf53_10 : decode cJ9_min_7cf53 10 = .ok (.ireturn, 1) := by decide +kernel
theorem dJ7_fill_d0a16_0 : decode cJ7_fill_d0a16 0 = .ok (.iconst 0, 1) := by decide +kernel
theorem dJ7_fill_d0a16_1 : decode cJ7_fill_d0a16 1 = .ok (.istore_n 3, 1) := by decide +kernel
theorem dJ7_fill_d0a16_2 : decode cJ7_fill_d0a16 2 = .ok (.aload_n 0, 1) := by decide +kernel
theorem dJ7_fill_d0a16_3 : decode cJ7_fill_d0a16 3 = .ok (.arraylength, 1) := by decide +kernel
theorem dJ7_fill_d0a16_4 : decode cJ7_fill_d0a16 4 = .ok (.istore 4, 2) := by decide +kernel
theorem dJ7_fill_d0a16_6 : decode cJ7_fill_d0a16 6 = .ok (.iload_n 3, 1) := by decide +kernel
theorem dJ7_fill_d0a16_7 : decode cJ7_fill_d0a16 7 = .ok (.iload 4, 2) := by decide +kernel
theorem dJ7_fill_d0a16_9 : decode cJ7_fill_d0a16 9 = .ok (.if_icmp .ge 13, 3) := by decide +kernel
theorem dJ7_fill_d0a16_12 : decode cJ7_fill_d0a16 12 = .ok (.aload_n 0, 1) := by decide +kernel
theorem dJ7_fill_d0a16_13 : decode cJ7_fill_d0a16 13 = .ok (.iload_n 3, 1) := by decide +kernel
theorem dJ7_fill_d0a16_14 : decode cJ7_fill_d0a16 14 = .ok (.lload_n 1, 1) := by decide +kernel
theorem dJ7_fill_d0a16_15 : decode cJ7_fill_d0a16 15 = .ok (.lastore, 1) := by decide +kernel
theorem dJ7_fill_d0a16_16 : decode cJ7_fill_d0a16 16 = .ok (.iinc 3 1, 3) := by decide +kernel
theorem dJ7_fill_d0a16_19 : decode cJ7_fill_d0a16 19 = .ok (.goto (-13), 3) := by decide +kernel
theorem dJ7_fill_d0a16_22 : decode cJ7_fill_d0a16 22 = .ok (.return_, 1) := by decide +kernel
theorem dJ7_copyOf_59c91_0 : decode cJ7_copyOf_59c91 0 = .ok (.iload_n 1, 1) := by decide +kernel
theorem dJ7_copyOf_59c91_1 : decode cJ7_copyOf_59c91 1 = .ok (.aload_n 0, 1) := by decide +kernel
theorem dJ7_copyOf_59c91_2 : decode cJ7_copyOf_59c91 2 = .ok (.arraylength, 1) := by decide +kernel
theorem dJ7_copyOf_59c91_3 : decode cJ7_copyOf_59c91 3 = .ok (.if_icmp .ne 11, 3) := by decide +kernel
theorem dJ7_copyOf_59c91_6 : decode cJ7_copyOf_59c91 6 = .ok (.aload_n 0, 1) := by decide +kernel
theorem dJ7_copyOf_59c91_7 : decode cJ7_copyOf_59c91 7 = .ok (.invokevirtual 316, 3) := by decide +kernel
theorem dJ7_copyOf_59c91_10 : decode cJ7_copyOf_59c91 10 = .ok (.checkcast 317, 3) := by decide +kernel
theorem dJ7_copyOf_59c91_13 : decode cJ7_copyOf_59c91 13 = .ok (.areturn, 1) := by decide +kernel
theorem dJ7_copyOf_59c91_14 : decode cJ7_copyOf_59c91 14 = .ok (.iload_n 1, 1) := by decide +kernel
theorem dJ7_copyOf_59c91_15 : decode cJ7_copyOf_59c91 15 = .ok (.newarray .int, 2) := by decide +kernel
theorem dJ7_copyOf_59c91_17 : decode cJ7_copyOf_59c91 17 = .ok (.astore_n 2, 1) := by decide +kernel
theorem dJ7_copyOf_59c91_18 : decode cJ7_copyOf_59c91 18 = .ok (.aload_n 0, 1) := by decide +kernel
theorem dJ7_copyOf_59c91_19 : decode cJ7_copyOf_59c91 19 = .ok (.iconst 0, 1) := by decide +kernel
theorem dJ7_copyOf_59c91_20 : decode cJ7_copyOf_59c91 20 = .ok (.aload_n 2, 1) := by decide +kernel
theorem dJ7_copyOf_59c91_21 : decode cJ7_copyOf_59c91 21 = .ok (.iconst 0, 1) := by decide +kernel
theorem dJ7_copyOf_59c91_22 : decode cJ7_copyOf_59c91 22 = .ok (.aload_n 0, 1) := by decide +kernel
theorem dJ7_copyOf_59c91_23 : decode cJ7_copyOf_59c91 23 = .ok (.arraylength, 1) := by decide +kernel
theorem dJ7_copyOf_59c91_24 : decode cJ7_copyOf_59c91 24 = .ok (.iload_n 1, 1) := by decide +kernel
theorem dJ7_copyOf_59c91_25 : decode cJ7_copyOf_59c91 25 = .ok (.invokestatic 304, 3) := by decide +kernel
theorem dJ7_copyOf_59c91_28 : decode cJ7_copyOf_59c91 28 = .ok (.invokestatic 150, 3) := by decide +kernel
theorem dJ7_copyOf_59c91_31 : decode cJ7_copyOf_59c91 31 = .ok (.aload_n 2, 1) := by decide +kernel
theorem dJ7_copyOf_59c91_32 : decode cJ7_copyOf_59c91 32 = .ok (.areturn, 1) := by decide +kernel
