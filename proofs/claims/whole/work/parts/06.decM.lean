theorem dX8_init_0 : decode cX8_init 0 = .ok (.aload_n 0, 1) := by decide +kernel
theorem dX8_init_1 : decode cX8_init 1 = .ok (.invokespecial 1, 3) := by decide +kernel
theorem dX8_init_4 : decode cX8_init 4 = .ok (.aload_n 0, 1) := by decide +kernel
theorem dX8_init_5 : decode cX8_init 5 = .ok (.bipush 6, 2) := by decide +kernel
theorem dX8_init_7 : decode cX8_init 7 = .ok (.newarray .boolean, 2) := by decide +kernel
theorem dX8_init_9 : decode cX8_init 9 = .ok (.putfield 7, 3) := by decide +kernel
theorem dX8_init_12 : decode cX8_init 12 = .ok (.aload_n 0, 1) := by decide +kernel
theorem dX8_init_13 : decode cX8_init 13 = .ok (.bipush 6, 2) := by decide +kernel
theorem dX8_init_15 : decode cX8_init 15 = .ok (.newarray .int, 2) := by decide +kernel
theorem dX8_init_17 : decode cX8_init 17 = .ok (.putfield 13, 3) := by decide +kernel
theorem dX8_init_20 : decode cX8_init 20 = .ok (.aload_n 0, 1) := by decide +kernel
theorem dX8_init_21 : decode cX8_init 21 = .ok (.bipush 6, 2) := by decide +kernel
theorem dX8_init_23 : decode cX8_init 23 = .ok (.newarray .int, 2) := by decide +kernel
theorem dX8_init_25 : decode cX8_init 25 = .ok (.putfield 17, 3) := by decide +kernel
theorem dX8_init_28 : decode cX8_init 28 = .ok (.aload_n 0, 1) := by decide +kernel
theorem dX8_init_29 : decode cX8_init 29 = .ok (.bipush 6, 2) := by decide +kernel
theorem dX8_init_31 : decode cX8_init 31 = .ok (.newarray .boolean, 2) := by decide +kernel
theorem dX8_init_33 : decode cX8_init 33 = .ok (.putfield 20, 3) := by decide +kernel
theorem dX8_init_36 : decode cX8_init 36 = .ok (.aload_n 0, 1) := by decide +kernel
theorem dX8_init_37 : decode cX8_init 37 = .ok (.iconst 3, 1) := by decide +kernel
theorem dX8_init_38 : decode cX8_init 38 = .ok (.newarray .int, 2) := by decide +kernel
theorem dX8_init_40 : decode cX8_init 40 = .ok (.putfield 23, 3) := by decide +kernel
theorem dX8_init_43 : decode cX8_init 43 = .ok (.aload_n 0, 1) := by decide +kernel
theorem dX8_init_44 : decode cX8_init 44 = .ok (.sipush 192, 3) := by decide +kernel
theorem dX8_init_47 : decode cX8_init 47 = .ok (.newarray .int, 2) := by decide +kernel
theorem dX8_init_49 : decode cX8_init 49 = .ok (.putfield 26, 3) := by decide +kernel
theorem dX8_init_52 : decode cX8_init 52 = .ok (.aload_n 0, 1) := by decide +kernel
theorem dX8_init_53 : decode cX8_init 53 = .ok (.sipush 192, 3) := by decide +kernel
theorem dX8_init_56 : decode cX8_init 56 = .ok (.newarray .int, 2) := by decide +kernel
theorem dX8_init_58 : decode cX8_init 58 = .ok (.putfield 29, 3) := by decide +kernel
theorem dX8_init_61 : decode cX8_init 61 = .ok (.aload_n 0, 1) := by decide +kernel
theorem dX8_init_62 : decode cX8_init 62 = .ok (.sipush 192, 3) := by decide +kernel
theorem dX8_init_65 : decode cX8_init 65 = .ok (.newarray .int, 2) := by decide +kernel
theorem dX8_init_67 : decode cX8_init 67 = .ok (.putfield 32, 3) := by decide +kernel
theorem dX8_init_70 : decode cX8_init 70 = .ok (.aload_n 0, 1) := by decide +kernel
theorem dX8_init_71 : decode cX8_init 71 = .ok (.sipush 192, 3) := by decide +kernel
theorem dX8_init_74 : decode cX8_init 74 = .ok (.newarray .boolean, 2) := by decide +kernel
theorem dX8_init_76 : decode cX8_init 76 = .ok (.putfield 35, 3) := by decide +kernel
theorem dX8_init_79 : decode cX8_init 79 = .ok (.aload_n 0, 1) := by decide +kernel
theorem dX8_init_80 : decode cX8_init 80 = .ok (.sipush 192, 3) := by decide +kernel
theorem dX8_init_83 : decode cX8_init 83 = .ok (.newarray .boolean, 2) := by decide +kernel
theorem dX8_init_85 : decode cX8_init 85 = .ok (.putfield 38, 3) := by decide +kernel
theorem dX8_init_88 : decode cX8_init 88 = .ok (.aload_n 0, 1) := by decide +kernel
theorem dX8_init_89 : decode cX8_init 89 = .ok (.sipush 192, 3) := by decide +kernel
theorem dX8_init_92 : decode cX8_init 92 = .ok (.newarray .int, 2) := by decide +kernel
theorem dX8_init_94 : decode cX8_init 94 = .ok (.putfield 41, 3) := by decide +kernel
theorem dX8_init_97 : decode cX8_init 97 = .ok (.aload_n 0, 1) := by decide +kernel
theorem dX8_init_98 : decode cX8_init 98 = .ok (.sipush 192, 3) := by decide +kernel
theorem dX8_init_101 : decode cX8_init 101 = .ok (.newarray .int, 2) := by decide +kernel
theorem dX8_init_103 : decode cX8_init 103 = .ok (.putfield 44, 3) := by decide +kernel
theorem dX8_init_106 : decode cX8_init 106 = .ok (.aload_n 0, 1) := by decide +kernel
theorem dX8_init_107 : decode cX8_init 107 = .ok (.sipush 192, 3) := by decide +kernel
theorem dX8_init_110 : decode cX8_init 110 = .ok (.newarray .boolean, 2) := by decide +kernel
theorem dX8_init_112 : decode cX8_init 112 = .ok (.putfield 47, 3) := by decide +kernel
theorem dX8_init_115 : decode cX8_init 115 = .ok (.aload_n 0, 1) := by decide +kernel
theorem dX8_init_116 : decode cX8_init 116 = .ok (.sipush 192, 3) := by decide +kernel
theorem dX8_init_119 : decode cX8_init 119 = .ok (.newarray .int, 2) := by decide +kernel
theorem dX8_init_121 : decode cX8_init 121 = .ok (.putfield 50, 3) := by decide +kernel
theorem dX8_init_124 : decode cX8_init 124 = .ok (.aload_n 0, 1) := by decide +kernel
theorem dX8_init_125 : decode cX8_init 125 = .ok (.sipush 192, 3) := by decide +kernel
theorem dX8_init_128 : decode cX8_init 128 = .ok (.newarray .boolean, 2) := by decide +kernel
theorem dX8_init_130 : decode cX8_init 130 = .ok (.putfield 53, 3) := by decide +kernel
theorem dX8_init_133 : decode cX8_init 133 = .ok (.aload_n 0, 1) := by decide +kernel
theorem dX8_init_134 : decode cX8_init 134 = .ok (.bipush 24, 2) := by decide +kernel
theorem dX8_init_136 : decode cX8_init 136 = .ok (.newarray .int, 2) := by decide +kernel
theorem dX8_init_138 : decode cX8_init 138 = .ok (.putfield 56, 3) := by decide +kernel
theorem dX8_init_141 : decode cX8_init 141 = .ok (.aload_n 0, 1) := by decide +kernel
theorem dX8_init_142 : decode cX8_init 142 = .ok (.bipush 24, 2) := by decide +kernel
theorem dX8_init_144 : decode cX8_init 144 = .ok (.newarray .int, 2) := by decide +kernel
theorem dX8_init_146 : decode cX8_init 146 = .ok (.putfield 59, 3) := by decide +kernel
theorem dX8_init_149 : decode cX8_init 149 = .ok (.aload_n 0, 1) := by decide +kernel
theorem dX8_init_150 : decode cX8_init 150 = .ok (.bipush 24, 2) := by decide +kernel
theorem dX8_init_152 : decode cX8_init 152 = .ok (.newarray .int, 2) := by decide +kernel
theorem dX8_init_154 : decode cX8_init 154 = .ok (.putfield 62, 3) := by decide +kernel
theorem dX8_init_157 : decode cX8_init 157 = .ok (.aload_n 0, 1) := by decide +kernel
theorem dX8_init_158 : decode cX8_init 158 = .ok (.bipush 24, 2) := by decide +kernel
theorem dX8_init_160 : decode cX8_init 160 = .ok (.newarray .boolean, 2) := by decide +kernel
theorem dX8_init_162 : decode cX8_init 162 = .ok (.putfield 65, 3) := by decide +kernel
theorem dX8_init_165 : decode cX8_init 165 = .ok (.aload_n 0, 1) := by decide +kernel
theorem dX8_init_166 : decode cX8_init 166 = .ok (.bipush 24, 2) := by decide +kernel
theorem dX8_init_168 : decode cX8_init 168 = .ok (.newarray .int, 2) := by decide +kernel
theorem dX8_init_170 : decode cX8_init 170 = .ok (.putfield 68, 3) := by decide +kernel
theorem dX8_init_173 : decode cX8_init 173 = .ok (.aload_n 0, 1) := by decide +kernel
theorem dX8_init_174 : decode cX8_init 174 = .ok (.bipush 24, 2) := by decide +kernel
theorem dX8_init_176 : decode cX8_init 176 = .ok (.newarray .boolean, 2) := by decide +kernel
theorem dX8_init_178 : decode cX8_init 178 = .ok (.putfield 71, 3) := by decide +kernel
theorem dX8_init_181 : decode cX8_init 181 = .ok (.aload_n 0, 1) := by decide +kernel
theorem dX8_init_182 : decode cX8_init 182 = .ok (.bipush 24, 2) := by decide +kernel
theorem dX8_init_184 : decode cX8_init 184 = .ok (.newarray .int, 2) := by decide +kernel
theorem dX8_init_186 : decode cX8_init 186 = .ok (.putfield 74, 3) := by decide +kernel
theorem dX8_init_189 : decode cX8_init 189 = .ok (.aload_n 0, 1) := by decide +kernel
theorem dX8_init_190 : decode cX8_init 190 = .ok (.bipush 48, 2) := by decide +kernel
theorem dX8_init_192 : decode cX8_init 192 = .ok (.newarray .int, 2) := by decide +kernel
theorem dX8_init_194 : decode cX8_init 194 = .ok (.putfield 77, 3) := by decide +kernel
theorem dX8_init_197 : decode cX8_init 197 = .ok (.aload_n 0, 1) := by decide +kernel
theorem dX8_init_198 : decode cX8_init 198 = .ok (.iconst 2, 1) := by decide +kernel
theorem dX8_init_199 : decode cX8_init 199 = .ok (.newarray .int, 2) := by decide +kernel
theorem dX8_init_201 : decode cX8_init 201 = .ok (.putfield 80, 3) := by decide +kernel
theorem dX8_init_204 : decode cX8_init 204 = .ok (.aload_n 0, 1) := by decide +kernel
theorem dX8_init_205 : decode cX8_init 205 = .ok (.bipush 24, 2) := by decide +kernel
theorem dX8_init_207 : decode cX8_init 207 = .ok (.newarray .int, 2) := by decide +kernel
theorem dX8_init_209 : decode cX8_init 209 = .ok (.putfield 83, 3) := by decide +kernel
theorem dX8_init_212 : decode cX8_init 212 = .ok (.aload_n 0, 1) := by decide +kernel
theorem dX8_init_213 : decode cX8_init 213 = .ok (.bipush 24, 2) := by decide +kernel
theorem dX8_init_215 : decode cX8_init 215 = .ok (.newarray .int, 2) := by decide +kernel
theorem dX8_init_217 : decode cX8_init 217 = .ok (.putfield 86, 3) := by decide +kernel
theorem dX8_init_220 : decode cX8_init 220 = .ok (.aload_n 0, 1) := by decide +kernel
theorem dX8_init_221 : decode cX8_init 221 = .ok (.bipush 18, 2) := by decide +kernel
theorem dX8_init_223 : decode cX8_init 223 = .ok (.newarray .int, 2) := by decide +kernel
theorem dX8_init_225 : decode cX8_init 225 = .ok (.putfield 89, 3) := by decide +kernel
theorem dX8_init_228 : decode cX8_init 228 = .ok (.aload_n 0, 1) := by decide +kernel
theorem dX8_init_229 : decode cX8_init 229 = .ok (.bipush 18, 2) := by decide +kernel
theorem dX8_init_231 : decode cX8_init 231 = .ok (.newarray .int, 2) := by decide +kernel
theorem dX8_init_233 : decode cX8_init 233 = .ok (.putfield 92, 3) := by decide +kernel
theorem dX8_init_236 : decode cX8_init 236 = .ok (.aload_n 0, 1) := by decide +kernel
theorem dX8_init_237 : decode cX8_init 237 = .ok (.bipush 18, 2) := by decide +kernel
theorem dX8_init_239 : decode cX8_init 239 = .ok (.newarray .int, 2) := by decide +kernel
theorem dX8_init_241 : decode cX8_init 241 = .ok (.putfield 95, 3) := by decide +kernel
theorem dX8_init_244 : decode cX8_init 244 = .ok (.aload_n 0, 1) := by decide +kernel
theorem dX8_init_245 : decode cX8_init 245 = .ok (.iconst 2, 1) := by decide +kernel
theorem dX8_init_246 : decode cX8_init 246 = .ok (.newarray .int, 2) := by decide +kernel
theorem dX8_init_248 : decode cX8_init 248 = .ok (.putfield 98, 3) := by decide +kernel
theorem dX8_init_251 : decode cX8_init 251 = .ok (.aload_n 0, 1) := by decide +kernel
theorem dX8_init_252 : decode cX8_init 252 = .ok (.bipush 8, 2) := by decide +kernel
theorem dX8_init_254 : decode cX8_init 254 = .ok (.newarray .int, 2) := by decide +kernel
theorem dX8_init_256 : decode cX8_init 256 = .ok (.putfield 101, 3) := by decide +kernel
theorem dX8_init_259 : decode cX8_init 259 = .ok (.aload_n 0, 1) := by decide +kernel
theorem dX8_init_260 : decode cX8_init 260 = .ok (.bipush 8, 2) := by decide +kernel
theorem dX8_init_262 : decode cX8_init 262 = .ok (.newarray .int, 2) := by decide +kernel
theorem dX8_init_264 : decode cX8_init 264 = .ok (.putfield 104, 3) := by decide +kernel
theorem dX8_init_267 : decode cX8_init 267 = .ok (.aload_n 0, 1) := by decide +kernel
theorem dX8_init_268 : decode cX8_init 268 = .ok (.bipush 8, 2) := by decide +kernel
theorem dX8_init_270 : decode cX8_init 270 = .ok (.newarray .boolean, 2) := by decide +kernel
theorem dX8_init_272 : decode cX8_init 272 = .ok (.putfield 107, 3) := by decide +kernel
theorem dX8_init_275 : decode cX8_init 275 = .ok (.aload_n 0, 1) := by decide +kernel
theorem dX8_init_276 : decode cX8_init 276 = .ok (.bipush 8, 2) := by decide +kernel
theorem dX8_init_278 : decode cX8_init 278 = .ok (.newarray .boolean, 2) := by decide +kernel
theorem dX8_init_280 : decode cX8_init 280 = .ok (.putfield 110, 3) := by decide +kernel
theorem dX8_init_283 : decode cX8_init 283 = .ok (.aload_n 0, 1) := by decide +kernel
theorem dX8_init_284 : decode cX8_init 284 = .ok (.bipush 8, 2) := by decide +kernel
theorem dX8_init_286 : decode cX8_init 286 = .ok (.newarray .int, 2) := by decide +kernel
theorem dX8_init_288 : decode cX8_init 288 = .ok (.putfield 113, 3) := by decide +kernel
theorem dX8_init_291 : decode cX8_init 291 = .ok (.aload_n 0, 1) := by decide +kernel
theorem dX8_init_292 : decode cX8_init 292 = .ok (.sipush 192, 3) := by decide +kernel
theorem dX8_init_295 : decode cX8_init 295 = .ok (.newarray .int, 2) := by decide +kernel
theorem dX8_init_297 : decode cX8_init 297 = .ok (.putfield 116, 3) := by decide +kernel
theorem dX8_init_300 : decode cX8_init 300 = .ok (.iconst 0, 1) := by decide +kernel
theorem dX8_init_301 : decode cX8_init 301 = .ok (.istore_n 1, 1) := by decide +kernel
theorem dX8_init_302 : decode cX8_init 302 = .ok (.iload_n 1, 1) := by decide +kernel
theorem dX8_init_303 : decode cX8_init 303 = .ok (.iconst 3, 1) := by decide +kernel
theorem dX8_init_304 : decode cX8_init 304 = .ok (.if_icmp .ge 16, 3) := by decide +kernel
theorem dX8_init_307 : decode cX8_init 307 = .ok (.aload_n 0, 1) := by decide +kernel
theorem dX8_init_308 : decode cX8_init 308 = .ok (.getfield 23, 3) := by decide +kernel
theorem dX8_init_311 : decode cX8_init 311 = .ok (.iload_n 1, 1) := by decide +kernel
theorem dX8_init_312 : decode cX8_init 312 = .ok (.iconst (-1), 1) := by decide +kernel
theorem dX8_init_313 : decode cX8_init 313 = .ok (.iastore, 1) := by decide +kernel
theorem dX8_init_314 : decode cX8_init 314 = .ok (.iinc 1 1, 3) := by decide +kernel
theorem dX8_init_317 : decode cX8_init 317 = .ok (.goto (-15), 3) := by decide +kernel
theorem dX8_init_320 : decode cX8_init 320 = .ok (.iconst 0, 1) := by decide +kernel
theorem dX8_init_321 : decode cX8_init 321 = .ok (.istore_n 1, 1) := by decide +kernel
theorem dX8_init_322 : decode cX8_init 322 = .ok (.iload_n 1, 1) := by decide +kernel
theorem dX8_init_323 : decode cX8_init 323 = .ok (.bipush 18, 2) := by decide +kernel
theorem dX8_init_325 : decode cX8_init 325 = .ok (.if_icmp .ge 16, 3) := by decide +kernel
theorem dX8_init_328 : decode cX8_init 328 = .ok (.aload_n 0, 1) := by decide +kernel
theorem dX8_init_329 : decode cX8_init 329 = .ok (.getfield 89, 3) := by decide +kernel
theorem dX8_init_332 : decode cX8_init 332 = .ok (.iload_n 1, 1) := by decide +kernel
theorem dX8_init_333 : decode cX8_init 333 = .ok (.iconst (-1), 1) := by decide +kernel
theorem dX8_init_334 : decode cX8_init 334 = .ok (.iastore, 1) := by decide +kernel
theorem dX8_init_335 : decode cX8_init 335 = .ok (.iinc 1 1, 3) := by decide +kernel
theorem dX8_init_338 : decode cX8_init 338 = .ok (.goto (-16), 3) := by decide +kernel
theorem dX8_init_341 : decode cX8_init 341 = .ok (.return_, 1) := by decide +kernel
theorem dX8_thrown_0 : decode cX8_thrown 0 = .ok (.aload_n 0, 1) := by decide +kernel
theorem dX8_thrown_1 : decode cX8_thrown 1 = .ok (.getfield 119, 3) := by decide +kernel
theorem dX8_thrown_4 : decode cX8_thrown 4 = .ok (.ireturn, 1) := by decide +kernel
theorem dX8_asked_0 : decode cX8_asked 0 = .ok (.aload_n 0, 1) := by decide +kernel
theorem dX8_asked_1 : decode cX8_asked 1 = .ok (.iload_n 1, 1) := by decide +kernel
theorem dX8_asked_2 : decode cX8_asked 2 = .ok (.ifCond .eq 7, 3) := by decide +kernel
theorem dX8_asked_5 : decode cX8_asked 5 = .ok (.iconst 0, 1) := by decide +kernel
theorem dX8_asked_6 : decode cX8_asked 6 = .ok (.goto 4, 3) := by decide +kernel
theorem dX8_asked_9 : decode cX8_asked 9 = .ok (.iconst 1, 1) := by decide +kernel
theorem dX8_asked_10 : decode cX8_asked 10 = .ok (.putfield 119, 3) := by decide +kernel
theorem dX8_asked_13 : decode cX8_asked 13 = .ok (.iload_n 1, 1) := by decide +kernel
theorem dX8_asked_14 : decode cX8_asked 14 = .ok (.ireturn, 1) := by decide +kernel
theorem dX8_asked__0 : decode cX8_asked_ 0 = .ok (.aload_n 0, 1) := by decide +kernel
theorem dX8_asked__1 : decode cX8_asked_ 1 = .ok (.iload_n 1, 1) := by decide +kernel
theorem dX8_asked__2 : decode cX8_asked_ 2 = .ok (.ifCond .ne 7, 3) := by decide +kernel
theorem dX8_asked__5 : decode cX8_asked_ 5 = .ok (.iconst 1, 1) := by decide +kernel
theorem dX8_asked__6 : decode cX8_asked_ 6 = .ok (.goto 12, 3) := by decide +kernel
theorem dX8_asked__9 : decode cX8_asked_ 9 = .ok (.iload_n 2, 1) := by decide +kernel
theorem dX8_asked__10 : decode cX8_asked_ 10 = .ok (.ifCond .eq 7, 3) := by decide +kernel
theorem dX8_asked__13 : decode cX8_asked_ 13 = .ok (.iconst 0, 1) := by decide +kernel
theorem dX8_asked__14 : decode cX8_asked_ 14 = .ok (.goto 4, 3) := by decide +kernel
theorem dX8_asked__17 : decode cX8_asked_ 17 = .ok (.iconst 2, 1) := by decide +kernel
theorem dX8_asked__18 : decode cX8_asked_ 18 = .ok (.putfield 119, 3) := by decide +kernel
theorem dX8_asked__21 : decode cX8_asked_ 21 = .ok (.aload_n 0, 1) := by decide +kernel
theorem dX8_asked__22 : decode cX8_asked_ 22 = .ok (.getfield 119, 3) := by decide +kernel
theorem dX8_asked__25 : decode cX8_asked_ 25 = .ok (.ifCond .ne 7, 3) := by decide +kernel
theorem dX8_asked__28 : decode cX8_asked_ 28 = .ok (.iconst 1, 1) := by decide +kernel
theorem dX8_asked__29 : decode cX8_asked_ 29 = .ok (.goto 4, 3) := by decide +kernel
theorem dX8_asked__32 : decode cX8_asked_ 32 = .ok (.iconst 0, 1) := by decide +kernel
theorem dX8_asked__33 : decode cX8_asked_ 33 = .ok (.ireturn, 1) := by decide +kernel
theorem dX8_asked___0 : decode cX8_asked__ 0 = .ok (.aload_n 0, 1) := by decide +kernel
theorem dX8_asked___1 : decode cX8_asked__ 1 = .ok (.iload_n 1, 1) := by decide +kernel
theorem dX8_asked___2 : decode cX8_asked__ 2 = .ok (.ifCond .ne 7, 3) := by decide +kernel
theorem dX8_asked___5 : decode cX8_asked__ 5 = .ok (.iconst 1, 1) := by decide +kernel
theorem dX8_asked___6 : decode cX8_asked__ 6 = .ok (.goto 20, 3) := by decide +kernel
theorem dX8_asked___9 : decode cX8_asked__ 9 = .ok (.iload_n 2, 1) := by decide +kernel
theorem dX8_asked___10 : decode cX8_asked__ 10 = .ok (.ifCond .ne 7, 3) := by decide +kernel
theorem dX8_asked___13 : decode cX8_asked__ 13 = .ok (.iconst 2, 1) := by decide +kernel
theorem dX8_asked___14 : decode cX8_asked__ 14 = .ok (.goto 12, 3) := by decide +kernel
theorem dX8_asked___17 : decode cX8_asked__ 17 = .ok (.iload_n 3, 1) := by decide +kernel
theorem dX8_asked___18 : decode cX8_asked__ 18 = .ok (.ifCond .eq 7, 3) := by decide +kernel
theorem dX8_asked___21 : decode cX8_asked__ 21 = .ok (.iconst 0, 1) := by decide +kernel
theorem dX8_asked___22 : decode cX8_asked__ 22 = .ok (.goto 4, 3) := by decide +kernel
theorem dX8_asked___25 : decode cX8_asked__ 25 = .ok (.iconst 3, 1) := by decide +kernel
theorem dX8_asked___26 : decode cX8_asked__ 26 = .ok (.putfield 119, 3) := by decide +kernel
theorem dX8_asked___29 : decode cX8_asked__ 29 = .ok (.aload_n 0, 1) := by decide +kernel
theorem dX8_asked___30 : decode cX8_asked__ 30 = .ok (.getfield 119, 3) := by decide +kernel
theorem dX8_asked___33 : decode cX8_asked__ 33 = .ok (.ifCond .ne 7, 3) := by decide +kernel
theorem dX8_asked___36 : decode cX8_asked__ 36 = .ok (.iconst 1, 1) := by decide +kernel
theorem dX8_asked___37 : decode cX8_asked__ 37 = .ok (.goto 4, 3) := by decide +kernel
theorem dX8_asked___40 : decode cX8_asked__ 40 = .ok (.iconst 0, 1) := by decide +kernel
theorem dX8_asked___41 : decode cX8_asked__ 41 = .ok (.ireturn, 1) := by decide +kernel
theorem dX8_in_0 : decode cX8_in 0 = .ok (.iload_n 0, 1) := by decide +kernel
theorem dX8_in_1 : decode cX8_in 1 = .ok (.iload_n 1, 1) := by decide +kernel
theorem dX8_in_2 : decode cX8_in 2 = .ok (.if_icmp .lt 12, 3) := by decide +kernel
theorem dX8_in_5 : decode cX8_in 5 = .ok (.iload_n 0, 1) := by decide +kernel
theorem dX8_in_6 : decode cX8_in 6 = .ok (.iload_n 2, 1) := by decide +kernel
theorem dX8_in_7 : decode cX8_in 7 = .ok (.if_icmp .gt 7, 3) := by decide +kernel
theorem dX8_in_10 : decode cX8_in 10 = .ok (.iconst 1, 1) := by decide +kernel
theorem dX8_in_11 : decode cX8_in 11 = .ok (.goto 4, 3) := by decide +kernel
theorem dX8_in_14 : decode cX8_in 14 = .ok (.iconst 0, 1) := by decide +kernel
theorem dX8_in_15 : decode cX8_in 15 = .ok (.ireturn, 1) := by decide +kernel
theorem dX8_isSpace_0 : decode cX8_isSpace 0 = .ok (.iload_n 1, 1) := by decide +kernel
theorem dX8_isSpace_1 : decode cX8_isSpace 1 = .ok (.iconst 0, 1) := by decide +kernel
theorem dX8_isSpace_2 : decode cX8_isSpace 2 = .ok (.aload_n 0, 1) := by decide +kernel
theorem dX8_isSpace_3 : decode cX8_isSpace 3 = .ok (.getfield 123, 3) := by decide +kernel
theorem dX8_isSpace_6 : decode cX8_isSpace 6 = .ok (.iconst 1, 1) := by decide +kernel
theorem dX8_isSpace_7 : decode cX8_isSpace 7 = .ok (.isub, 1) := by decide +kernel
theorem dX8_isSpace_8 : decode cX8_isSpace 8 = .ok (.invokestatic 126, 3) := by decide +kernel
theorem dX8_isSpace_11 : decode cX8_isSpace 11 = .ok (.ireturn, 1) := by decide +kernel
theorem dX8_isAlive_0 : decode cX8_isAlive 0 = .ok (.aload_n 0, 1) := by decide +kernel
theorem dX8_isAlive_1 : decode cX8_isAlive 1 = .ok (.iload_n 1, 1) := by decide +kernel
theorem dX8_isAlive_2 : decode cX8_isAlive 2 = .ok (.invokevirtual 130, 3) := by decide +kernel
theorem dX8_isAlive_5 : decode cX8_isAlive 5 = .ok (.ifCond .eq 16, 3) := by decide +kernel
theorem dX8_isAlive_8 : decode cX8_isAlive 8 = .ok (.aload_n 0, 1) := by decide +kernel
theorem dX8_isAlive_9 : decode cX8_isAlive 9 = .ok (.getfield 7, 3) := by decide +kernel
theorem dX8_isAlive_12 : decode cX8_isAlive 12 = .ok (.iload_n 1, 1) := by decide +kernel
theorem dX8_isAlive_13 : decode cX8_isAlive 13 = .ok (.baload, 1) := by decide +kernel
theorem dX8_isAlive_14 : decode cX8_isAlive 14 = .ok (.ifCond .eq 7, 3) := by decide +kernel
theorem dX8_isAlive_17 : decode cX8_isAlive 17 = .ok (.iconst 1, 1) := by decide +kernel
theorem dX8_isAlive_18 : decode cX8_isAlive 18 = .ok (.goto 4, 3) := by decide +kernel
theorem dX8_isAlive_21 : decode cX8_isAlive 21 = .ok (.iconst 0, 1) := by decide +kernel
theorem dX8_isAlive_22 : decode cX8_isAlive 22 = .ok (.ireturn, 1) := by decide +kernel
theorem dX8_isRow_0 : decode cX8_isRow 0 = .ok (.iload_n 0, 1) := by decide +kernel
theorem dX8_isRow_1 : decode cX8_isRow 1 = .ok (.iconst 0, 1) := by decide +kernel
theorem dX8_isRow_2 : decode cX8_isRow 2 = .ok (.bipush 31, 2) := by decide +kernel
theorem dX8_isRow_4 : decode cX8_isRow 4 = .ok (.invokestatic 126, 3) := by decide +kernel
theorem dX8_isRow_7 : decode cX8_isRow 7 = .ok (.ifCond .eq 25, 3) := by decide +kernel
theorem dX8_isRow_10 : decode cX8_isRow 10 = .ok (.iload_n 1, 1) := by decide +kernel
theorem dX8_isRow_11 : decode cX8_isRow 11 = .ok (.iconst 1, 1) := by decide +kernel
theorem dX8_isRow_12 : decode cX8_isRow 12 = .ok (.bipush 32, 2) := by decide +kernel
theorem dX8_isRow_14 : decode cX8_isRow 14 = .ok (.invokestatic 126, 3) := by decide +kernel
theorem dX8_isRow_17 : decode cX8_isRow 17 = .ok (.ifCond .eq 15, 3) := by decide +kernel
theorem dX8_isRow_20 : decode cX8_isRow 20 = .ok (.iload_n 0, 1) := by decide +kernel
theorem dX8_isRow_21 : decode cX8_isRow 21 = .ok (.iload_n 1, 1) := by decide +kernel
theorem dX8_isRow_22 : decode cX8_isRow 22 = .ok (.iadd, 1) := by decide +kernel
theorem dX8_isRow_23 : decode cX8_isRow 23 = .ok (.bipush 32, 2) := by decide +kernel
theorem dX8_isRow_25 : decode cX8_isRow 25 = .ok (.if_icmp .gt 7, 3) := by decide +kernel
theorem dX8_isRow_28 : decode cX8_isRow 28 = .ok (.iconst 1, 1) := by decide +kernel
theorem dX8_isRow_29 : decode cX8_isRow 29 = .ok (.goto 4, 3) := by decide +kernel
theorem dX8_isRow_32 : decode cX8_isRow 32 = .ok (.iconst 0, 1) := by decide +kernel
theorem dX8_isRow_33 : decode cX8_isRow 33 = .ok (.ireturn, 1) := by decide +kernel
theorem dX8_unlist_0 : decode cX8_unlist 0 = .ok (.aload_n 0, 1) := by decide +kernel
theorem dX8_unlist_1 : decode cX8_unlist 1 = .ok (.getfield 62, 3) := by decide +kernel
theorem dX8_unlist_4 : decode cX8_unlist 4 = .ok (.iload_n 1, 1) := by decide +kernel
theorem dX8_unlist_5 : decode cX8_unlist 5 = .ok (.iaload, 1) := by decide +kernel
theorem dX8_unlist_6 : decode cX8_unlist 6 = .ok (.istore_n 2, 1) := by decide +kernel
theorem dX8_unlist_7 : decode cX8_unlist 7 = .ok (.iconst 0, 1) := by decide +kernel
theorem dX8_unlist_8 : decode cX8_unlist 8 = .ok (.istore_n 3, 1) := by decide +kernel
theorem dX8_unlist_9 : decode cX8_unlist 9 = .ok (.iconst 0, 1) := by decide +kernel
theorem dX8_unlist_10 : decode cX8_unlist 10 = .ok (.istore 4, 2) := by decide +kernel
theorem dX8_unlist_12 : decode cX8_unlist 12 = .ok (.iload 4, 2) := by decide +kernel
theorem dX8_unlist_14 : decode cX8_unlist 14 = .ok (.aload_n 0, 1) := by decide +kernel
theorem dX8_unlist_15 : decode cX8_unlist 15 = .ok (.getfield 80, 3) := by decide +kernel
theorem dX8_unlist_18 : decode cX8_unlist 18 = .ok (.iload_n 2, 1) := by decide +kernel
theorem dX8_unlist_19 : decode cX8_unlist 19 = .ok (.iaload, 1) := by decide +kernel
theorem dX8_unlist_20 : decode cX8_unlist 20 = .ok (.if_icmp .ge 50, 3) := by decide +kernel
theorem dX8_unlist_23 : decode cX8_unlist 23 = .ok (.aload_n 0, 1) := by decide +kernel
theorem dX8_unlist_24 : decode cX8_unlist 24 = .ok (.getfield 77, 3) := by decide +kernel
theorem dX8_unlist_27 : decode cX8_unlist 27 = .ok (.bipush 24, 2) := by decide +kernel
theorem dX8_unlist_29 : decode cX8_unlist 29 = .ok (.iload_n 2, 1) := by decide +kernel
theorem dX8_unlist_30 : decode cX8_unlist 30 = .ok (.imul, 1) := by decide +kernel
theorem dX8_unlist_31 : decode cX8_unlist 31 = .ok (.iload 4, 2) := by decide +kernel
theorem dX8_unlist_33 : decode cX8_unlist 33 = .ok (.iadd, 1) := by decide +kernel
theorem dX8_unlist_34 : decode cX8_unlist 34 = .ok (.iaload, 1) := by decide +kernel
theorem dX8_unlist_35 : decode cX8_unlist 35 = .ok (.istore 5, 2) := by decide +kernel
theorem dX8_unlist_37 : decode cX8_unlist 37 = .ok (.aload_n 0, 1) := by decide +kernel
theorem dX8_unlist_38 : decode cX8_unlist 38 = .ok (.getfield 77, 3) := by decide +kernel
theorem dX8_unlist_41 : decode cX8_unlist 41 = .ok (.bipush 24, 2) := by decide +kernel
theorem dX8_unlist_43 : decode cX8_unlist 43 = .ok (.iload_n 2, 1) := by decide +kernel
theorem dX8_unlist_44 : decode cX8_unlist 44 = .ok (.imul, 1) := by decide +kernel
theorem dX8_unlist_45 : decode cX8_unlist 45 = .ok (.iload_n 3, 1) := by decide +kernel
theorem dX8_unlist_46 : decode cX8_unlist 46 = .ok (.iadd, 1) := by decide +kernel
theorem dX8_unlist_47 : decode cX8_unlist 47 = .ok (.iload 5, 2) := by decide +kernel
theorem dX8_unlist_49 : decode cX8_unlist 49 = .ok (.iastore, 1) := by decide +kernel
theorem dX8_unlist_50 : decode cX8_unlist 50 = .ok (.iload_n 3, 1) := by decide +kernel
theorem dX8_unlist_51 : decode cX8_unlist 51 = .ok (.iload 5, 2) := by decide +kernel
theorem dX8_unlist_53 : decode cX8_unlist 53 = .ok (.iload_n 1, 1) := by decide +kernel
theorem dX8_unlist_54 : decode cX8_unlist 54 = .ok (.if_icmp .ne 7, 3) := by decide +kernel
theorem dX8_unlist_57 : decode cX8_unlist 57 = .ok (.iconst 0, 1) := by decide +kernel
theorem dX8_unlist_58 : decode cX8_unlist 58 = .ok (.goto 4, 3) := by decide +kernel
theorem dX8_unlist_61 : decode cX8_unlist 61 = .ok (.iconst 1, 1) := by decide +kernel
theorem dX8_unlist_62 : decode cX8_unlist 62 = .ok (.iadd, 1) := by decide +kernel
theorem dX8_unlist_63 : decode cX8_unlist 63 = .ok (.istore_n 3, 1) := by decide +kernel
theorem dX8_unlist_64 : decode cX8_unlist 64 = .ok (.iinc 4 1, 3) := by decide +kernel
theorem dX8_unlist_67 : decode cX8_unlist 67 = .ok (.goto (-55), 3) := by decide +kernel
theorem dX8_unlist_70 : decode cX8_unlist 70 = .ok (.aload_n 0, 1) := by decide +kernel
theorem dX8_unlist_71 : decode cX8_unlist 71 = .ok (.getfield 80, 3) := by decide +kernel
theorem dX8_unlist_74 : decode cX8_unlist 74 = .ok (.iload_n 2, 1) := by decide +kernel
theorem dX8_unlist_75 : decode cX8_unlist 75 = .ok (.iload_n 3, 1) := by decide +kernel
theorem dX8_unlist_76 : decode cX8_unlist 76 = .ok (.iastore, 1) := by decide +kernel
theorem dX8_unlist_77 : decode cX8_unlist 77 = .ok (.return_, 1) := by decide +kernel
theorem dX8_enlist_0 : decode cX8_enlist 0 = .ok (.aload_n 0, 1) := by decide +kernel
theorem dX8_enlist_1 : decode cX8_enlist 1 = .ok (.getfield 62, 3) := by decide +kernel
theorem dX8_enlist_4 : decode cX8_enlist 4 = .ok (.iload_n 1, 1) := by decide +kernel
theorem dX8_enlist_5 : decode cX8_enlist 5 = .ok (.iload_n 2, 1) := by decide +kernel
theorem dX8_enlist_6 : decode cX8_enlist 6 = .ok (.iastore, 1) := by decide +kernel
theorem dX8_enlist_7 : decode cX8_enlist 7 = .ok (.aload_n 0, 1) := by decide +kernel
theorem dX8_enlist_8 : decode cX8_enlist 8 = .ok (.getfield 77, 3) := by decide +kernel
theorem dX8_enlist_11 : decode cX8_enlist 11 = .ok (.bipush 24, 2) := by decide +kernel
theorem dX8_enlist_13 : decode cX8_enlist 13 = .ok (.iload_n 2, 1) := by decide +kernel
theorem dX8_enlist_14 : decode cX8_enlist 14 = .ok (.imul, 1) := by decide +kernel
theorem dX8_enlist_15 : decode cX8_enlist 15 = .ok (.aload_n 0, 1) := by decide +kernel
theorem dX8_enlist_16 : decode cX8_enlist 16 = .ok (.getfield 80, 3) := by decide +kernel
theorem dX8_enlist_19 : decode cX8_enlist 19 = .ok (.iload_n 2, 1) := by decide +kernel
theorem dX8_enlist_20 : decode cX8_enlist 20 = .ok (.iaload, 1) := by decide +kernel
theorem dX8_enlist_21 : decode cX8_enlist 21 = .ok (.iadd, 1) := by decide +kernel
theorem dX8_enlist_22 : decode cX8_enlist 22 = .ok (.iload_n 1, 1) := by decide +kernel
theorem dX8_enlist_23 : decode cX8_enlist 23 = .ok (.iastore, 1) := by decide +kernel
theorem dX8_enlist_24 : decode cX8_enlist 24 = .ok (.aload_n 0, 1) := by decide +kernel
theorem dX8_enlist_25 : decode cX8_enlist 25 = .ok (.getfield 80, 3) := by decide +kernel
theorem dX8_enlist_28 : decode cX8_enlist 28 = .ok (.iload_n 2, 1) := by decide +kernel
theorem dX8_enlist_29 : decode cX8_enlist 29 = .ok (.dup2, 1) := by decide +kernel
theorem dX8_enlist_30 : decode cX8_enlist 30 = .ok (.iaload, 1) := by decide +kernel
theorem dX8_enlist_31 : decode cX8_enlist 31 = .ok (.iconst 1, 1) := by decide +kernel
theorem dX8_enlist_32 : decode cX8_enlist 32 = .ok (.iadd, 1) := by decide +kernel
theorem dX8_enlist_33 : decode cX8_enlist 33 = .ok (.iastore, 1) := by decide +kernel
theorem dX8_enlist_34 : decode cX8_enlist 34 = .ok (.return_, 1) := by decide +kernel
theorem dX8_shifts_0 : decode cX8_shifts 0 = .ok (.aload_n 0, 1) := by decide +kernel
theorem dX8_shifts_1 : decode cX8_shifts 1 = .ok (.iload_n 1, 1) := by decide +kernel
theorem dX8_shifts_2 : decode cX8_shifts 2 = .ok (.invokevirtual 134, 3) := by decide +kernel
theorem dX8_shifts_5 : decode cX8_shifts 5 = .ok (.aload_n 0, 1) := by decide +kernel
theorem dX8_shifts_6 : decode cX8_shifts 6 = .ok (.iload_n 1, 1) := by decide +kernel
theorem dX8_shifts_7 : decode cX8_shifts 7 = .ok (.iload_n 2, 1) := by decide +kernel
theorem dX8_shifts_8 : decode cX8_shifts 8 = .ok (.invokevirtual 138, 3) := by decide +kernel
theorem dX8_shifts_11 : decode cX8_shifts 11 = .ok (.aload_n 0, 1) := by decide +kernel
theorem dX8_shifts_12 : decode cX8_shifts 12 = .ok (.getfield 65, 3) := by decide +kernel
theorem dX8_shifts_15 : decode cX8_shifts 15 = .ok (.iload_n 1, 1) := by decide +kernel
theorem dX8_shifts_16 : decode cX8_shifts 16 = .ok (.iconst 0, 1) := by decide +kernel
theorem dX8_shifts_17 : decode cX8_shifts 17 = .ok (.bastore, 1) := by decide +kernel
theorem dX8_shifts_18 : decode cX8_shifts 18 = .ok (.return_, 1) := by decide +kernel
theorem dX8_puts_0 : decode cX8_puts 0 = .ok (.aload_n 0, 1) := by decide +kernel
theorem dX8_puts_1 : decode cX8_puts 1 = .ok (.getfield 56, 3) := by decide +kernel
theorem dX8_puts_4 : decode cX8_puts 4 = .ok (.iload_n 1, 1) := by decide +kernel
theorem dX8_puts_5 : decode cX8_puts 5 = .ok (.iload_n 2, 1) := by decide +kernel
theorem dX8_puts_6 : decode cX8_puts 6 = .ok (.iastore, 1) := by decide +kernel
theorem dX8_puts_7 : decode cX8_puts 7 = .ok (.aload_n 0, 1) := by decide +kernel
theorem dX8_puts_8 : decode cX8_puts 8 = .ok (.getfield 59, 3) := by decide +kernel
theorem dX8_puts_11 : decode cX8_puts 11 = .ok (.iload_n 1, 1) := by decide +kernel
theorem dX8_puts_12 : decode cX8_puts 12 = .ok (.iload_n 3, 1) := by decide +kernel
theorem dX8_puts_13 : decode cX8_puts 13 = .ok (.iastore, 1) := by decide +kernel
theorem dX8_puts_14 : decode cX8_puts 14 = .ok (.aload_n 0, 1) := by decide +kernel
theorem dX8_puts_15 : decode cX8_puts 15 = .ok (.getfield 68, 3) := by decide +kernel
theorem dX8_puts_18 : decode cX8_puts 18 = .ok (.iload_n 1, 1) := by decide +kernel
theorem dX8_puts_19 : decode cX8_puts 19 = .ok (.iload 4, 2) := by decide +kernel
theorem dX8_puts_21 : decode cX8_puts 21 = .ok (.iastore, 1) := by decide +kernel
theorem dX8_puts_22 : decode cX8_puts 22 = .ok (.aload_n 0, 1) := by decide +kernel
theorem dX8_puts_23 : decode cX8_puts 23 = .ok (.getfield 71, 3) := by decide +kernel
theorem dX8_puts_26 : decode cX8_puts 26 = .ok (.iload_n 1, 1) := by decide +kernel
theorem dX8_puts_27 : decode cX8_puts 27 = .ok (.iconst 0, 1) := by decide +kernel
theorem dX8_puts_28 : decode cX8_puts 28 = .ok (.bastore, 1) := by decide +kernel
theorem dX8_puts_29 : decode cX8_puts 29 = .ok (.aload_n 0, 1) := by decide +kernel
theorem dX8_puts_30 : decode cX8_puts 30 = .ok (.getfield 65, 3) := by decide +kernel
theorem dX8_puts_33 : decode cX8_puts 33 = .ok (.iload_n 1, 1) := by decide +kernel
theorem dX8_puts_34 : decode cX8_puts 34 = .ok (.iconst 0, 1) := by decide +kernel
theorem dX8_puts_35 : decode cX8_puts 35 = .ok (.bastore, 1) := by decide +kernel
theorem dX8_puts_36 : decode cX8_puts 36 = .ok (.aload_n 0, 1) := by decide +kernel
theorem dX8_puts_37 : decode cX8_puts 37 = .ok (.getfield 74, 3) := by decide +kernel
theorem dX8_puts_40 : decode cX8_puts 40 = .ok (.iload_n 1, 1) := by decide +kernel
theorem dX8_puts_41 : decode cX8_puts 41 = .ok (.iconst (-1), 1) := by decide +kernel
theorem dX8_puts_42 : decode cX8_puts 42 = .ok (.iastore, 1) := by decide +kernel
theorem dX8_puts_43 : decode cX8_puts 43 = .ok (.aload_n 0, 1) := by decide +kernel
theorem dX8_puts_44 : decode cX8_puts 44 = .ok (.iload_n 1, 1) := by decide +kernel
theorem dX8_puts_45 : decode cX8_puts 45 = .ok (.iload 5, 2) := by decide +kernel
theorem dX8_puts_47 : decode cX8_puts 47 = .ok (.invokevirtual 138, 3) := by decide +kernel
theorem dX8_puts_50 : decode cX8_puts 50 = .ok (.return_, 1) := by decide +kernel
theorem dX8_entriesOf_0 : decode cX8_entriesOf 0 = .ok (.iconst 0, 1) := by decide +kernel
theorem dX8_entriesOf_1 : decode cX8_entriesOf 1 = .ok (.istore_n 2, 1) := by decide +kernel
theorem dX8_entriesOf_2 : decode cX8_entriesOf 2 = .ok (.iconst 0, 1) := by decide +kernel
theorem dX8_entriesOf_3 : decode cX8_entriesOf 3 = .ok (.istore_n 3, 1) := by decide +kernel
theorem dX8_entriesOf_4 : decode cX8_entriesOf 4 = .ok (.iload_n 3, 1) := by decide +kernel
theorem dX8_entriesOf_5 : decode cX8_entriesOf 5 = .ok (.sipush 192, 3) := by decide +kernel
theorem dX8_entriesOf_8 : decode cX8_entriesOf 8 = .ok (.if_icmp .ge 26, 3) := by decide +kernel
theorem dX8_entriesOf_11 : decode cX8_entriesOf 11 = .ok (.iload_n 2, 1) := by decide +kernel
theorem dX8_entriesOf_12 : decode cX8_entriesOf 12 = .ok (.aload_n 0, 1) := by decide +kernel
theorem dX8_entriesOf_13 : decode cX8_entriesOf 13 = .ok (.iload_n 3, 1) := by decide +kernel
theorem dX8_entriesOf_14 : decode cX8_entriesOf 14 = .ok (.iload_n 1, 1) := by decide +kernel
theorem dX8_entriesOf_15 : decode cX8_entriesOf 15 = .ok (.invokevirtual 142, 3) := by decide +kernel
theorem dX8_entriesOf_18 : decode cX8_entriesOf 18 = .ok (.ifCond .eq 7, 3) := by decide +kernel
theorem dX8_entriesOf_21 : decode cX8_entriesOf 21 = .ok (.iconst 1, 1) := by decide +kernel
theorem dX8_entriesOf_22 : decode cX8_entriesOf 22 = .ok (.goto 4, 3) := by decide +kernel
theorem dX8_entriesOf_25 : decode cX8_entriesOf 25 = .ok (.iconst 0, 1) := by decide +kernel
theorem dX8_entriesOf_26 : decode cX8_entriesOf 26 = .ok (.iadd, 1) := by decide +kernel
theorem dX8_entriesOf_27 : decode cX8_entriesOf 27 = .ok (.istore_n 2, 1) := by decide +kernel
theorem dX8_entriesOf_28 : decode cX8_entriesOf 28 = .ok (.iinc 3 1, 3) := by decide +kernel
theorem dX8_entriesOf_31 : decode cX8_entriesOf 31 = .ok (.goto (-27), 3) := by decide +kernel
theorem dX8_entriesOf_34 : decode cX8_entriesOf 34 = .ok (.iload_n 2, 1) := by decide +kernel
theorem dX8_entriesOf_35 : decode cX8_entriesOf 35 = .ok (.ireturn, 1) := by decide +kernel
theorem dX8_has_0 : decode cX8_has 0 = .ok (.aload_n 0, 1) := by decide +kernel
theorem dX8_has_1 : decode cX8_has 1 = .ok (.getfield 26, 3) := by decide +kernel
theorem dX8_has_4 : decode cX8_has 4 = .ok (.iload_n 1, 1) := by decide +kernel
theorem dX8_has_5 : decode cX8_has 5 = .ok (.iaload, 1) := by decide +kernel
theorem dX8_has_6 : decode cX8_has 6 = .ok (.ifCond .le 27, 3) := by decide +kernel
theorem dX8_has_9 : decode cX8_has 9 = .ok (.aload_n 0, 1) := by decide +kernel
theorem dX8_has_10 : decode cX8_has 10 = .ok (.getfield 41, 3) := by decide +kernel
theorem dX8_has_13 : decode cX8_has 13 = .ok (.iload_n 1, 1) := by decide +kernel
theorem dX8_has_14 : decode cX8_has 14 = .ok (.iaload, 1) := by decide +kernel
theorem dX8_has_15 : decode cX8_has 15 = .ok (.iconst 1, 1) := by decide +kernel
theorem dX8_has_16 : decode cX8_has 16 = .ok (.if_icmp .ne 17, 3) := by decide +kernel
theorem dX8_has_19 : decode cX8_has 19 = .ok (.aload_n 0, 1) := by decide +kernel
theorem dX8_has_20 : decode cX8_has 20 = .ok (.getfield 44, 3) := by decide +kernel
theorem dX8_has_23 : decode cX8_has 23 = .ok (.iload_n 1, 1) := by decide +kernel
theorem dX8_has_24 : decode cX8_has 24 = .ok (.iaload, 1) := by decide +kernel
theorem dX8_has_25 : decode cX8_has 25 = .ok (.iload_n 2, 1) := by decide +kernel
theorem dX8_has_26 : decode cX8_has 26 = .ok (.if_icmp .ne 7, 3) := by decide +kernel
theorem dX8_has_29 : decode cX8_has 29 = .ok (.iconst 1, 1) := by decide +kernel
theorem dX8_has_30 : decode cX8_has 30 = .ok (.goto 4, 3) := by decide +kernel
theorem dX8_has_33 : decode cX8_has 33 = .ok (.iconst 0, 1) := by decide +kernel
theorem dX8_has_34 : decode cX8_has 34 = .ok (.ireturn, 1) := by decide +kernel
theorem dX8_pagesOf_0 : decode cX8_pagesOf 0 = .ok (.iconst 0, 1) := by decide +kernel
theorem dX8_pagesOf_1 : decode cX8_pagesOf 1 = .ok (.istore_n 2, 1) := by decide +kernel
theorem dX8_pagesOf_2 : decode cX8_pagesOf 2 = .ok (.iconst 0, 1) := by decide +kernel
theorem dX8_pagesOf_3 : decode cX8_pagesOf 3 = .ok (.istore_n 3, 1) := by decide +kernel
theorem dX8_pagesOf_4 : decode cX8_pagesOf 4 = .ok (.iload_n 3, 1) := by decide +kernel
theorem dX8_pagesOf_5 : decode cX8_pagesOf 5 = .ok (.bipush 24, 2) := by decide +kernel
theorem dX8_pagesOf_7 : decode cX8_pagesOf 7 = .ok (.if_icmp .ge 26, 3) := by decide +kernel
theorem dX8_pagesOf_10 : decode cX8_pagesOf 10 = .ok (.iload_n 2, 1) := by decide +kernel
theorem dX8_pagesOf_11 : decode cX8_pagesOf 11 = .ok (.aload_n 0, 1) := by decide +kernel
theorem dX8_pagesOf_12 : decode cX8_pagesOf 12 = .ok (.iload_n 3, 1) := by decide +kernel
theorem dX8_pagesOf_13 : decode cX8_pagesOf 13 = .ok (.iload_n 1, 1) := by decide +kernel
theorem dX8_pagesOf_14 : decode cX8_pagesOf 14 = .ok (.invokevirtual 146, 3) := by decide +kernel
theorem dX8_pagesOf_17 : decode cX8_pagesOf 17 = .ok (.ifCond .eq 7, 3) := by decide +kernel
theorem dX8_pagesOf_20 : decode cX8_pagesOf 20 = .ok (.iconst 1, 1) := by decide +kernel
theorem dX8_pagesOf_21 : decode cX8_pagesOf 21 = .ok (.goto 4, 3) := by decide +kernel
theorem dX8_pagesOf_24 : decode cX8_pagesOf 24 = .ok (.iconst 0, 1) := by decide +kernel
theorem dX8_pagesOf_25 : decode cX8_pagesOf 25 = .ok (.iadd, 1) := by decide +kernel
theorem dX8_pagesOf_26 : decode cX8_pagesOf 26 = .ok (.istore_n 2, 1) := by decide +kernel
theorem dX8_pagesOf_27 : decode cX8_pagesOf 27 = .ok (.iinc 3 1, 3) := by decide +kernel
theorem dX8_pagesOf_30 : decode cX8_pagesOf 30 = .ok (.goto (-26), 3) := by decide +kernel
theorem dX8_pagesOf_33 : decode cX8_pagesOf 33 = .ok (.iload_n 2, 1) := by decide +kernel
theorem dX8_pagesOf_34 : decode cX8_pagesOf 34 = .ok (.ireturn, 1) := by decide +kernel
theorem dX8_isOf_0 : decode cX8_isOf 0 = .ok (.aload_n 0, 1) := by decide +kernel
theorem dX8_isOf_1 : decode cX8_isOf 1 = .ok (.getfield 56, 3) := by decide +kernel
theorem dX8_isOf_4 : decode cX8_isOf 4 = .ok (.iload_n 1, 1) := by decide +kernel
theorem dX8_isOf_5 : decode cX8_isOf 5 = .ok (.iaload, 1) := by decide +kernel
theorem dX8_isOf_6 : decode cX8_isOf 6 = .ok (.ifCond .eq 22, 3) := by decide +kernel
theorem dX8_isOf_9 : decode cX8_isOf 9 = .ok (.iload_n 2, 1) := by decide +kernel
theorem dX8_isOf_10 : decode cX8_isOf 10 = .ok (.iconst (-1), 1) := by decide +kernel
theorem dX8_isOf_11 : decode cX8_isOf 11 = .ok (.if_icmp .eq 13, 3) := by decide +kernel
theorem dX8_isOf_14 : decode cX8_isOf 14 = .ok (.aload_n 0, 1) := by decide +kernel
theorem dX8_isOf_15 : decode cX8_isOf 15 = .ok (.getfield 68, 3) := by decide +kernel
theorem dX8_isOf_18 : decode cX8_isOf 18 = .ok (.iload_n 1, 1) := by decide +kernel
theorem dX8_isOf_19 : decode cX8_isOf 19 = .ok (.iaload, 1) := by decide +kernel
theorem dX8_isOf_20 : decode cX8_isOf 20 = .ok (.iload_n 2, 1) := by decide +kernel
theorem dX8_isOf_21 : decode cX8_isOf 21 = .ok (.if_icmp .ne 7, 3) := by decide +kernel
theorem dX8_isOf_24 : decode cX8_isOf 24 = .ok (.iconst 1, 1) := by decide +kernel
theorem dX8_isOf_25 : decode cX8_isOf 25 = .ok (.goto 4, 3) := by decide +kernel
theorem dX8_isOf_28 : decode cX8_isOf 28 = .ok (.iconst 0, 1) := by decide +kernel
theorem dX8_isOf_29 : decode cX8_isOf 29 = .ok (.ireturn, 1) := by decide +kernel
theorem dX8_listed_0 : decode cX8_listed 0 = .ok (.iconst 0, 1) := by decide +kernel
theorem dX8_listed_1 : decode cX8_listed 1 = .ok (.istore_n 3, 1) := by decide +kernel
theorem dX8_listed_2 : decode cX8_listed 2 = .ok (.iconst 0, 1) := by decide +kernel
theorem dX8_listed_3 : decode cX8_listed 3 = .ok (.istore 4, 2) := by decide +kernel
theorem dX8_listed_5 : decode cX8_listed 5 = .ok (.iload 4, 2) := by decide +kernel
theorem dX8_listed_7 : decode cX8_listed 7 = .ok (.aload_n 0, 1) := by decide +kernel
theorem dX8_listed_8 : decode cX8_listed 8 = .ok (.getfield 80, 3) := by decide +kernel
theorem dX8_listed_11 : decode cX8_listed 11 = .ok (.iload_n 2, 1) := by decide +kernel
theorem dX8_listed_12 : decode cX8_listed 12 = .ok (.iaload, 1) := by decide +kernel
theorem dX8_listed_13 : decode cX8_listed 13 = .ok (.if_icmp .ge 37, 3) := by decide +kernel
theorem dX8_listed_16 : decode cX8_listed 16 = .ok (.iload_n 3, 1) := by decide +kernel
theorem dX8_listed_17 : decode cX8_listed 17 = .ok (.aload_n 0, 1) := by decide +kernel
theorem dX8_listed_18 : decode cX8_listed 18 = .ok (.aload_n 0, 1) := by decide +kernel
theorem dX8_listed_19 : decode cX8_listed 19 = .ok (.getfield 77, 3) := by decide +kernel
theorem dX8_listed_22 : decode cX8_listed 22 = .ok (.bipush 24, 2) := by decide +kernel
theorem dX8_listed_24 : decode cX8_listed 24 = .ok (.iload_n 2, 1) := by decide +kernel
theorem dX8_listed_25 : decode cX8_listed 25 = .ok (.imul, 1) := by decide +kernel
theorem dX8_listed_26 : decode cX8_listed 26 = .ok (.iload 4, 2) := by decide +kernel
theorem dX8_listed_28 : decode cX8_listed 28 = .ok (.iadd, 1) := by decide +kernel
theorem dX8_listed_29 : decode cX8_listed 29 = .ok (.iaload, 1) := by decide +kernel
theorem dX8_listed_30 : decode cX8_listed 30 = .ok (.iload_n 1, 1) := by decide +kernel
theorem dX8_listed_31 : decode cX8_listed 31 = .ok (.invokevirtual 146, 3) := by decide +kernel
theorem dX8_listed_34 : decode cX8_listed 34 = .ok (.ifCond .eq 7, 3) := by decide +kernel
theorem dX8_listed_37 : decode cX8_listed 37 = .ok (.iconst 1, 1) := by decide +kernel
theorem dX8_listed_38 : decode cX8_listed 38 = .ok (.goto 4, 3) := by decide +kernel
theorem dX8_listed_41 : decode cX8_listed 41 = .ok (.iconst 0, 1) := by decide +kernel
theorem dX8_listed_42 : decode cX8_listed 42 = .ok (.iadd, 1) := by decide +kernel
theorem dX8_listed_43 : decode cX8_listed 43 = .ok (.istore_n 3, 1) := by decide +kernel
theorem dX8_listed_44 : decode cX8_listed 44 = .ok (.iinc 4 1, 3) := by decide +kernel
theorem dX8_listed_47 : decode cX8_listed 47 = .ok (.goto (-42), 3) := by decide +kernel
theorem dX8_listed_50 : decode cX8_listed 50 = .ok (.iload_n 3, 1) := by decide +kernel
theorem dX8_listed_51 : decode cX8_listed 51 = .ok (.ireturn, 1) := by decide +kernel
theorem dX8_firstOf_0 : decode cX8_firstOf 0 = .ok (.iconst 0, 1) := by decide +kernel
theorem dX8_firstOf_1 : decode cX8_firstOf 1 = .ok (.istore_n 3, 1) := by decide +kernel
theorem dX8_firstOf_2 : decode cX8_firstOf 2 = .ok (.iload_n 3, 1) := by decide +kernel
theorem dX8_firstOf_3 : decode cX8_firstOf 3 = .ok (.aload_n 0, 1) := by decide +kernel
theorem dX8_firstOf_4 : decode cX8_firstOf 4 = .ok (.getfield 80, 3) := by decide +kernel
theorem dX8_firstOf_7 : decode cX8_firstOf 7 = .ok (.iload_n 2, 1) := by decide +kernel
theorem dX8_firstOf_8 : decode cX8_firstOf 8 = .ok (.iaload, 1) := by decide +kernel
theorem dX8_firstOf_9 : decode cX8_firstOf 9 = .ok (.if_icmp .ge 40, 3) := by decide +kernel
theorem dX8_firstOf_12 : decode cX8_firstOf 12 = .ok (.aload_n 0, 1) := by decide +kernel
theorem dX8_firstOf_13 : decode cX8_firstOf 13 = .ok (.aload_n 0, 1) := by decide +kernel
theorem dX8_firstOf_14 : decode cX8_firstOf 14 = .ok (.getfield 77, 3) := by decide +kernel
theorem dX8_firstOf_17 : decode cX8_firstOf 17 = .ok (.bipush 24, 2) := by decide +kernel
theorem dX8_firstOf_19 : decode cX8_firstOf 19 = .ok (.iload_n 2, 1) := by decide +kernel
theorem dX8_firstOf_20 : decode cX8_firstOf 20 = .ok (.imul, 1) := by decide +kernel
theorem dX8_firstOf_21 : decode cX8_firstOf 21 = .ok (.iload_n 3, 1) := by decide +kernel
theorem dX8_firstOf_22 : decode cX8_firstOf 22 = .ok (.iadd, 1) := by decide +kernel
theorem dX8_firstOf_23 : decode cX8_firstOf 23 = .ok (.iaload, 1) := by decide +kernel
theorem dX8_firstOf_24 : decode cX8_firstOf 24 = .ok (.iload_n 1, 1) := by decide +kernel
theorem dX8_firstOf_25 : decode cX8_firstOf 25 = .ok (.invokevirtual 146, 3) := by decide +kernel
theorem dX8_firstOf_28 : decode cX8_firstOf 28 = .ok (.ifCond .eq 15, 3) := by decide +kernel
theorem dX8_firstOf_31 : decode cX8_firstOf 31 = .ok (.aload_n 0, 1) := by decide +kernel
theorem dX8_firstOf_32 : decode cX8_firstOf 32 = .ok (.getfield 77, 3) := by decide +kernel
theorem dX8_firstOf_35 : decode cX8_firstOf 35 = .ok (.bipush 24, 2) := by decide +kernel
theorem dX8_firstOf_37 : decode cX8_firstOf 37 = .ok (.iload_n 2, 1) := by decide +kernel
theorem dX8_firstOf_38 : decode cX8_firstOf 38 = .ok (.imul, 1) := by decide +kernel
theorem dX8_firstOf_39 : decode cX8_firstOf 39 = .ok (.iload_n 3, 1) := by decide +kernel
theorem dX8_firstOf_40 : decode cX8_firstOf 40 = .ok (.iadd, 1) := by decide +kernel
theorem dX8_firstOf_41 : decode cX8_firstOf 41 = .ok (.iaload, 1) := by decide +kernel
theorem dX8_firstOf_42 : decode cX8_firstOf 42 = .ok (.ireturn, 1) := by decide +kernel
theorem dX8_firstOf_43 : decode cX8_firstOf 43 = .ok (.iinc 3 1, 3) := by decide +kernel
theorem dX8_firstOf_46 : decode cX8_firstOf 46 = .ok (.goto (-44), 3) := by decide +kernel
theorem dX8_firstOf_49 : decode cX8_firstOf 49 = .ok (.iconst (-1), 1) := by decide +kernel
theorem dX8_firstOf_50 : decode cX8_firstOf 50 = .ok (.ireturn, 1) := by decide +kernel
theorem dX8_tells_0 : decode cX8_tells 0 = .ok (.iconst 0, 1) := by decide +kernel
theorem dX8_tells_1 : decode cX8_tells 1 = .ok (.istore_n 2, 1) := by decide +kernel
theorem dX8_tells_2 : decode cX8_tells 2 = .ok (.iload_n 2, 1) := by decide +kernel
theorem dX8_tells_3 : decode cX8_tells 3 = .ok (.bipush 8, 2) := by decide +kernel
theorem dX8_tells_5 : decode cX8_tells 5 = .ok (.if_icmp .ge 47, 3) := by decide +kernel
theorem dX8_tells_8 : decode cX8_tells 8 = .ok (.aload_n 0, 1) := by decide +kernel
theorem dX8_tells_9 : decode cX8_tells 9 = .ok (.getfield 110, 3) := by decide +kernel
theorem dX8_tells_12 : decode cX8_tells 12 = .ok (.iload_n 2, 1) := by decide +kernel
theorem dX8_tells_13 : decode cX8_tells 13 = .ok (.dup2, 1) := by decide +kernel
theorem dX8_tells_14 : decode cX8_tells 14 = .ok (.baload, 1) := by decide +kernel
theorem dX8_tells_15 : decode cX8_tells 15 = .ok (.iload_n 2, 1) := by decide +kernel
theorem dX8_tells_16 : decode cX8_tells 16 = .ok (.iconst 4, 1) := by decide +kernel
theorem dX8_tells_17 : decode cX8_tells 17 = .ok (.irem, 1) := by decide +kernel
theorem dX8_tells_18 : decode cX8_tells 18 = .ok (.aload_n 0, 1) := by decide +kernel
theorem dX8_tells_19 : decode cX8_tells 19 = .ok (.getfield 98, 3) := by decide +kernel
theorem dX8_tells_22 : decode cX8_tells 22 = .ok (.iload_n 2, 1) := by decide +kernel
theorem dX8_tells_23 : decode cX8_tells 23 = .ok (.iconst 4, 1) := by decide +kernel
theorem dX8_tells_24 : decode cX8_tells 24 = .ok (.idiv, 1) := by decide +kernel
theorem dX8_tells_25 : decode cX8_tells 25 = .ok (.iaload, 1) := by decide +kernel
theorem dX8_tells_26 : decode cX8_tells 26 = .ok (.if_icmp .ge 17, 3) := by decide +kernel
theorem dX8_tells_29 : decode cX8_tells 29 = .ok (.aload_n 0, 1) := by decide +kernel
theorem dX8_tells_30 : decode cX8_tells 30 = .ok (.getfield 101, 3) := by decide +kernel
theorem dX8_tells_33 : decode cX8_tells 33 = .ok (.iload_n 2, 1) := by decide +kernel
theorem dX8_tells_34 : decode cX8_tells 34 = .ok (.iaload, 1) := by decide +kernel
theorem dX8_tells_35 : decode cX8_tells 35 = .ok (.iload_n 1, 1) := by decide +kernel
theorem dX8_tells_36 : decode cX8_tells 36 = .ok (.if_icmp .ne 7, 3) := by decide +kernel
theorem dX8_tells_39 : decode cX8_tells 39 = .ok (.iconst 1, 1) := by decide +kernel
theorem dX8_tells_40 : decode cX8_tells 40 = .ok (.goto 4, 3) := by decide +kernel
theorem dX8_tells_43 : decode cX8_tells 43 = .ok (.iconst 0, 1) := by decide +kernel
theorem dX8_tells_44 : decode cX8_tells 44 = .ok (.ior, 1) := by decide +kernel
theorem dX8_tells_45 : decode cX8_tells 45 = .ok (.bastore, 1) := by decide +kernel
theorem dX8_tells_46 : decode cX8_tells 46 = .ok (.iinc 2 1, 3) := by decide +kernel
theorem dX8_tells_49 : decode cX8_tells 49 = .ok (.goto (-47), 3) := by decide +kernel
theorem dX8_tells_52 : decode cX8_tells 52 = .ok (.return_, 1) := by decide +kernel
theorem dX8_handles_0 : decode cX8_handles 0 = .ok (.iconst 0, 1) := by decide +kernel
theorem dX8_handles_1 : decode cX8_handles 1 = .ok (.istore_n 2, 1) := by decide +kernel
theorem dX8_handles_2 : decode cX8_handles 2 = .ok (.iconst 4, 1) := by decide +kernel
theorem dX8_handles_3 : decode cX8_handles 3 = .ok (.iload_n 1, 1) := by decide +kernel
theorem dX8_handles_4 : decode cX8_handles 4 = .ok (.imul, 1) := by decide +kernel
theorem dX8_handles_5 : decode cX8_handles 5 = .ok (.istore_n 3, 1) := by decide +kernel
theorem dX8_handles_6 : decode cX8_handles 6 = .ok (.iconst 4, 1) := by decide +kernel
theorem dX8_handles_7 : decode cX8_handles 7 = .ok (.iload_n 1, 1) := by decide +kernel
theorem dX8_handles_8 : decode cX8_handles 8 = .ok (.imul, 1) := by decide +kernel
theorem dX8_handles_9 : decode cX8_handles 9 = .ok (.istore 4, 2) := by decide +kernel
theorem dX8_handles_11 : decode cX8_handles 11 = .ok (.iload 4, 2) := by decide +kernel
theorem dX8_handles_13 : decode cX8_handles 13 = .ok (.iconst 4, 1) := by decide +kernel
theorem dX8_handles_14 : decode cX8_handles 14 = .ok (.iload_n 1, 1) := by decide +kernel
theorem dX8_handles_15 : decode cX8_handles 15 = .ok (.imul, 1) := by decide +kernel
theorem dX8_handles_16 : decode cX8_handles 16 = .ok (.aload_n 0, 1) := by decide +kernel
theorem dX8_handles_17 : decode cX8_handles 17 = .ok (.getfield 98, 3) := by decide +kernel
theorem dX8_handles_20 : decode cX8_handles 20 = .ok (.iload_n 1, 1) := by decide +kernel
theorem dX8_handles_21 : decode cX8_handles 21 = .ok (.iaload, 1) := by decide +kernel
theorem dX8_handles_22 : decode cX8_handles 22 = .ok (.iadd, 1) := by decide +kernel
theorem dX8_handles_23 : decode cX8_handles 23 = .ok (.if_icmp .ge 74, 3) := by decide +kernel
theorem dX8_handles_26 : decode cX8_handles 26 = .ok (.aload_n 0, 1) := by decide +kernel
theorem dX8_handles_27 : decode cX8_handles 27 = .ok (.getfield 110, 3) := by decide +kernel
theorem dX8_handles_30 : decode cX8_handles 30 = .ok (.iload 4, 2) := by decide +kernel
theorem dX8_handles_32 : decode cX8_handles 32 = .ok (.baload, 1) := by decide +kernel
theorem dX8_handles_33 : decode cX8_handles 33 = .ok (.ifCond .eq 9, 3) := by decide +kernel
theorem dX8_handles_36 : decode cX8_handles 36 = .ok (.iinc 2 1, 3) := by decide +kernel
theorem dX8_handles_39 : decode cX8_handles 39 = .ok (.goto 52, 3) := by decide +kernel
theorem dX8_handles_42 : decode cX8_handles 42 = .ok (.aload_n 0, 1) := by decide +kernel
theorem dX8_handles_43 : decode cX8_handles 43 = .ok (.getfield 101, 3) := by decide +kernel
theorem dX8_handles_46 : decode cX8_handles 46 = .ok (.iload_n 3, 1) := by decide +kernel
theorem dX8_handles_47 : decode cX8_handles 47 = .ok (.aload_n 0, 1) := by decide +kernel
theorem dX8_handles_48 : decode cX8_handles 48 = .ok (.getfield 101, 3) := by decide +kernel
theorem dX8_handles_51 : decode cX8_handles 51 = .ok (.iload 4, 2) := by decide +kernel
theorem dX8_handles_53 : decode cX8_handles 53 = .ok (.iaload, 1) := by decide +kernel
theorem dX8_handles_54 : decode cX8_handles 54 = .ok (.iastore, 1) := by decide +kernel
theorem dX8_handles_55 : decode cX8_handles 55 = .ok (.aload_n 0, 1) := by decide +kernel
theorem dX8_handles_56 : decode cX8_handles 56 = .ok (.getfield 104, 3) := by decide +kernel
theorem dX8_handles_59 : decode cX8_handles 59 = .ok (.iload_n 3, 1) := by decide +kernel
theorem dX8_handles_60 : decode cX8_handles 60 = .ok (.aload_n 0, 1) := by decide +kernel
theorem dX8_handles_61 : decode cX8_handles 61 = .ok (.getfield 104, 3) := by decide +kernel
theorem dX8_handles_64 : decode cX8_handles 64 = .ok (.iload 4, 2) := by decide +kernel
theorem dX8_handles_66 : decode cX8_handles 66 = .ok (.iaload, 1) := by decide +kernel
theorem dX8_handles_67 : decode cX8_handles 67 = .ok (.iastore, 1) := by decide +kernel
theorem dX8_handles_68 : decode cX8_handles 68 = .ok (.aload_n 0, 1) := by decide +kernel
theorem dX8_handles_69 : decode cX8_handles 69 = .ok (.getfield 107, 3) := by decide +kernel
theorem dX8_handles_72 : decode cX8_handles 72 = .ok (.iload_n 3, 1) := by decide +kernel
theorem dX8_handles_73 : decode cX8_handles 73 = .ok (.aload_n 0, 1) := by decide +kernel
theorem dX8_handles_74 : decode cX8_handles 74 = .ok (.getfield 107, 3) := by decide +kernel
theorem dX8_handles_77 : decode cX8_handles 77 = .ok (.iload 4, 2) := by decide +kernel
theorem dX8_handles_79 : decode cX8_handles 79 = .ok (.baload, 1) := by decide +kernel
theorem dX8_handles_80 : decode cX8_handles 80 = .ok (.bastore, 1) := by decide +kernel
theorem dX8_handles_81 : decode cX8_handles 81 = .ok (.aload_n 0, 1) := by decide +kernel
theorem dX8_handles_82 : decode cX8_handles 82 = .ok (.getfield 110, 3) := by decide +kernel
theorem dX8_handles_85 : decode cX8_handles 85 = .ok (.iload_n 3, 1) := by decide +kernel
theorem dX8_handles_86 : decode cX8_handles 86 = .ok (.iconst 0, 1) := by decide +kernel
theorem dX8_handles_87 : decode cX8_handles 87 = .ok (.bastore, 1) := by decide +kernel
theorem dX8_handles_88 : decode cX8_handles 88 = .ok (.iinc 3 1, 3) := by decide +kernel
theorem dX8_handles_91 : decode cX8_handles 91 = .ok (.iinc 4 1, 3) := by decide +kernel
theorem dX8_handles_94 : decode cX8_handles 94 = .ok (.goto (-83), 3) := by decide +kernel
theorem dX8_handles_97 : decode cX8_handles 97 = .ok (.aload_n 0, 1) := by decide +kernel
theorem dX8_handles_98 : decode cX8_handles 98 = .ok (.getfield 98, 3) := by decide +kernel
theorem dX8_handles_101 : decode cX8_handles 101 = .ok (.iload_n 1, 1) := by decide +kernel
theorem dX8_handles_102 : decode cX8_handles 102 = .ok (.iload_n 3, 1) := by decide +kernel
theorem dX8_handles_103 : decode cX8_handles 103 = .ok (.iconst 4, 1) := by decide +kernel
theorem dX8_handles_104 : decode cX8_handles 104 = .ok (.iload_n 1, 1) := by decide +kernel
theorem dX8_handles_105 : decode cX8_handles 105 = .ok (.imul, 1) := by decide +kernel
theorem dX8_handles_106 : decode cX8_handles 106 = .ok (.isub, 1) := by decide +kernel
theorem dX8_handles_107 : decode cX8_handles 107 = .ok (.iastore, 1) := by decide +kernel
theorem dX8_handles_108 : decode cX8_handles 108 = .ok (.iload_n 2, 1) := by decide +kernel
theorem dX8_handles_109 : decode cX8_handles 109 = .ok (.ireturn, 1) := by decide +kernel
theorem dX8_lingers_0 : decode cX8_lingers 0 = .ok (.iconst 0, 1) := by decide +kernel
theorem dX8_lingers_1 : decode cX8_lingers 1 = .ok (.istore_n 2, 1) := by decide +kernel
theorem dX8_lingers_2 : decode cX8_lingers 2 = .ok (.iconst 0, 1) := by decide +kernel
theorem dX8_lingers_3 : decode cX8_lingers 3 = .ok (.istore_n 3, 1) := by decide +kernel
theorem dX8_lingers_4 : decode cX8_lingers 4 = .ok (.iload_n 3, 1) := by decide +kernel
theorem dX8_lingers_5 : decode cX8_lingers 5 = .ok (.bipush 8, 2) := by decide +kernel
theorem dX8_lingers_7 : decode cX8_lingers 7 = .ok (.if_icmp .ge 50, 3) := by decide +kernel
theorem dX8_lingers_10 : decode cX8_lingers 10 = .ok (.aload_n 0, 1) := by decide +kernel
theorem dX8_lingers_11 : decode cX8_lingers 11 = .ok (.getfield 56, 3) := by decide +kernel
theorem dX8_lingers_14 : decode cX8_lingers 14 = .ok (.iload_n 1, 1) := by decide +kernel
theorem dX8_lingers_15 : decode cX8_lingers 15 = .ok (.iaload, 1) := by decide +kernel
theorem dX8_lingers_16 : decode cX8_lingers 16 = .ok (.ifCond .ne 41, 3) := by decide +kernel
theorem dX8_lingers_19 : decode cX8_lingers 19 = .ok (.iload_n 2, 1) := by decide +kernel
theorem dX8_lingers_20 : decode cX8_lingers 20 = .ok (.iload_n 3, 1) := by decide +kernel
theorem dX8_lingers_21 : decode cX8_lingers 21 = .ok (.iconst 4, 1) := by decide +kernel
theorem dX8_lingers_22 : decode cX8_lingers 22 = .ok (.irem, 1) := by decide +kernel
theorem dX8_lingers_23 : decode cX8_lingers 23 = .ok (.aload_n 0, 1) := by decide +kernel
theorem dX8_lingers_24 : decode cX8_lingers 24 = .ok (.getfield 98, 3) := by decide +kernel
theorem dX8_lingers_27 : decode cX8_lingers 27 = .ok (.iload_n 3, 1) := by decide +kernel
theorem dX8_lingers_28 : decode cX8_lingers 28 = .ok (.iconst 4, 1) := by decide +kernel
theorem dX8_lingers_29 : decode cX8_lingers 29 = .ok (.idiv, 1) := by decide +kernel
theorem dX8_lingers_30 : decode cX8_lingers 30 = .ok (.iaload, 1) := by decide +kernel
theorem dX8_lingers_31 : decode cX8_lingers 31 = .ok (.if_icmp .ge 17, 3) := by decide +kernel
theorem dX8_lingers_34 : decode cX8_lingers 34 = .ok (.aload_n 0, 1) := by decide +kernel
theorem dX8_lingers_35 : decode cX8_lingers 35 = .ok (.getfield 104, 3) := by decide +kernel
theorem dX8_lingers_38 : decode cX8_lingers 38 = .ok (.iload_n 3, 1) := by decide +kernel
theorem dX8_lingers_39 : decode cX8_lingers 39 = .ok (.iaload, 1) := by decide +kernel
theorem dX8_lingers_40 : decode cX8_lingers 40 = .ok (.iload_n 1, 1) := by decide +kernel
theorem dX8_lingers_41 : decode cX8_lingers 41 = .ok (.if_icmp .ne 7, 3) := by decide +kernel
theorem dX8_lingers_44 : decode cX8_lingers 44 = .ok (.iconst 1, 1) := by decide +kernel
theorem dX8_lingers_45 : decode cX8_lingers 45 = .ok (.goto 4, 3) := by decide +kernel
theorem dX8_lingers_48 : decode cX8_lingers 48 = .ok (.iconst 0, 1) := by decide +kernel
theorem dX8_lingers_49 : decode cX8_lingers 49 = .ok (.ior, 1) := by decide +kernel
theorem dX8_lingers_50 : decode cX8_lingers 50 = .ok (.istore_n 2, 1) := by decide +kernel
theorem dX8_lingers_51 : decode cX8_lingers 51 = .ok (.iinc 3 1, 3) := by decide +kernel
theorem dX8_lingers_54 : decode cX8_lingers 54 = .ok (.goto (-50), 3) := by decide +kernel
theorem dX8_lingers_57 : decode cX8_lingers 57 = .ok (.iload_n 2, 1) := by decide +kernel
theorem dX8_lingers_58 : decode cX8_lingers 58 = .ok (.ireturn, 1) := by decide +kernel
theorem dX8_unblocks_0 : decode cX8_unblocks 0 = .ok (.iconst 0, 1) := by decide +kernel
theorem dX8_unblocks_1 : decode cX8_unblocks 1 = .ok (.istore_n 2, 1) := by decide +kernel
theorem dX8_unblocks_2 : decode cX8_unblocks 2 = .ok (.iload_n 2, 1) := by decide +kernel
theorem dX8_unblocks_3 : decode cX8_unblocks 3 = .ok (.iconst 4, 1) := by decide +kernel
theorem dX8_unblocks_4 : decode cX8_unblocks 4 = .ok (.if_icmp .ge 22, 3) := by decide +kernel
theorem dX8_unblocks_7 : decode cX8_unblocks 7 = .ok (.aload_n 0, 1) := by decide +kernel
theorem dX8_unblocks_8 : decode cX8_unblocks 8 = .ok (.getfield 53, 3) := by decide +kernel
theorem dX8_unblocks_11 : decode cX8_unblocks 11 = .ok (.iload_n 1, 1) := by decide +kernel
theorem dX8_unblocks_12 : decode cX8_unblocks 12 = .ok (.iconst 4, 1) := by decide +kernel
theorem dX8_unblocks_13 : decode cX8_unblocks 13 = .ok (.idiv, 1) := by decide +kernel
theorem dX8_unblocks_14 : decode cX8_unblocks 14 = .ok (.iconst 4, 1) := by decide +kernel
theorem dX8_unblocks_15 : decode cX8_unblocks 15 = .ok (.imul, 1) := by decide +kernel
theorem dX8_unblocks_16 : decode cX8_unblocks 16 = .ok (.iload_n 2, 1) := by decide +kernel
theorem dX8_unblocks_17 : decode cX8_unblocks 17 = .ok (.iadd, 1) := by decide +kernel
theorem dX8_unblocks_18 : decode cX8_unblocks 18 = .ok (.iconst 0, 1) := by decide +kernel
theorem dX8_unblocks_19 : decode cX8_unblocks 19 = .ok (.bastore, 1) := by decide +kernel
theorem dX8_unblocks_20 : decode cX8_unblocks 20 = .ok (.iinc 2 1, 3) := by decide +kernel
theorem dX8_unblocks_23 : decode cX8_unblocks 23 = .ok (.goto (-21), 3) := by decide +kernel
theorem dX8_unblocks_26 : decode cX8_unblocks 26 = .ok (.return_, 1) := by decide +kernel
theorem dX8_unwrites_0 : decode cX8_unwrites 0 = .ok (.aload_n 0, 1) := by decide +kernel
theorem dX8_unwrites_1 : decode cX8_unwrites 1 = .ok (.getfield 41, 3) := by decide +kernel
theorem dX8_unwrites_4 : decode cX8_unwrites 4 = .ok (.iload_n 1, 1) := by decide +kernel
theorem dX8_unwrites_5 : decode cX8_unwrites 5 = .ok (.iaload, 1) := by decide +kernel
theorem dX8_unwrites_6 : decode cX8_unwrites 6 = .ok (.iconst 1, 1) := by decide +kernel
theorem dX8_unwrites_7 : decode cX8_unwrites 7 = .ok (.if_icmp .ne 24, 3) := by decide +kernel
theorem dX8_unwrites_10 : decode cX8_unwrites 10 = .ok (.aload_n 0, 1) := by decide +kernel
theorem dX8_unwrites_11 : decode cX8_unwrites 11 = .ok (.getfield 47, 3) := by decide +kernel
theorem dX8_unwrites_14 : decode cX8_unwrites 14 = .ok (.iload_n 1, 1) := by decide +kernel
theorem dX8_unwrites_15 : decode cX8_unwrites 15 = .ok (.baload, 1) := by decide +kernel
theorem dX8_unwrites_16 : decode cX8_unwrites 16 = .ok (.ifCond .eq 15, 3) := by decide +kernel
theorem dX8_unwrites_19 : decode cX8_unwrites 19 = .ok (.aload_n 0, 1) := by decide +kernel
theorem dX8_unwrites_20 : decode cX8_unwrites 20 = .ok (.getfield 47, 3) := by decide +kernel
theorem dX8_unwrites_23 : decode cX8_unwrites 23 = .ok (.iload_n 1, 1) := by decide +kernel
theorem dX8_unwrites_24 : decode cX8_unwrites 24 = .ok (.iconst 0, 1) := by decide +kernel
theorem dX8_unwrites_25 : decode cX8_unwrites 25 = .ok (.bastore, 1) := by decide +kernel
theorem dX8_unwrites_26 : decode cX8_unwrites 26 = .ok (.aload_n 0, 1) := by decide +kernel
theorem dX8_unwrites_27 : decode cX8_unwrites 27 = .ok (.iload_n 1, 1) := by decide +kernel
theorem dX8_unwrites_28 : decode cX8_unwrites 28 = .ok (.invokevirtual 149, 3) := by decide +kernel
theorem dX8_unwrites_31 : decode cX8_unwrites 31 = .ok (.return_, 1) := by decide +kernel
theorem dX8_leaves_0 : decode cX8_leaves 0 = .ok (.aload_n 0, 1) := by decide +kernel
theorem dX8_leaves_1 : decode cX8_leaves 1 = .ok (.getfield 41, 3) := by decide +kernel
theorem dX8_leaves_4 : decode cX8_leaves 4 = .ok (.iload_n 1, 1) := by decide +kernel
theorem dX8_leaves_5 : decode cX8_leaves 5 = .ok (.iaload, 1) := by decide +kernel
theorem dX8_leaves_6 : decode cX8_leaves 6 = .ok (.istore_n 2, 1) := by decide +kernel
theorem dX8_leaves_7 : decode cX8_leaves 7 = .ok (.aload_n 0, 1) := by decide +kernel
theorem dX8_leaves_8 : decode cX8_leaves 8 = .ok (.getfield 41, 3) := by decide +kernel
theorem dX8_leaves_11 : decode cX8_leaves 11 = .ok (.iload_n 1, 1) := by decide +kernel
theorem dX8_leaves_12 : decode cX8_leaves 12 = .ok (.iconst 0, 1) := by decide +kernel
theorem dX8_leaves_13 : decode cX8_leaves 13 = .ok (.iastore, 1) := by decide +kernel
theorem dX8_leaves_14 : decode cX8_leaves 14 = .ok (.aload_n 0, 1) := by decide +kernel
theorem dX8_leaves_15 : decode cX8_leaves 15 = .ok (.iload_n 1, 1) := by decide +kernel
theorem dX8_leaves_16 : decode cX8_leaves 16 = .ok (.invokevirtual 152, 3) := by decide +kernel
theorem dX8_leaves_19 : decode cX8_leaves 19 = .ok (.iload_n 2, 1) := by decide +kernel
theorem dX8_leaves_20 : decode cX8_leaves 20 = .ok (.iconst 1, 1) := by decide +kernel
theorem dX8_leaves_21 : decode cX8_leaves 21 = .ok (.if_icmp .ne 61, 3) := by decide +kernel
theorem dX8_leaves_24 : decode cX8_leaves 24 = .ok (.aload_n 0, 1) := by decide +kernel
theorem dX8_leaves_25 : decode cX8_leaves 25 = .ok (.iload_n 1, 1) := by decide +kernel
theorem dX8_leaves_26 : decode cX8_leaves 26 = .ok (.invokevirtual 149, 3) := by decide +kernel
theorem dX8_leaves_29 : decode cX8_leaves 29 = .ok (.aload_n 0, 1) := by decide +kernel
theorem dX8_leaves_30 : decode cX8_leaves 30 = .ok (.getfield 56, 3) := by decide +kernel
theorem dX8_leaves_33 : decode cX8_leaves 33 = .ok (.aload_n 0, 1) := by decide +kernel
theorem dX8_leaves_34 : decode cX8_leaves 34 = .ok (.getfield 44, 3) := by decide +kernel
theorem dX8_leaves_37 : decode cX8_leaves 37 = .ok (.iload_n 1, 1) := by decide +kernel
theorem dX8_leaves_38 : decode cX8_leaves 38 = .ok (.iaload, 1) := by decide +kernel
theorem dX8_leaves_39 : decode cX8_leaves 39 = .ok (.iaload, 1) := by decide +kernel
theorem dX8_leaves_40 : decode cX8_leaves 40 = .ok (.iconst 1, 1) := by decide +kernel
theorem dX8_leaves_41 : decode cX8_leaves 41 = .ok (.if_icmp .ne 140, 3) := by decide +kernel
theorem dX8_leaves_44 : decode cX8_leaves 44 = .ok (.aload_n 0, 1) := by decide +kernel
theorem dX8_leaves_45 : decode cX8_leaves 45 = .ok (.aload_n 0, 1) := by decide +kernel
theorem dX8_leaves_46 : decode cX8_leaves 46 = .ok (.getfield 44, 3) := by decide +kernel
theorem dX8_leaves_49 : decode cX8_leaves 49 = .ok (.iload_n 1, 1) := by decide +kernel
theorem dX8_leaves_50 : decode cX8_leaves 50 = .ok (.iaload, 1) := by decide +kernel
theorem dX8_leaves_51 : decode cX8_leaves 51 = .ok (.invokevirtual 155, 3) := by decide +kernel
theorem dX8_leaves_54 : decode cX8_leaves 54 = .ok (.ifCond .ne 127, 3) := by decide +kernel
theorem dX8_leaves_57 : decode cX8_leaves 57 = .ok (.aload_n 0, 1) := by decide +kernel
theorem dX8_leaves_58 : decode cX8_leaves 58 = .ok (.aload_n 0, 1) := by decide +kernel
theorem dX8_leaves_59 : decode cX8_leaves 59 = .ok (.getfield 44, 3) := by decide +kernel
theorem dX8_leaves_62 : decode cX8_leaves 62 = .ok (.iload_n 1, 1) := by decide +kernel
theorem dX8_leaves_63 : decode cX8_leaves 63 = .ok (.iaload, 1) := by decide +kernel
theorem dX8_leaves_64 : decode cX8_leaves 64 = .ok (.invokevirtual 134, 3) := by decide +kernel
theorem dX8_leaves_67 : decode cX8_leaves 67 = .ok (.aload_n 0, 1) := by decide +kernel
theorem dX8_leaves_68 : decode cX8_leaves 68 = .ok (.getfield 56, 3) := by decide +kernel
theorem dX8_leaves_71 : decode cX8_leaves 71 = .ok (.aload_n 0, 1) := by decide +kernel
theorem dX8_leaves_72 : decode cX8_leaves 72 = .ok (.getfield 44, 3) := by decide +kernel
theorem dX8_leaves_75 : decode cX8_leaves 75 = .ok (.iload_n 1, 1) := by decide +kernel
theorem dX8_leaves_76 : decode cX8_leaves 76 = .ok (.iaload, 1) := by decide +kernel
theorem dX8_leaves_77 : decode cX8_leaves 77 = .ok (.iconst 0, 1) := by decide +kernel
theorem dX8_leaves_78 : decode cX8_leaves 78 = .ok (.iastore, 1) := by decide +kernel
theorem dX8_leaves_79 : decode cX8_leaves 79 = .ok (.goto 102, 3) := by decide +kernel
theorem dX8_leaves_82 : decode cX8_leaves 82 = .ok (.iload_n 2, 1) := by decide +kernel
theorem dX8_leaves_83 : decode cX8_leaves 83 = .ok (.iconst 2, 1) := by decide +kernel
theorem dX8_leaves_84 : decode cX8_leaves 84 = .ok (.if_icmp .ne 97, 3) := by decide +kernel
theorem dX8_leaves_87 : decode cX8_leaves 87 = .ok (.iconst 0, 1) := by decide +kernel
theorem dX8_leaves_88 : decode cX8_leaves 88 = .ok (.istore_n 3, 1) := by decide +kernel
theorem dX8_leaves_89 : decode cX8_leaves 89 = .ok (.iconst 0, 1) := by decide +kernel
theorem dX8_leaves_90 : decode cX8_leaves 90 = .ok (.istore 4, 2) := by decide +kernel
theorem dX8_leaves_92 : decode cX8_leaves 92 = .ok (.iload 4, 2) := by decide +kernel
theorem dX8_leaves_94 : decode cX8_leaves 94 = .ok (.sipush 192, 3) := by decide +kernel
theorem dX8_leaves_97 : decode cX8_leaves 97 = .ok (.if_icmp .ge 54, 3) := by decide +kernel
theorem dX8_leaves_100 : decode cX8_leaves 100 = .ok (.iload_n 3, 1) := by decide +kernel
theorem dX8_leaves_101 : decode cX8_leaves 101 = .ok (.aload_n 0, 1) := by decide +kernel
theorem dX8_leaves_102 : decode cX8_leaves 102 = .ok (.getfield 26, 3) := by decide +kernel
theorem dX8_leaves_105 : decode cX8_leaves 105 = .ok (.iload 4, 2) := by decide +kernel
theorem dX8_leaves_107 : decode cX8_leaves 107 = .ok (.iaload, 1) := by decide +kernel
theorem dX8_leaves_108 : decode cX8_leaves 108 = .ok (.ifCond .le 34, 3) := by decide +kernel
theorem dX8_leaves_111 : decode cX8_leaves 111 = .ok (.aload_n 0, 1) := by decide +kernel
theorem dX8_leaves_112 : decode cX8_leaves 112 = .ok (.getfield 41, 3) := by decide +kernel
theorem dX8_leaves_115 : decode cX8_leaves 115 = .ok (.iload 4, 2) := by decide +kernel
theorem dX8_leaves_117 : decode cX8_leaves 117 = .ok (.iaload, 1) := by decide +kernel
theorem dX8_leaves_118 : decode cX8_leaves 118 = .ok (.iconst 2, 1) := by decide +kernel
theorem dX8_leaves_119 : decode cX8_leaves 119 = .ok (.if_icmp .ne 23, 3) := by decide +kernel
theorem dX8_leaves_122 : decode cX8_leaves 122 = .ok (.aload_n 0, 1) := by decide +kernel
theorem dX8_leaves_123 : decode cX8_leaves 123 = .ok (.getfield 50, 3) := by decide +kernel
theorem dX8_leaves_126 : decode cX8_leaves 126 = .ok (.iload 4, 2) := by decide +kernel
theorem dX8_leaves_128 : decode cX8_leaves 128 = .ok (.iaload, 1) := by decide +kernel
theorem dX8_leaves_129 : decode cX8_leaves 129 = .ok (.aload_n 0, 1) := by decide +kernel
theorem dX8_leaves_130 : decode cX8_leaves 130 = .ok (.getfield 50, 3) := by decide +kernel
theorem dX8_leaves_133 : decode cX8_leaves 133 = .ok (.iload_n 1, 1) := by decide +kernel
theorem dX8_leaves_134 : decode cX8_leaves 134 = .ok (.iaload, 1) := by decide +kernel
theorem dX8_leaves_135 : decode cX8_leaves 135 = .ok (.if_icmp .ne 7, 3) := by decide +kernel
theorem dX8_leaves_138 : decode cX8_leaves 138 = .ok (.iconst 1, 1) := by decide +kernel
theorem dX8_leaves_139 : decode cX8_leaves 139 = .ok (.goto 4, 3) := by decide +kernel
theorem dX8_leaves_142 : decode cX8_leaves 142 = .ok (.iconst 0, 1) := by decide +kernel
theorem dX8_leaves_143 : decode cX8_leaves 143 = .ok (.ior, 1) := by decide +kernel
theorem dX8_leaves_144 : decode cX8_leaves 144 = .ok (.istore_n 3, 1) := by decide +kernel
theorem dX8_leaves_145 : decode cX8_leaves 145 = .ok (.iinc 4 1, 3) := by decide +kernel
theorem dX8_leaves_148 : decode cX8_leaves 148 = .ok (.goto (-56), 3) := by decide +kernel
theorem dX8_leaves_151 : decode cX8_leaves 151 = .ok (.aload_n 0, 1) := by decide +kernel
theorem dX8_leaves_152 : decode cX8_leaves 152 = .ok (.getfield 89, 3) := by decide +kernel
theorem dX8_leaves_155 : decode cX8_leaves 155 = .ok (.aload_n 0, 1) := by decide +kernel
theorem dX8_leaves_156 : decode cX8_leaves 156 = .ok (.getfield 50, 3) := by decide +kernel
theorem dX8_leaves_159 : decode cX8_leaves 159 = .ok (.iload_n 1, 1) := by decide +kernel
theorem dX8_leaves_160 : decode cX8_leaves 160 = .ok (.iaload, 1) := by decide +kernel
theorem dX8_leaves_161 : decode cX8_leaves 161 = .ok (.iload_n 3, 1) := by decide +kernel
theorem dX8_leaves_162 : decode cX8_leaves 162 = .ok (.ifCond .eq 17, 3) := by decide +kernel
theorem dX8_leaves_165 : decode cX8_leaves 165 = .ok (.aload_n 0, 1) := by decide +kernel
theorem dX8_leaves_166 : decode cX8_leaves 166 = .ok (.getfield 89, 3) := by decide +kernel
theorem dX8_leaves_169 : decode cX8_leaves 169 = .ok (.aload_n 0, 1) := by decide +kernel
theorem dX8_leaves_170 : decode cX8_leaves 170 = .ok (.getfield 50, 3) := by decide +kernel
theorem dX8_leaves_173 : decode cX8_leaves 173 = .ok (.iload_n 1, 1) := by decide +kernel
theorem dX8_leaves_174 : decode cX8_leaves 174 = .ok (.iaload, 1) := by decide +kernel
theorem dX8_leaves_175 : decode cX8_leaves 175 = .ok (.iaload, 1) := by decide +kernel
theorem dX8_leaves_176 : decode cX8_leaves 176 = .ok (.goto 4, 3) := by decide +kernel
theorem dX8_leaves_179 : decode cX8_leaves 179 = .ok (.iconst (-1), 1) := by decide +kernel
theorem dX8_leaves_180 : decode cX8_leaves 180 = .ok (.iastore, 1) := by decide +kernel
theorem dX8_leaves_181 : decode cX8_leaves 181 = .ok (.return_, 1) := by decide +kernel
theorem dX8_unmaps_0 : decode cX8_unmaps 0 = .ok (.aload_n 0, 1) := by decide +kernel
theorem dX8_unmaps_1 : decode cX8_unmaps 1 = .ok (.iload_n 1, 1) := by decide +kernel
theorem dX8_unmaps_2 : decode cX8_unmaps 2 = .ok (.invokevirtual 159, 3) := by decide +kernel
theorem dX8_unmaps_5 : decode cX8_unmaps 5 = .ok (.aload_n 0, 1) := by decide +kernel
theorem dX8_unmaps_6 : decode cX8_unmaps 6 = .ok (.getfield 26, 3) := by decide +kernel
theorem dX8_unmaps_9 : decode cX8_unmaps 9 = .ok (.iload_n 1, 1) := by decide +kernel
theorem dX8_unmaps_10 : decode cX8_unmaps 10 = .ok (.iconst 0, 1) := by decide +kernel
theorem dX8_unmaps_11 : decode cX8_unmaps 11 = .ok (.iastore, 1) := by decide +kernel
theorem dX8_unmaps_12 : decode cX8_unmaps 12 = .ok (.aload_n 0, 1) := by decide +kernel
theorem dX8_unmaps_13 : decode cX8_unmaps 13 = .ok (.iload_n 1, 1) := by decide +kernel
theorem dX8_unmaps_14 : decode cX8_unmaps 14 = .ok (.invokevirtual 162, 3) := by decide +kernel
theorem dX8_unmaps_17 : decode cX8_unmaps 17 = .ok (.return_, 1) := by decide +kernel
theorem dX8_forgets_0 : decode cX8_forgets 0 = .ok (.iconst 0, 1) := by decide +kernel
theorem dX8_forgets_1 : decode cX8_forgets 1 = .ok (.istore_n 2, 1) := by decide +kernel
theorem dX8_forgets_2 : decode cX8_forgets 2 = .ok (.iload_n 2, 1) := by decide +kernel
theorem dX8_forgets_3 : decode cX8_forgets 3 = .ok (.aload_n 0, 1) := by decide +kernel
theorem dX8_forgets_4 : decode cX8_forgets 4 = .ok (.getfield 165, 3) := by decide +kernel
theorem dX8_forgets_7 : decode cX8_forgets 7 = .ok (.if_icmp .ge 35, 3) := by decide +kernel
theorem dX8_forgets_10 : decode cX8_forgets 10 = .ok (.aload_n 0, 1) := by decide +kernel
theorem dX8_forgets_11 : decode cX8_forgets 11 = .ok (.getfield 116, 3) := by decide +kernel
theorem dX8_forgets_14 : decode cX8_forgets 14 = .ok (.iload_n 2, 1) := by decide +kernel
theorem dX8_forgets_15 : decode cX8_forgets 15 = .ok (.aload_n 0, 1) := by decide +kernel
theorem dX8_forgets_16 : decode cX8_forgets 16 = .ok (.getfield 116, 3) := by decide +kernel
theorem dX8_forgets_19 : decode cX8_forgets 19 = .ok (.iload_n 2, 1) := by decide +kernel
theorem dX8_forgets_20 : decode cX8_forgets 20 = .ok (.iaload, 1) := by decide +kernel
theorem dX8_forgets_21 : decode cX8_forgets 21 = .ok (.iload_n 1, 1) := by decide +kernel
theorem dX8_forgets_22 : decode cX8_forgets 22 = .ok (.if_icmp .ne 7, 3) := by decide +kernel
theorem dX8_forgets_25 : decode cX8_forgets 25 = .ok (.iconst (-1), 1) := by decide +kernel
theorem dX8_forgets_26 : decode cX8_forgets 26 = .ok (.goto 9, 3) := by decide +kernel
theorem dX8_forgets_29 : decode cX8_forgets 29 = .ok (.aload_n 0, 1) := by decide +kernel
theorem dX8_forgets_30 : decode cX8_forgets 30 = .ok (.getfield 116, 3) := by decide +kernel
theorem dX8_forgets_33 : decode cX8_forgets 33 = .ok (.iload_n 2, 1) := by decide +kernel
theorem dX8_forgets_34 : decode cX8_forgets 34 = .ok (.iaload, 1) := by decide +kernel
theorem dX8_forgets_35 : decode cX8_forgets 35 = .ok (.iastore, 1) := by decide +kernel
theorem dX8_forgets_36 : decode cX8_forgets 36 = .ok (.iinc 2 1, 3) := by decide +kernel
theorem dX8_forgets_39 : decode cX8_forgets 39 = .ok (.goto (-37), 3) := by decide +kernel
theorem dX8_forgets_42 : decode cX8_forgets 42 = .ok (.return_, 1) := by decide +kernel
theorem dX8_used_0 : decode cX8_used 0 = .ok (.iconst 0, 1) := by decide +kernel
theorem dX8_used_1 : decode cX8_used 1 = .ok (.istore_n 1, 1) := by decide +kernel
theorem dX8_used_2 : decode cX8_used 2 = .ok (.iconst 0, 1) := by decide +kernel
theorem dX8_used_3 : decode cX8_used 3 = .ok (.istore_n 2, 1) := by decide +kernel
theorem dX8_used_4 : decode cX8_used 4 = .ok (.iload_n 2, 1) := by decide +kernel
theorem dX8_used_5 : decode cX8_used 5 = .ok (.bipush 18, 2) := by decide +kernel
theorem dX8_used_7 : decode cX8_used 7 = .ok (.if_icmp .ge 43, 3) := by decide +kernel
theorem dX8_used_10 : decode cX8_used 10 = .ok (.iload_n 1, 1) := by decide +kernel
theorem dX8_used_11 : decode cX8_used 11 = .ok (.aload_n 0, 1) := by decide +kernel
theorem dX8_used_12 : decode cX8_used 12 = .ok (.getfield 89, 3) := by decide +kernel
theorem dX8_used_15 : decode cX8_used 15 = .ok (.iload_n 2, 1) := by decide +kernel
theorem dX8_used_16 : decode cX8_used 16 = .ok (.iaload, 1) := by decide +kernel
theorem dX8_used_17 : decode cX8_used 17 = .ok (.bipush 10, 2) := by decide +kernel
theorem dX8_used_19 : decode cX8_used 19 = .ok (.if_icmp .ne 22, 3) := by decide +kernel
theorem dX8_used_22 : decode cX8_used 22 = .ok (.aload_n 0, 1) := by decide +kernel
theorem dX8_used_23 : decode cX8_used 23 = .ok (.getfield 92, 3) := by decide +kernel
theorem dX8_used_26 : decode cX8_used 26 = .ok (.iload_n 2, 1) := by decide +kernel
theorem dX8_used_27 : decode cX8_used 27 = .ok (.iaload, 1) := by decide +kernel
theorem dX8_used_28 : decode cX8_used 28 = .ok (.bipush 100, 2) := by decide +kernel
theorem dX8_used_30 : decode cX8_used 30 = .ok (.if_icmp .ge 7, 3) := by decide +kernel
theorem dX8_used_33 : decode cX8_used 33 = .ok (.iconst 1, 1) := by decide +kernel
theorem dX8_used_34 : decode cX8_used 34 = .ok (.goto 8, 3) := by decide +kernel
theorem dX8_used_37 : decode cX8_used 37 = .ok (.iconst 2, 1) := by decide +kernel
theorem dX8_used_38 : decode cX8_used 38 = .ok (.goto 4, 3) := by decide +kernel
theorem dX8_used_41 : decode cX8_used 41 = .ok (.iconst 0, 1) := by decide +kernel
theorem dX8_used_42 : decode cX8_used 42 = .ok (.iadd, 1) := by decide +kernel
theorem dX8_used_43 : decode cX8_used 43 = .ok (.istore_n 1, 1) := by decide +kernel
theorem dX8_used_44 : decode cX8_used 44 = .ok (.iinc 2 1, 3) := by decide +kernel
theorem dX8_used_47 : decode cX8_used 47 = .ok (.goto (-43), 3) := by decide +kernel
theorem dX8_used_50 : decode cX8_used 50 = .ok (.iload_n 1, 1) := by decide +kernel
theorem dX8_used_51 : decode cX8_used 51 = .ok (.ireturn, 1) := by decide +kernel
theorem dX8_freePlace_0 : decode cX8_freePlace 0 = .ok (.iconst 0, 1) := by decide +kernel
theorem dX8_freePlace_1 : decode cX8_freePlace 1 = .ok (.istore_n 1, 1) := by decide +kernel
theorem dX8_freePlace_2 : decode cX8_freePlace 2 = .ok (.iload_n 1, 1) := by decide +kernel
theorem dX8_freePlace_3 : decode cX8_freePlace 3 = .ok (.bipush 10, 2) := by decide +kernel
theorem dX8_freePlace_5 : decode cX8_freePlace 5 = .ok (.if_icmp .ge 49, 3) := by decide +kernel
theorem dX8_freePlace_8 : decode cX8_freePlace 8 = .ok (.iconst 1, 1) := by decide +kernel
theorem dX8_freePlace_9 : decode cX8_freePlace 9 = .ok (.istore_n 2, 1) := by decide +kernel
theorem dX8_freePlace_10 : decode cX8_freePlace 10 = .ok (.iconst 0, 1) := by decide +kernel
theorem dX8_freePlace_11 : decode cX8_freePlace 11 = .ok (.istore_n 3, 1) := by decide +kernel
theorem dX8_freePlace_12 : decode cX8_freePlace 12 = .ok (.iload_n 3, 1) := by decide +kernel
theorem dX8_freePlace_13 : decode cX8_freePlace 13 = .ok (.bipush 18, 2) := by decide +kernel
theorem dX8_freePlace_15 : decode cX8_freePlace 15 = .ok (.if_icmp .ge 27, 3) := by decide +kernel
theorem dX8_freePlace_18 : decode cX8_freePlace 18 = .ok (.iload_n 2, 1) := by decide +kernel
theorem dX8_freePlace_19 : decode cX8_freePlace 19 = .ok (.aload_n 0, 1) := by decide +kernel
theorem dX8_freePlace_20 : decode cX8_freePlace 20 = .ok (.getfield 89, 3) := by decide +kernel
theorem dX8_freePlace_23 : decode cX8_freePlace 23 = .ok (.iload_n 3, 1) := by decide +kernel
theorem dX8_freePlace_24 : decode cX8_freePlace 24 = .ok (.iaload, 1) := by decide +kernel
theorem dX8_freePlace_25 : decode cX8_freePlace 25 = .ok (.iload_n 1, 1) := by decide +kernel
theorem dX8_freePlace_26 : decode cX8_freePlace 26 = .ok (.if_icmp .eq 7, 3) := by decide +kernel
theorem dX8_freePlace_29 : decode cX8_freePlace 29 = .ok (.iconst 1, 1) := by decide +kernel
theorem dX8_freePlace_30 : decode cX8_freePlace 30 = .ok (.goto 4, 3) := by decide +kernel
theorem dX8_freePlace_33 : decode cX8_freePlace 33 = .ok (.iconst 0, 1) := by decide +kernel
theorem dX8_freePlace_34 : decode cX8_freePlace 34 = .ok (.iand, 1) := by decide +kernel
theorem dX8_freePlace_35 : decode cX8_freePlace 35 = .ok (.istore_n 2, 1) := by decide +kernel
theorem dX8_freePlace_36 : decode cX8_freePlace 36 = .ok (.iinc 3 1, 3) := by decide +kernel
theorem dX8_freePlace_39 : decode cX8_freePlace 39 = .ok (.goto (-27), 3) := by decide +kernel
theorem dX8_freePlace_42 : decode cX8_freePlace 42 = .ok (.iload_n 2, 1) := by decide +kernel
theorem dX8_freePlace_43 : decode cX8_freePlace 43 = .ok (.ifCond .eq 5, 3) := by decide +kernel
theorem dX8_freePlace_46 : decode cX8_freePlace 46 = .ok (.iload_n 1, 1) := by decide +kernel
theorem dX8_freePlace_47 : decode cX8_freePlace 47 = .ok (.ireturn, 1) := by decide +kernel
theorem dX8_freePlace_48 : decode cX8_freePlace 48 = .ok (.iinc 1 1, 3) := by decide +kernel
theorem dX8_freePlace_51 : decode cX8_freePlace 51 = .ok (.goto (-49), 3) := by decide +kernel
theorem dX8_freePlace_54 : decode cX8_freePlace 54 = .ok (.iconst (-1), 1) := by decide +kernel
theorem dX8_freePlace_55 : decode cX8_freePlace 55 = .ok (.ireturn, 1) := by decide +kernel
theorem dX8_oldest_0 : decode cX8_oldest 0 = .ok (.iconst (-1), 1) := by decide +kernel
theorem dX8_oldest_1 : decode cX8_oldest 1 = .ok (.istore_n 1, 1) := by decide +kernel
theorem dX8_oldest_2 : decode cX8_oldest 2 = .ok (.iconst 0, 1) := by decide +kernel
theorem dX8_oldest_3 : decode cX8_oldest 3 = .ok (.istore_n 2, 1) := by decide +kernel
theorem dX8_oldest_4 : decode cX8_oldest 4 = .ok (.iload_n 2, 1) := by decide +kernel
theorem dX8_oldest_5 : decode cX8_oldest 5 = .ok (.bipush 18, 2) := by decide +kernel
theorem dX8_oldest_7 : decode cX8_oldest 7 = .ok (.if_icmp .ge 46, 3) := by decide +kernel
theorem dX8_oldest_10 : decode cX8_oldest 10 = .ok (.aload_n 0, 1) := by decide +kernel
theorem dX8_oldest_11 : decode cX8_oldest 11 = .ok (.getfield 89, 3) := by decide +kernel
theorem dX8_oldest_14 : decode cX8_oldest 14 = .ok (.iload_n 2, 1) := by decide +kernel
theorem dX8_oldest_15 : decode cX8_oldest 15 = .ok (.iaload, 1) := by decide +kernel
theorem dX8_oldest_16 : decode cX8_oldest 16 = .ok (.bipush 10, 2) := by decide +kernel
theorem dX8_oldest_18 : decode cX8_oldest 18 = .ok (.if_icmp .ne 27, 3) := by decide +kernel
theorem dX8_oldest_21 : decode cX8_oldest 21 = .ok (.iload_n 1, 1) := by decide +kernel
theorem dX8_oldest_22 : decode cX8_oldest 22 = .ok (.iconst (-1), 1) := by decide +kernel
theorem dX8_oldest_23 : decode cX8_oldest 23 = .ok (.if_icmp .eq 18, 3) := by decide +kernel
theorem dX8_oldest_26 : decode cX8_oldest 26 = .ok (.aload_n 0, 1) := by decide +kernel
theorem dX8_oldest_27 : decode cX8_oldest 27 = .ok (.getfield 95, 3) := by decide +kernel
theorem dX8_oldest_30 : decode cX8_oldest 30 = .ok (.iload_n 2, 1) := by decide +kernel
theorem dX8_oldest_31 : decode cX8_oldest 31 = .ok (.iaload, 1) := by decide +kernel
theorem dX8_oldest_32 : decode cX8_oldest 32 = .ok (.aload_n 0, 1) := by decide +kernel
theorem dX8_oldest_33 : decode cX8_oldest 33 = .ok (.getfield 95, 3) := by decide +kernel
theorem dX8_oldest_36 : decode cX8_oldest 36 = .ok (.iload_n 1, 1) := by decide +kernel
theorem dX8_oldest_37 : decode cX8_oldest 37 = .ok (.iaload, 1) := by decide +kernel
theorem dX8_oldest_38 : decode cX8_oldest 38 = .ok (.if_icmp .ge 7, 3) := by decide +kernel
theorem dX8_oldest_41 : decode cX8_oldest 41 = .ok (.iload_n 2, 1) := by decide +kernel
theorem dX8_oldest_42 : decode cX8_oldest 42 = .ok (.goto 4, 3) := by decide +kernel
theorem dX8_oldest_45 : decode cX8_oldest 45 = .ok (.iload_n 1, 1) := by decide +kernel
theorem dX8_oldest_46 : decode cX8_oldest 46 = .ok (.istore_n 1, 1) := by decide +kernel
theorem dX8_oldest_47 : decode cX8_oldest 47 = .ok (.iinc 2 1, 3) := by decide +kernel
theorem dX8_oldest_50 : decode cX8_oldest 50 = .ok (.goto (-46), 3) := by decide +kernel
theorem dX8_oldest_53 : decode cX8_oldest 53 = .ok (.iload_n 1, 1) := by decide +kernel
theorem dX8_oldest_54 : decode cX8_oldest 54 = .ok (.ireturn, 1) := by decide +kernel
theorem dX8_records_0 : decode cX8_records 0 = .ok (.iload_n 1, 1) := by decide +kernel
theorem dX8_records_1 : decode cX8_records 1 = .ok (.bipush 100, 2) := by decide +kernel
theorem dX8_records_3 : decode cX8_records 3 = .ok (.if_icmp .ge 7, 3) := by decide +kernel
theorem dX8_records_6 : decode cX8_records 6 = .ok (.iconst 1, 1) := by decide +kernel
theorem dX8_records_7 : decode cX8_records 7 = .ok (.goto 16, 3) := by decide +kernel
theorem dX8_records_10 : decode cX8_records 10 = .ok (.iload_n 1, 1) := by decide +kernel
theorem dX8_records_11 : decode cX8_records 11 = .ok (.sipush 10000, 3) := by decide +kernel
theorem dX8_records_14 : decode cX8_records 14 = .ok (.if_icmp .ge 7, 3) := by decide +kernel
theorem dX8_records_17 : decode cX8_records 17 = .ok (.iconst 2, 1) := by decide +kernel
theorem dX8_records_18 : decode cX8_records 18 = .ok (.goto 5, 3) := by decide +kernel
theorem dX8_records_21 : decode cX8_records 21 = .ok (.bipush 9, 2) := by decide +kernel
theorem dX8_records_23 : decode cX8_records 23 = .ok (.istore_n 2, 1) := by decide +kernel
theorem dX8_records_24 : decode cX8_records 24 = .ok (.iload_n 2, 1) := by decide +kernel
theorem dX8_records_25 : decode cX8_records 25 = .ok (.bipush 8, 2) := by decide +kernel
theorem dX8_records_27 : decode cX8_records 27 = .ok (.if_icmp .gt 46, 3) := by decide +kernel
theorem dX8_records_30 : decode cX8_records 30 = .ok (.aload_n 0, 1) := by decide +kernel
theorem dX8_records_31 : decode cX8_records 31 = .ok (.invokevirtual 168, 3) := by decide +kernel
theorem dX8_records_34 : decode cX8_records 34 = .ok (.iload_n 2, 1) := by decide +kernel
theorem dX8_records_35 : decode cX8_records 35 = .ok (.iadd, 1) := by decide +kernel
theorem dX8_records_36 : decode cX8_records 36 = .ok (.bipush 8, 2) := by decide +kernel
theorem dX8_records_38 : decode cX8_records 38 = .ok (.if_icmp .le 35, 3) := by decide +kernel
theorem dX8_records_41 : decode cX8_records 41 = .ok (.aload_n 0, 1) := by decide +kernel
theorem dX8_records_42 : decode cX8_records 42 = .ok (.invokevirtual 172, 3) := by decide +kernel
theorem dX8_records_45 : decode cX8_records 45 = .ok (.iconst (-1), 1) := by decide +kernel
theorem dX8_records_46 : decode cX8_records 46 = .ok (.if_icmp .eq 27, 3) := by decide +kernel
theorem dX8_records_49 : decode cX8_records 49 = .ok (.aload_n 0, 1) := by decide +kernel
theorem dX8_records_50 : decode cX8_records 50 = .ok (.invokevirtual 175, 3) := by decide +kernel
theorem dX8_records_53 : decode cX8_records 53 = .ok (.iconst (-1), 1) := by decide +kernel
theorem dX8_records_54 : decode cX8_records 54 = .ok (.if_icmp .eq 19, 3) := by decide +kernel
theorem dX8_records_57 : decode cX8_records 57 = .ok (.aload_n 0, 1) := by decide +kernel
theorem dX8_records_58 : decode cX8_records 58 = .ok (.getfield 89, 3) := by decide +kernel
theorem dX8_records_61 : decode cX8_records 61 = .ok (.aload_n 0, 1) := by decide +kernel
theorem dX8_records_62 : decode cX8_records 62 = .ok (.invokevirtual 172, 3) := by decide +kernel
theorem dX8_records_65 : decode cX8_records 65 = .ok (.aload_n 0, 1) := by decide +kernel
theorem dX8_records_66 : decode cX8_records 66 = .ok (.invokevirtual 175, 3) := by decide +kernel
theorem dX8_records_69 : decode cX8_records 69 = .ok (.iastore, 1) := by decide +kernel
theorem dX8_records_70 : decode cX8_records 70 = .ok (.goto (-46), 3) := by decide +kernel
theorem dX8_records_73 : decode cX8_records 73 = .ok (.aload_n 0, 1) := by decide +kernel
theorem dX8_records_74 : decode cX8_records 74 = .ok (.invokevirtual 168, 3) := by decide +kernel
theorem dX8_records_77 : decode cX8_records 77 = .ok (.iload_n 2, 1) := by decide +kernel
theorem dX8_records_78 : decode cX8_records 78 = .ok (.iadd, 1) := by decide +kernel
theorem dX8_records_79 : decode cX8_records 79 = .ok (.bipush 8, 2) := by decide +kernel
theorem dX8_records_81 : decode cX8_records 81 = .ok (.if_icmp .gt 8, 3) := by decide +kernel
theorem dX8_records_84 : decode cX8_records 84 = .ok (.bipush 10, 2) := by decide +kernel
theorem dX8_records_86 : decode cX8_records 86 = .ok (.goto 7, 3) := by decide +kernel
theorem dX8_records_89 : decode cX8_records 89 = .ok (.aload_n 0, 1) := by decide +kernel
theorem dX8_records_90 : decode cX8_records 90 = .ok (.invokevirtual 175, 3) := by decide +kernel
theorem dX8_records_93 : decode cX8_records 93 = .ok (.istore_n 3, 1) := by decide +kernel
theorem dX8_records_94 : decode cX8_records 94 = .ok (.iconst 0, 1) := by decide +kernel
theorem dX8_records_95 : decode cX8_records 95 = .ok (.istore 4, 2) := by decide +kernel
theorem dX8_records_97 : decode cX8_records 97 = .ok (.iload 4, 2) := by decide +kernel
theorem dX8_records_99 : decode cX8_records 99 = .ok (.bipush 18, 2) := by decide +kernel
theorem dX8_records_101 : decode cX8_records 101 = .ok (.if_icmp .ge 65, 3) := by decide +kernel
theorem dX8_records_104 : decode cX8_records 104 = .ok (.iload_n 3, 1) := by decide +kernel
theorem dX8_records_105 : decode cX8_records 105 = .ok (.iconst (-1), 1) := by decide +kernel
theorem dX8_records_106 : decode cX8_records 106 = .ok (.if_icmp .eq 60, 3) := by decide +kernel
theorem dX8_records_109 : decode cX8_records 109 = .ok (.aload_n 0, 1) := by decide +kernel
theorem dX8_records_110 : decode cX8_records 110 = .ok (.getfield 89, 3) := by decide +kernel
theorem dX8_records_113 : decode cX8_records 113 = .ok (.iload 4, 2) := by decide +kernel
theorem dX8_records_115 : decode cX8_records 115 = .ok (.iaload, 1) := by decide +kernel
theorem dX8_records_116 : decode cX8_records 116 = .ok (.iconst (-1), 1) := by decide +kernel
theorem dX8_records_117 : decode cX8_records 117 = .ok (.if_icmp .ne 43, 3) := by decide +kernel
theorem dX8_records_120 : decode cX8_records 120 = .ok (.aload_n 0, 1) := by decide +kernel
theorem dX8_records_121 : decode cX8_records 121 = .ok (.getfield 89, 3) := by decide +kernel
theorem dX8_records_124 : decode cX8_records 124 = .ok (.iload 4, 2) := by decide +kernel
theorem dX8_records_126 : decode cX8_records 126 = .ok (.iload_n 3, 1) := by decide +kernel
theorem dX8_records_127 : decode cX8_records 127 = .ok (.iastore, 1) := by decide +kernel
theorem dX8_records_128 : decode cX8_records 128 = .ok (.aload_n 0, 1) := by decide +kernel
theorem dX8_records_129 : decode cX8_records 129 = .ok (.getfield 92, 3) := by decide +kernel
theorem dX8_records_132 : decode cX8_records 132 = .ok (.iload 4, 2) := by decide +kernel
theorem dX8_records_134 : decode cX8_records 134 = .ok (.iload_n 1, 1) := by decide +kernel
theorem dX8_records_135 : decode cX8_records 135 = .ok (.iastore, 1) := by decide +kernel
theorem dX8_records_136 : decode cX8_records 136 = .ok (.aload_n 0, 1) := by decide +kernel
theorem dX8_records_137 : decode cX8_records 137 = .ok (.getfield 95, 3) := by decide +kernel
theorem dX8_records_140 : decode cX8_records 140 = .ok (.iload 4, 2) := by decide +kernel
theorem dX8_records_142 : decode cX8_records 142 = .ok (.aload_n 0, 1) := by decide +kernel
theorem dX8_records_143 : decode cX8_records 143 = .ok (.getfield 178, 3) := by decide +kernel
theorem dX8_records_146 : decode cX8_records 146 = .ok (.iastore, 1) := by decide +kernel
theorem dX8_records_147 : decode cX8_records 147 = .ok (.aload_n 0, 1) := by decide +kernel
theorem dX8_records_148 : decode cX8_records 148 = .ok (.dup, 1) := by decide +kernel
theorem dX8_records_149 : decode cX8_records 149 = .ok (.getfield 178, 3) := by decide +kernel
theorem dX8_records_152 : decode cX8_records 152 = .ok (.iconst 1, 1) := by decide +kernel
theorem dX8_records_153 : decode cX8_records 153 = .ok (.iadd, 1) := by decide +kernel
theorem dX8_records_154 : decode cX8_records 154 = .ok (.putfield 178, 3) := by decide +kernel
theorem dX8_records_157 : decode cX8_records 157 = .ok (.iload 4, 2) := by decide +kernel
theorem dX8_records_159 : decode cX8_records 159 = .ok (.ireturn, 1) := by decide +kernel
theorem dX8_records_160 : decode cX8_records 160 = .ok (.iinc 4 1, 3) := by decide +kernel
theorem dX8_records_163 : decode cX8_records 163 = .ok (.goto (-66), 3) := by decide +kernel
theorem dX8_records_166 : decode cX8_records 166 = .ok (.iconst (-1), 1) := by decide +kernel
theorem dX8_records_167 : decode cX8_records 167 = .ok (.ireturn, 1) := by decide +kernel
theorem dX8_evicts_0 : decode cX8_evicts 0 = .ok (.iconst 2, 1) := by decide +kernel
theorem dX8_evicts_1 : decode cX8_evicts 1 = .ok (.aload_n 0, 1) := by decide +kernel
theorem dX8_evicts_2 : decode cX8_evicts 2 = .ok (.iload_n 1, 1) := by decide +kernel
theorem dX8_evicts_3 : decode cX8_evicts 3 = .ok (.invokevirtual 181, 3) := by decide +kernel
theorem dX8_evicts_6 : decode cX8_evicts 6 = .ok (.imul, 1) := by decide +kernel
theorem dX8_evicts_7 : decode cX8_evicts 7 = .ok (.istore_n 2, 1) := by decide +kernel
theorem dX8_evicts_8 : decode cX8_evicts 8 = .ok (.iconst 0, 1) := by decide +kernel
theorem dX8_evicts_9 : decode cX8_evicts 9 = .ok (.istore_n 3, 1) := by decide +kernel
theorem dX8_evicts_10 : decode cX8_evicts 10 = .ok (.iload_n 3, 1) := by decide +kernel
theorem dX8_evicts_11 : decode cX8_evicts 11 = .ok (.iload_n 2, 1) := by decide +kernel
theorem dX8_evicts_12 : decode cX8_evicts 12 = .ok (.if_icmp .ge 84, 3) := by decide +kernel
theorem dX8_evicts_15 : decode cX8_evicts 15 = .ok (.aload_n 0, 1) := by decide +kernel
theorem dX8_evicts_16 : decode cX8_evicts 16 = .ok (.iload_n 1, 1) := by decide +kernel
theorem dX8_evicts_17 : decode cX8_evicts 17 = .ok (.iconst 0, 1) := by decide +kernel
theorem dX8_evicts_18 : decode cX8_evicts 18 = .ok (.invokevirtual 184, 3) := by decide +kernel
theorem dX8_evicts_21 : decode cX8_evicts 21 = .ok (.aload_n 0, 1) := by decide +kernel
theorem dX8_evicts_22 : decode cX8_evicts 22 = .ok (.iload_n 1, 1) := by decide +kernel
theorem dX8_evicts_23 : decode cX8_evicts 23 = .ok (.iconst 1, 1) := by decide +kernel
theorem dX8_evicts_24 : decode cX8_evicts 24 = .ok (.invokevirtual 184, 3) := by decide +kernel
theorem dX8_evicts_27 : decode cX8_evicts 27 = .ok (.if_icmp .ge 17, 3) := by decide +kernel
theorem dX8_evicts_30 : decode cX8_evicts 30 = .ok (.aload_n 0, 1) := by decide +kernel
theorem dX8_evicts_31 : decode cX8_evicts 31 = .ok (.aload_n 0, 1) := by decide +kernel
theorem dX8_evicts_32 : decode cX8_evicts 32 = .ok (.iload_n 1, 1) := by decide +kernel
theorem dX8_evicts_33 : decode cX8_evicts 33 = .ok (.iconst 1, 1) := by decide +kernel
theorem dX8_evicts_34 : decode cX8_evicts 34 = .ok (.invokevirtual 188, 3) := by decide +kernel
theorem dX8_evicts_37 : decode cX8_evicts 37 = .ok (.iconst 0, 1) := by decide +kernel
theorem dX8_evicts_38 : decode cX8_evicts 38 = .ok (.invokevirtual 191, 3) := by decide +kernel
theorem dX8_evicts_41 : decode cX8_evicts 41 = .ok (.goto (-26), 3) := by decide +kernel
theorem dX8_evicts_44 : decode cX8_evicts 44 = .ok (.aload_n 0, 1) := by decide +kernel
theorem dX8_evicts_45 : decode cX8_evicts 45 = .ok (.iload_n 1, 1) := by decide +kernel
theorem dX8_evicts_46 : decode cX8_evicts 46 = .ok (.iconst 0, 1) := by decide +kernel
theorem dX8_evicts_47 : decode cX8_evicts 47 = .ok (.invokevirtual 188, 3) := by decide +kernel
theorem dX8_evicts_50 : decode cX8_evicts 50 = .ok (.istore 4, 2) := by decide +kernel
theorem dX8_evicts_52 : decode cX8_evicts 52 = .ok (.aload_n 0, 1) := by decide +kernel
theorem dX8_evicts_53 : decode cX8_evicts 53 = .ok (.getfield 65, 3) := by decide +kernel
theorem dX8_evicts_56 : decode cX8_evicts 56 = .ok (.iload 4, 2) := by decide +kernel
theorem dX8_evicts_58 : decode cX8_evicts 58 = .ok (.baload, 1) := by decide +kernel
theorem dX8_evicts_59 : decode cX8_evicts 59 = .ok (.ifCond .eq 13, 3) := by decide +kernel
theorem dX8_evicts_62 : decode cX8_evicts 62 = .ok (.aload_n 0, 1) := by decide +kernel
theorem dX8_evicts_63 : decode cX8_evicts 63 = .ok (.iload 4, 2) := by decide +kernel
theorem dX8_evicts_65 : decode cX8_evicts 65 = .ok (.iconst 1, 1) := by decide +kernel
theorem dX8_evicts_66 : decode cX8_evicts 66 = .ok (.invokevirtual 191, 3) := by decide +kernel
theorem dX8_evicts_69 : decode cX8_evicts 69 = .ok (.goto 21, 3) := by decide +kernel
theorem dX8_evicts_72 : decode cX8_evicts 72 = .ok (.aload_n 0, 1) := by decide +kernel
theorem dX8_evicts_73 : decode cX8_evicts 73 = .ok (.iload 4, 2) := by decide +kernel
theorem dX8_evicts_75 : decode cX8_evicts 75 = .ok (.invokevirtual 194, 3) := by decide +kernel
theorem dX8_evicts_78 : decode cX8_evicts 78 = .ok (.ifCond .eq 5, 3) := by decide +kernel
theorem dX8_evicts_81 : decode cX8_evicts 81 = .ok (.iconst 1, 1) := by decide +kernel
theorem dX8_evicts_82 : decode cX8_evicts 82 = .ok (.ireturn, 1) := by decide +kernel
theorem dX8_evicts_83 : decode cX8_evicts 83 = .ok (.aload_n 0, 1) := by decide +kernel
theorem dX8_evicts_84 : decode cX8_evicts 84 = .ok (.iload 4, 2) := by decide +kernel
theorem dX8_evicts_86 : decode cX8_evicts 86 = .ok (.iconst 1, 1) := by decide +kernel
theorem dX8_evicts_87 : decode cX8_evicts 87 = .ok (.invokevirtual 191, 3) := by decide +kernel
theorem dX8_evicts_90 : decode cX8_evicts 90 = .ok (.iinc 3 1, 3) := by decide +kernel
theorem dX8_evicts_93 : decode cX8_evicts 93 = .ok (.goto (-83), 3) := by decide +kernel
theorem dX8_evicts_96 : decode cX8_evicts 96 = .ok (.iconst 0, 1) := by decide +kernel
theorem dX8_evicts_97 : decode cX8_evicts 97 = .ok (.ireturn, 1) := by decide +kernel
theorem dX8_goes_0 : decode cX8_goes 0 = .ok (.aload_n 0, 1) := by decide +kernel
theorem dX8_goes_1 : decode cX8_goes 1 = .ok (.getfield 56, 3) := by decide +kernel
theorem dX8_goes_4 : decode cX8_goes 4 = .ok (.iload_n 1, 1) := by decide +kernel
theorem dX8_goes_5 : decode cX8_goes 5 = .ok (.iaload, 1) := by decide +kernel
theorem dX8_goes_6 : decode cX8_goes 6 = .ok (.iconst 1, 1) := by decide +kernel
theorem dX8_goes_7 : decode cX8_goes 7 = .ok (.if_icmp .ne 16, 3) := by decide +kernel
theorem dX8_goes_10 : decode cX8_goes 10 = .ok (.aload_n 0, 1) := by decide +kernel
theorem dX8_goes_11 : decode cX8_goes 11 = .ok (.aload_n 0, 1) := by decide +kernel
theorem dX8_goes_12 : decode cX8_goes 12 = .ok (.getfield 59, 3) := by decide +kernel
theorem dX8_goes_15 : decode cX8_goes 15 = .ok (.iload_n 1, 1) := by decide +kernel
theorem dX8_goes_16 : decode cX8_goes 16 = .ok (.iaload, 1) := by decide +kernel
theorem dX8_goes_17 : decode cX8_goes 17 = .ok (.invokevirtual 197, 3) := by decide +kernel
theorem dX8_goes_20 : decode cX8_goes 20 = .ok (.goto 4, 3) := by decide +kernel
theorem dX8_goes_23 : decode cX8_goes 23 = .ok (.iconst (-1), 1) := by decide +kernel
theorem dX8_goes_24 : decode cX8_goes 24 = .ok (.istore_n 2, 1) := by decide +kernel
theorem dX8_goes_25 : decode cX8_goes 25 = .ok (.aload_n 0, 1) := by decide +kernel
theorem dX8_goes_26 : decode cX8_goes 26 = .ok (.getfield 56, 3) := by decide +kernel
theorem dX8_goes_29 : decode cX8_goes 29 = .ok (.iload_n 1, 1) := by decide +kernel
theorem dX8_goes_30 : decode cX8_goes 30 = .ok (.iaload, 1) := by decide +kernel
theorem dX8_goes_31 : decode cX8_goes 31 = .ok (.iconst 1, 1) := by decide +kernel
theorem dX8_goes_32 : decode cX8_goes 32 = .ok (.if_icmp .ne 10, 3) := by decide +kernel
theorem dX8_goes_35 : decode cX8_goes 35 = .ok (.iload_n 2, 1) := by decide +kernel
theorem dX8_goes_36 : decode cX8_goes 36 = .ok (.iconst (-1), 1) := by decide +kernel
theorem dX8_goes_37 : decode cX8_goes 37 = .ok (.if_icmp .ne 5, 3) := by decide +kernel
theorem dX8_goes_40 : decode cX8_goes 40 = .ok (.iconst 0, 1) := by decide +kernel
theorem dX8_goes_41 : decode cX8_goes 41 = .ok (.ireturn, 1) := by decide +kernel
theorem dX8_goes_42 : decode cX8_goes 42 = .ok (.aload_n 0, 1) := by decide +kernel
theorem dX8_goes_43 : decode cX8_goes 43 = .ok (.getfield 113, 3) := by decide +kernel
theorem dX8_goes_46 : decode cX8_goes 46 = .ok (.iconst 2, 1) := by decide +kernel
theorem dX8_goes_47 : decode cX8_goes 47 = .ok (.dup2, 1) := by decide +kernel
theorem dX8_goes_48 : decode cX8_goes 48 = .ok (.iaload, 1) := by decide +kernel
theorem dX8_goes_49 : decode cX8_goes 49 = .ok (.iconst 1, 1) := by decide +kernel
theorem dX8_goes_50 : decode cX8_goes 50 = .ok (.iadd, 1) := by decide +kernel
theorem dX8_goes_51 : decode cX8_goes 51 = .ok (.iastore, 1) := by decide +kernel
theorem dX8_goes_52 : decode cX8_goes 52 = .ok (.aload_n 0, 1) := by decide +kernel
theorem dX8_goes_53 : decode cX8_goes 53 = .ok (.getfield 56, 3) := by decide +kernel
theorem dX8_goes_56 : decode cX8_goes 56 = .ok (.iload_n 1, 1) := by decide +kernel
theorem dX8_goes_57 : decode cX8_goes 57 = .ok (.iaload, 1) := by decide +kernel
theorem dX8_goes_58 : decode cX8_goes 58 = .ok (.iconst 2, 1) := by decide +kernel
theorem dX8_goes_59 : decode cX8_goes 59 = .ok (.if_icmp .ne 56, 3) := by decide +kernel
theorem dX8_goes_62 : decode cX8_goes 62 = .ok (.aload_n 0, 1) := by decide +kernel
theorem dX8_goes_63 : decode cX8_goes 63 = .ok (.getfield 71, 3) := by decide +kernel
theorem dX8_goes_66 : decode cX8_goes 66 = .ok (.iload_n 1, 1) := by decide +kernel
theorem dX8_goes_67 : decode cX8_goes 67 = .ok (.baload, 1) := by decide +kernel
theorem dX8_goes_68 : decode cX8_goes 68 = .ok (.ifCond .eq 30, 3) := by decide +kernel
theorem dX8_goes_71 : decode cX8_goes 71 = .ok (.aload_n 0, 1) := by decide +kernel
theorem dX8_goes_72 : decode cX8_goes 72 = .ok (.getfield 83, 3) := by decide +kernel
theorem dX8_goes_75 : decode cX8_goes 75 = .ok (.aload_n 0, 1) := by decide +kernel
theorem dX8_goes_76 : decode cX8_goes 76 = .ok (.getfield 74, 3) := by decide +kernel
theorem dX8_goes_79 : decode cX8_goes 79 = .ok (.iload_n 1, 1) := by decide +kernel
theorem dX8_goes_80 : decode cX8_goes 80 = .ok (.iaload, 1) := by decide +kernel
theorem dX8_goes_81 : decode cX8_goes 81 = .ok (.aload_n 0, 1) := by decide +kernel
theorem dX8_goes_82 : decode cX8_goes 82 = .ok (.getfield 59, 3) := by decide +kernel
theorem dX8_goes_85 : decode cX8_goes 85 = .ok (.iload_n 1, 1) := by decide +kernel
theorem dX8_goes_86 : decode cX8_goes 86 = .ok (.iaload, 1) := by decide +kernel
theorem dX8_goes_87 : decode cX8_goes 87 = .ok (.iastore, 1) := by decide +kernel
theorem dX8_goes_88 : decode cX8_goes 88 = .ok (.aload_n 0, 1) := by decide +kernel
theorem dX8_goes_89 : decode cX8_goes 89 = .ok (.getfield 113, 3) := by decide +kernel
theorem dX8_goes_92 : decode cX8_goes 92 = .ok (.iconst 5, 1) := by decide +kernel
theorem dX8_goes_93 : decode cX8_goes 93 = .ok (.dup2, 1) := by decide +kernel
theorem dX8_goes_94 : decode cX8_goes 94 = .ok (.iaload, 1) := by decide +kernel
theorem dX8_goes_95 : decode cX8_goes 95 = .ok (.iconst 1, 1) := by decide +kernel
theorem dX8_goes_96 : decode cX8_goes 96 = .ok (.iadd, 1) := by decide +kernel
theorem dX8_goes_97 : decode cX8_goes 97 = .ok (.iastore, 1) := by decide +kernel
theorem dX8_goes_98 : decode cX8_goes 98 = .ok (.aload_n 0, 1) := by decide +kernel
theorem dX8_goes_99 : decode cX8_goes 99 = .ok (.getfield 86, 3) := by decide +kernel
theorem dX8_goes_102 : decode cX8_goes 102 = .ok (.aload_n 0, 1) := by decide +kernel
theorem dX8_goes_103 : decode cX8_goes 103 = .ok (.getfield 74, 3) := by decide +kernel
theorem dX8_goes_106 : decode cX8_goes 106 = .ok (.iload_n 1, 1) := by decide +kernel
theorem dX8_goes_107 : decode cX8_goes 107 = .ok (.iaload, 1) := by decide +kernel
theorem dX8_goes_108 : decode cX8_goes 108 = .ok (.aload_n 0, 1) := by decide +kernel
theorem dX8_goes_109 : decode cX8_goes 109 = .ok (.getfield 113, 3) := by decide +kernel
theorem dX8_goes_112 : decode cX8_goes 112 = .ok (.iconst 2, 1) := by decide +kernel
theorem dX8_goes_113 : decode cX8_goes 113 = .ok (.iaload, 1) := by decide +kernel
theorem dX8_goes_114 : decode cX8_goes 114 = .ok (.iastore, 1) := by decide +kernel
theorem dX8_goes_115 : decode cX8_goes 115 = .ok (.iconst 0, 1) := by decide +kernel
theorem dX8_goes_116 : decode cX8_goes 116 = .ok (.istore_n 3, 1) := by decide +kernel
theorem dX8_goes_117 : decode cX8_goes 117 = .ok (.iload_n 3, 1) := by decide +kernel
theorem dX8_goes_118 : decode cX8_goes 118 = .ok (.sipush 192, 3) := by decide +kernel
theorem dX8_goes_121 : decode cX8_goes 121 = .ok (.if_icmp .ge 51, 3) := by decide +kernel
theorem dX8_goes_124 : decode cX8_goes 124 = .ok (.aload_n 0, 1) := by decide +kernel
theorem dX8_goes_125 : decode cX8_goes 125 = .ok (.iload_n 3, 1) := by decide +kernel
theorem dX8_goes_126 : decode cX8_goes 126 = .ok (.iload_n 1, 1) := by decide +kernel
theorem dX8_goes_127 : decode cX8_goes 127 = .ok (.invokevirtual 142, 3) := by decide +kernel
theorem dX8_goes_130 : decode cX8_goes 130 = .ok (.ifCond .eq 36, 3) := by decide +kernel
theorem dX8_goes_133 : decode cX8_goes 133 = .ok (.aload_n 0, 1) := by decide +kernel
theorem dX8_goes_134 : decode cX8_goes 134 = .ok (.iload_n 3, 1) := by decide +kernel
theorem dX8_goes_135 : decode cX8_goes 135 = .ok (.invokevirtual 149, 3) := by decide +kernel
theorem dX8_goes_138 : decode cX8_goes 138 = .ok (.aload_n 0, 1) := by decide +kernel
theorem dX8_goes_139 : decode cX8_goes 139 = .ok (.iload_n 3, 1) := by decide +kernel
theorem dX8_goes_140 : decode cX8_goes 140 = .ok (.invokevirtual 152, 3) := by decide +kernel
theorem dX8_goes_143 : decode cX8_goes 143 = .ok (.aload_n 0, 1) := by decide +kernel
theorem dX8_goes_144 : decode cX8_goes 144 = .ok (.getfield 41, 3) := by decide +kernel
theorem dX8_goes_147 : decode cX8_goes 147 = .ok (.iload_n 3, 1) := by decide +kernel
theorem dX8_goes_148 : decode cX8_goes 148 = .ok (.iload_n 2, 1) := by decide +kernel
theorem dX8_goes_149 : decode cX8_goes 149 = .ok (.iconst (-1), 1) := by decide +kernel
theorem dX8_goes_150 : decode cX8_goes 150 = .ok (.if_icmp .ne 7, 3) := by decide +kernel
theorem dX8_goes_153 : decode cX8_goes 153 = .ok (.iconst 0, 1) := by decide +kernel
theorem dX8_goes_154 : decode cX8_goes 154 = .ok (.goto 4, 3) := by decide +kernel
theorem dX8_goes_157 : decode cX8_goes 157 = .ok (.iconst 2, 1) := by decide +kernel
theorem dX8_goes_158 : decode cX8_goes 158 = .ok (.iastore, 1) := by decide +kernel
theorem dX8_goes_159 : decode cX8_goes 159 = .ok (.aload_n 0, 1) := by decide +kernel
theorem dX8_goes_160 : decode cX8_goes 160 = .ok (.getfield 50, 3) := by decide +kernel
theorem dX8_goes_163 : decode cX8_goes 163 = .ok (.iload_n 3, 1) := by decide +kernel
theorem dX8_goes_164 : decode cX8_goes 164 = .ok (.iload_n 2, 1) := by decide +kernel
theorem dX8_goes_165 : decode cX8_goes 165 = .ok (.iastore, 1) := by decide +kernel
theorem dX8_goes_166 : decode cX8_goes 166 = .ok (.iinc 3 1, 3) := by decide +kernel
theorem dX8_goes_169 : decode cX8_goes 169 = .ok (.goto (-52), 3) := by decide +kernel
theorem dX8_goes_172 : decode cX8_goes 172 = .ok (.aload_n 0, 1) := by decide +kernel
theorem dX8_goes_173 : decode cX8_goes 173 = .ok (.iload_n 1, 1) := by decide +kernel
theorem dX8_goes_174 : decode cX8_goes 174 = .ok (.invokevirtual 134, 3) := by decide +kernel
theorem dX8_goes_177 : decode cX8_goes 177 = .ok (.aload_n 0, 1) := by decide +kernel
theorem dX8_goes_178 : decode cX8_goes 178 = .ok (.getfield 56, 3) := by decide +kernel
theorem dX8_goes_181 : decode cX8_goes 181 = .ok (.iload_n 1, 1) := by decide +kernel
theorem dX8_goes_182 : decode cX8_goes 182 = .ok (.iconst 0, 1) := by decide +kernel
theorem dX8_goes_183 : decode cX8_goes 183 = .ok (.iastore, 1) := by decide +kernel
theorem dX8_goes_184 : decode cX8_goes 184 = .ok (.iconst 1, 1) := by decide +kernel
theorem dX8_goes_185 : decode cX8_goes 185 = .ok (.ireturn, 1) := by decide +kernel
theorem dX8_scoreOf_0 : decode cX8_scoreOf 0 = .ok (.aload_n 0, 1) := by decide +kernel
theorem dX8_scoreOf_1 : decode cX8_scoreOf 1 = .ok (.getfield 17, 3) := by decide +kernel
theorem dX8_scoreOf_4 : decode cX8_scoreOf 4 = .ok (.iload_n 1, 1) := by decide +kernel
theorem dX8_scoreOf_5 : decode cX8_scoreOf 5 = .ok (.iaload, 1) := by decide +kernel
theorem dX8_scoreOf_6 : decode cX8_scoreOf 6 = .ok (.istore_n 2, 1) := by decide +kernel
theorem dX8_scoreOf_7 : decode cX8_scoreOf 7 = .ok (.iconst 0, 1) := by decide +kernel
theorem dX8_scoreOf_8 : decode cX8_scoreOf 8 = .ok (.istore_n 3, 1) := by decide +kernel
theorem dX8_scoreOf_9 : decode cX8_scoreOf 9 = .ok (.iload_n 3, 1) := by decide +kernel
theorem dX8_scoreOf_10 : decode cX8_scoreOf 10 = .ok (.bipush 32, 2) := by decide +kernel
theorem dX8_scoreOf_12 : decode cX8_scoreOf 12 = .ok (.if_icmp .ge 45, 3) := by decide +kernel
theorem dX8_scoreOf_15 : decode cX8_scoreOf 15 = .ok (.iload_n 2, 1) := by decide +kernel
theorem dX8_scoreOf_16 : decode cX8_scoreOf 16 = .ok (.aload_n 0, 1) := by decide +kernel
theorem dX8_scoreOf_17 : decode cX8_scoreOf 17 = .ok (.getfield 26, 3) := by decide +kernel
theorem dX8_scoreOf_20 : decode cX8_scoreOf 20 = .ok (.bipush 32, 2) := by decide +kernel
theorem dX8_scoreOf_22 : decode cX8_scoreOf 22 = .ok (.iload_n 1, 1) := by decide +kernel
theorem dX8_scoreOf_23 : decode cX8_scoreOf 23 = .ok (.imul, 1) := by decide +kernel
theorem dX8_scoreOf_24 : decode cX8_scoreOf 24 = .ok (.iload_n 3, 1) := by decide +kernel
theorem dX8_scoreOf_25 : decode cX8_scoreOf 25 = .ok (.iadd, 1) := by decide +kernel
theorem dX8_scoreOf_26 : decode cX8_scoreOf 26 = .ok (.iaload, 1) := by decide +kernel
theorem dX8_scoreOf_27 : decode cX8_scoreOf 27 = .ok (.ifCond .le 21, 3) := by decide +kernel
theorem dX8_scoreOf_30 : decode cX8_scoreOf 30 = .ok (.aload_n 0, 1) := by decide +kernel
theorem dX8_scoreOf_31 : decode cX8_scoreOf 31 = .ok (.getfield 41, 3) := by decide +kernel
theorem dX8_scoreOf_34 : decode cX8_scoreOf 34 = .ok (.bipush 32, 2) := by decide +kernel
theorem dX8_scoreOf_36 : decode cX8_scoreOf 36 = .ok (.iload_n 1, 1) := by decide +kernel
theorem dX8_scoreOf_37 : decode cX8_scoreOf 37 = .ok (.imul, 1) := by decide +kernel
theorem dX8_scoreOf_38 : decode cX8_scoreOf 38 = .ok (.iload_n 3, 1) := by decide +kernel
theorem dX8_scoreOf_39 : decode cX8_scoreOf 39 = .ok (.iadd, 1) := by decide +kernel
theorem dX8_scoreOf_40 : decode cX8_scoreOf 40 = .ok (.iaload, 1) := by decide +kernel
theorem dX8_scoreOf_41 : decode cX8_scoreOf 41 = .ok (.ifCond .eq 7, 3) := by decide +kernel
theorem dX8_scoreOf_44 : decode cX8_scoreOf 44 = .ok (.iconst 1, 1) := by decide +kernel
theorem dX8_scoreOf_45 : decode cX8_scoreOf 45 = .ok (.goto 4, 3) := by decide +kernel
theorem dX8_scoreOf_48 : decode cX8_scoreOf 48 = .ok (.iconst 0, 1) := by decide +kernel
theorem dX8_scoreOf_49 : decode cX8_scoreOf 49 = .ok (.iadd, 1) := by decide +kernel
theorem dX8_scoreOf_50 : decode cX8_scoreOf 50 = .ok (.istore_n 2, 1) := by decide +kernel
theorem dX8_scoreOf_51 : decode cX8_scoreOf 51 = .ok (.iinc 3 1, 3) := by decide +kernel
theorem dX8_scoreOf_54 : decode cX8_scoreOf 54 = .ok (.goto (-45), 3) := by decide +kernel
theorem dX8_scoreOf_57 : decode cX8_scoreOf 57 = .ok (.iload_n 2, 1) := by decide +kernel
theorem dX8_scoreOf_58 : decode cX8_scoreOf 58 = .ok (.ireturn, 1) := by decide +kernel
theorem dX8_ends_0 : decode cX8_ends 0 = .ok (.iconst 0, 1) := by decide +kernel
theorem dX8_ends_1 : decode cX8_ends 1 = .ok (.istore_n 2, 1) := by decide +kernel
theorem dX8_ends_2 : decode cX8_ends 2 = .ok (.iload_n 2, 1) := by decide +kernel
theorem dX8_ends_3 : decode cX8_ends 3 = .ok (.bipush 32, 2) := by decide +kernel
theorem dX8_ends_5 : decode cX8_ends 5 = .ok (.if_icmp .ge 19, 3) := by decide +kernel
theorem dX8_ends_8 : decode cX8_ends 8 = .ok (.aload_n 0, 1) := by decide +kernel
theorem dX8_ends_9 : decode cX8_ends 9 = .ok (.bipush 32, 2) := by decide +kernel
theorem dX8_ends_11 : decode cX8_ends 11 = .ok (.iload_n 1, 1) := by decide +kernel
theorem dX8_ends_12 : decode cX8_ends 12 = .ok (.imul, 1) := by decide +kernel
theorem dX8_ends_13 : decode cX8_ends 13 = .ok (.iload_n 2, 1) := by decide +kernel
theorem dX8_ends_14 : decode cX8_ends 14 = .ok (.iadd, 1) := by decide +kernel
theorem dX8_ends_15 : decode cX8_ends 15 = .ok (.invokevirtual 200, 3) := by decide +kernel
theorem dX8_ends_18 : decode cX8_ends 18 = .ok (.iinc 2 1, 3) := by decide +kernel
theorem dX8_ends_21 : decode cX8_ends 21 = .ok (.goto (-19), 3) := by decide +kernel
theorem dX8_ends_24 : decode cX8_ends 24 = .ok (.aload_n 0, 1) := by decide +kernel
theorem dX8_ends_25 : decode cX8_ends 25 = .ok (.getfield 7, 3) := by decide +kernel
theorem dX8_ends_28 : decode cX8_ends 28 = .ok (.iload_n 1, 1) := by decide +kernel
theorem dX8_ends_29 : decode cX8_ends 29 = .ok (.iconst 0, 1) := by decide +kernel
theorem dX8_ends_30 : decode cX8_ends 30 = .ok (.bastore, 1) := by decide +kernel
theorem dX8_ends_31 : decode cX8_ends 31 = .ok (.return_, 1) := by decide +kernel
theorem dX8_kills_0 : decode cX8_kills 0 = .ok (.iconst (-1), 1) := by decide +kernel
theorem dX8_kills_1 : decode cX8_kills 1 = .ok (.istore_n 2, 1) := by decide +kernel
theorem dX8_kills_2 : decode cX8_kills 2 = .ok (.iconst 0, 1) := by decide +kernel
theorem dX8_kills_3 : decode cX8_kills 3 = .ok (.istore_n 3, 1) := by decide +kernel
theorem dX8_kills_4 : decode cX8_kills 4 = .ok (.iload_n 3, 1) := by decide +kernel
theorem dX8_kills_5 : decode cX8_kills 5 = .ok (.aload_n 0, 1) := by decide +kernel
theorem dX8_kills_6 : decode cX8_kills 6 = .ok (.getfield 123, 3) := by decide +kernel
theorem dX8_kills_9 : decode cX8_kills 9 = .ok (.if_icmp .ge 57, 3) := by decide +kernel
theorem dX8_kills_12 : decode cX8_kills 12 = .ok (.aload_n 0, 1) := by decide +kernel
theorem dX8_kills_13 : decode cX8_kills 13 = .ok (.getfield 7, 3) := by decide +kernel
theorem dX8_kills_16 : decode cX8_kills 16 = .ok (.iload_n 3, 1) := by decide +kernel
theorem dX8_kills_17 : decode cX8_kills 17 = .ok (.baload, 1) := by decide +kernel
theorem dX8_kills_18 : decode cX8_kills 18 = .ok (.ifCond .eq 40, 3) := by decide +kernel
theorem dX8_kills_21 : decode cX8_kills 21 = .ok (.iload_n 1, 1) := by decide +kernel
theorem dX8_kills_22 : decode cX8_kills 22 = .ok (.iconst (-1), 1) := by decide +kernel
theorem dX8_kills_23 : decode cX8_kills 23 = .ok (.if_icmp .eq 13, 3) := by decide +kernel
theorem dX8_kills_26 : decode cX8_kills 26 = .ok (.aload_n 0, 1) := by decide +kernel
theorem dX8_kills_27 : decode cX8_kills 27 = .ok (.getfield 13, 3) := by decide +kernel
theorem dX8_kills_30 : decode cX8_kills 30 = .ok (.iload_n 3, 1) := by decide +kernel
theorem dX8_kills_31 : decode cX8_kills 31 = .ok (.iaload, 1) := by decide +kernel
theorem dX8_kills_32 : decode cX8_kills 32 = .ok (.iload_n 1, 1) := by decide +kernel
theorem dX8_kills_33 : decode cX8_kills 33 = .ok (.if_icmp .ne 25, 3) := by decide +kernel
theorem dX8_kills_36 : decode cX8_kills 36 = .ok (.iload_n 2, 1) := by decide +kernel
theorem dX8_kills_37 : decode cX8_kills 37 = .ok (.iconst (-1), 1) := by decide +kernel
theorem dX8_kills_38 : decode cX8_kills 38 = .ok (.if_icmp .eq 16, 3) := by decide +kernel
theorem dX8_kills_41 : decode cX8_kills 41 = .ok (.aload_n 0, 1) := by decide +kernel
theorem dX8_kills_42 : decode cX8_kills 42 = .ok (.iload_n 3, 1) := by decide +kernel
theorem dX8_kills_43 : decode cX8_kills 43 = .ok (.invokevirtual 203, 3) := by decide +kernel
theorem dX8_kills_46 : decode cX8_kills 46 = .ok (.aload_n 0, 1) := by decide +kernel
theorem dX8_kills_47 : decode cX8_kills 47 = .ok (.iload_n 2, 1) := by decide +kernel
theorem dX8_kills_48 : decode cX8_kills 48 = .ok (.invokevirtual 203, 3) := by decide +kernel
theorem dX8_kills_51 : decode cX8_kills 51 = .ok (.if_icmp .le 7, 3) := by decide +kernel
theorem dX8_kills_54 : decode cX8_kills 54 = .ok (.iload_n 3, 1) := by decide +kernel
theorem dX8_kills_55 : decode cX8_kills 55 = .ok (.goto 4, 3) := by decide +kernel
theorem dX8_kills_58 : decode cX8_kills 58 = .ok (.iload_n 2, 1) := by decide +kernel
theorem dX8_kills_59 : decode cX8_kills 59 = .ok (.istore_n 2, 1) := by decide +kernel
theorem dX8_kills_60 : decode cX8_kills 60 = .ok (.iinc 3 1, 3) := by decide +kernel
theorem dX8_kills_63 : decode cX8_kills 63 = .ok (.goto (-59), 3) := by decide +kernel
theorem dX8_kills_66 : decode cX8_kills 66 = .ok (.iload_n 2, 1) := by decide +kernel
theorem dX8_kills_67 : decode cX8_kills 67 = .ok (.iconst (-1), 1) := by decide +kernel
theorem dX8_kills_68 : decode cX8_kills 68 = .ok (.if_icmp .eq 19, 3) := by decide +kernel
theorem dX8_kills_71 : decode cX8_kills 71 = .ok (.aload_n 0, 1) := by decide +kernel
theorem dX8_kills_72 : decode cX8_kills 72 = .ok (.iload_n 2, 1) := by decide +kernel
theorem dX8_kills_73 : decode cX8_kills 73 = .ok (.invokevirtual 206, 3) := by decide +kernel
theorem dX8_kills_76 : decode cX8_kills 76 = .ok (.aload_n 0, 1) := by decide +kernel
theorem dX8_kills_77 : decode cX8_kills 77 = .ok (.getfield 113, 3) := by decide +kernel
theorem dX8_kills_80 : decode cX8_kills 80 = .ok (.bipush 7, 2) := by decide +kernel
theorem dX8_kills_82 : decode cX8_kills 82 = .ok (.dup2, 1) := by decide +kernel
theorem dX8_kills_83 : decode cX8_kills 83 = .ok (.iaload, 1) := by decide +kernel
theorem dX8_kills_84 : decode cX8_kills 84 = .ok (.iconst 1, 1) := by decide +kernel
theorem dX8_kills_85 : decode cX8_kills 85 = .ok (.iadd, 1) := by decide +kernel
theorem dX8_kills_86 : decode cX8_kills 86 = .ok (.iastore, 1) := by decide +kernel
theorem dX8_kills_87 : decode cX8_kills 87 = .ok (.iload_n 2, 1) := by decide +kernel
theorem dX8_kills_88 : decode cX8_kills 88 = .ok (.ireturn, 1) := by decide +kernel
theorem dX8_takes_0 : decode cX8_takes 0 = .ok (.aload_n 0, 1) := by decide +kernel
theorem dX8_takes_1 : decode cX8_takes 1 = .ok (.getfield 23, 3) := by decide +kernel
theorem dX8_takes_4 : decode cX8_takes 4 = .ok (.iload_n 1, 1) := by decide +kernel
theorem dX8_takes_5 : decode cX8_takes 5 = .ok (.iaload, 1) := by decide +kernel
theorem dX8_takes_6 : decode cX8_takes 6 = .ok (.iconst (-1), 1) := by decide +kernel
theorem dX8_takes_7 : decode cX8_takes 7 = .ok (.if_icmp .eq 7, 3) := by decide +kernel
theorem dX8_takes_10 : decode cX8_takes 10 = .ok (.iconst 1, 1) := by decide +kernel
theorem dX8_takes_11 : decode cX8_takes 11 = .ok (.goto 4, 3) := by decide +kernel
theorem dX8_takes_14 : decode cX8_takes 14 = .ok (.iconst 0, 1) := by decide +kernel
theorem dX8_takes_15 : decode cX8_takes 15 = .ok (.istore_n 3, 1) := by decide +kernel
theorem dX8_takes_16 : decode cX8_takes 16 = .ok (.iload_n 3, 1) := by decide +kernel
theorem dX8_takes_17 : decode cX8_takes 17 = .ok (.ifCond .eq 61, 3) := by decide +kernel
theorem dX8_takes_20 : decode cX8_takes 20 = .ok (.aload_n 0, 1) := by decide +kernel
theorem dX8_takes_21 : decode cX8_takes 21 = .ok (.iload_n 1, 1) := by decide +kernel
theorem dX8_takes_22 : decode cX8_takes 22 = .ok (.invokevirtual 181, 3) := by decide +kernel
theorem dX8_takes_25 : decode cX8_takes 25 = .ok (.aload_n 0, 1) := by decide +kernel
theorem dX8_takes_26 : decode cX8_takes 26 = .ok (.getfield 23, 3) := by decide +kernel
theorem dX8_takes_29 : decode cX8_takes 29 = .ok (.iload_n 1, 1) := by decide +kernel
theorem dX8_takes_30 : decode cX8_takes 30 = .ok (.iaload, 1) := by decide +kernel
theorem dX8_takes_31 : decode cX8_takes 31 = .ok (.if_icmp .lt 47, 3) := by decide +kernel
theorem dX8_takes_34 : decode cX8_takes 34 = .ok (.aload_n 0, 1) := by decide +kernel
theorem dX8_takes_35 : decode cX8_takes 35 = .ok (.iload_n 1, 1) := by decide +kernel
theorem dX8_takes_36 : decode cX8_takes 36 = .ok (.invokevirtual 209, 3) := by decide +kernel
theorem dX8_takes_39 : decode cX8_takes 39 = .ok (.ifCond .ne (-23), 3) := by decide +kernel
theorem dX8_takes_42 : decode cX8_takes 42 = .ok (.aload_n 0, 1) := by decide +kernel
theorem dX8_takes_43 : decode cX8_takes 43 = .ok (.iload_n 1, 1) := by decide +kernel
theorem dX8_takes_44 : decode cX8_takes 44 = .ok (.invokevirtual 212, 3) := by decide +kernel
theorem dX8_takes_47 : decode cX8_takes 47 = .ok (.istore 4, 2) := by decide +kernel
theorem dX8_takes_49 : decode cX8_takes 49 = .ok (.iload 4, 2) := by decide +kernel
theorem dX8_takes_51 : decode cX8_takes 51 = .ok (.iload_n 2, 1) := by decide +kernel
theorem dX8_takes_52 : decode cX8_takes 52 = .ok (.if_icmp .ne 11, 3) := by decide +kernel
theorem dX8_takes_55 : decode cX8_takes 55 = .ok (.iload_n 2, 1) := by decide +kernel
theorem dX8_takes_56 : decode cX8_takes 56 = .ok (.iconst (-1), 1) := by decide +kernel
theorem dX8_takes_57 : decode cX8_takes 57 = .ok (.if_icmp .eq 6, 3) := by decide +kernel
theorem dX8_takes_60 : decode cX8_takes 60 = .ok (.bipush (-4), 2) := by decide +kernel
theorem dX8_takes_62 : decode cX8_takes 62 = .ok (.ireturn, 1) := by decide +kernel
theorem dX8_takes_63 : decode cX8_takes 63 = .ok (.iload 4, 2) := by decide +kernel
theorem dX8_takes_65 : decode cX8_takes 65 = .ok (.iconst (-1), 1) := by decide +kernel
theorem dX8_takes_66 : decode cX8_takes 66 = .ok (.if_icmp .eq 7, 3) := by decide +kernel
theorem dX8_takes_69 : decode cX8_takes 69 = .ok (.iconst 1, 1) := by decide +kernel
theorem dX8_takes_70 : decode cX8_takes 70 = .ok (.goto 4, 3) := by decide +kernel
theorem dX8_takes_73 : decode cX8_takes 73 = .ok (.iconst 0, 1) := by decide +kernel
theorem dX8_takes_74 : decode cX8_takes 74 = .ok (.istore_n 3, 1) := by decide +kernel
theorem dX8_takes_75 : decode cX8_takes 75 = .ok (.goto (-59), 3) := by decide +kernel
theorem dX8_takes_78 : decode cX8_takes 78 = .ok (.iconst 0, 1) := by decide +kernel
theorem dX8_takes_79 : decode cX8_takes 79 = .ok (.istore 4, 2) := by decide +kernel
theorem dX8_takes_81 : decode cX8_takes 81 = .ok (.iconst 0, 1) := by decide +kernel
theorem dX8_takes_82 : decode cX8_takes 82 = .ok (.istore 5, 2) := by decide +kernel
theorem dX8_takes_84 : decode cX8_takes 84 = .ok (.iload 5, 2) := by decide +kernel
theorem dX8_takes_86 : decode cX8_takes 86 = .ok (.bipush 24, 2) := by decide +kernel
theorem dX8_takes_88 : decode cX8_takes 88 = .ok (.if_icmp .ge 51, 3) := by decide +kernel
theorem dX8_takes_91 : decode cX8_takes 91 = .ok (.aload_n 0, 1) := by decide +kernel
theorem dX8_takes_92 : decode cX8_takes 92 = .ok (.getfield 56, 3) := by decide +kernel
theorem dX8_takes_95 : decode cX8_takes 95 = .ok (.iload 5, 2) := by decide +kernel
theorem dX8_takes_97 : decode cX8_takes 97 = .ok (.iaload, 1) := by decide +kernel
theorem dX8_takes_98 : decode cX8_takes 98 = .ok (.ifCond .ne 15, 3) := by decide +kernel
theorem dX8_takes_101 : decode cX8_takes 101 = .ok (.aload_n 0, 1) := by decide +kernel
theorem dX8_takes_102 : decode cX8_takes 102 = .ok (.iload 5, 2) := by decide +kernel
theorem dX8_takes_104 : decode cX8_takes 104 = .ok (.invokevirtual 215, 3) := by decide +kernel
theorem dX8_takes_107 : decode cX8_takes 107 = .ok (.ifCond .ne 6, 3) := by decide +kernel
theorem dX8_takes_110 : decode cX8_takes 110 = .ok (.iload 5, 2) := by decide +kernel
theorem dX8_takes_112 : decode cX8_takes 112 = .ok (.ireturn, 1) := by decide +kernel
theorem dX8_takes_113 : decode cX8_takes 113 = .ok (.iload 4, 2) := by decide +kernel
theorem dX8_takes_115 : decode cX8_takes 115 = .ok (.aload_n 0, 1) := by decide +kernel
theorem dX8_takes_116 : decode cX8_takes 116 = .ok (.getfield 56, 3) := by decide +kernel
theorem dX8_takes_119 : decode cX8_takes 119 = .ok (.iload 5, 2) := by decide +kernel
theorem dX8_takes_121 : decode cX8_takes 121 = .ok (.iaload, 1) := by decide +kernel
theorem dX8_takes_122 : decode cX8_takes 122 = .ok (.ifCond .ne 7, 3) := by decide +kernel
theorem dX8_takes_125 : decode cX8_takes 125 = .ok (.iconst 1, 1) := by decide +kernel
theorem dX8_takes_126 : decode cX8_takes 126 = .ok (.goto 4, 3) := by decide +kernel
theorem dX8_takes_129 : decode cX8_takes 129 = .ok (.iconst 0, 1) := by decide +kernel
theorem dX8_takes_130 : decode cX8_takes 130 = .ok (.ior, 1) := by decide +kernel
theorem dX8_takes_131 : decode cX8_takes 131 = .ok (.istore 4, 2) := by decide +kernel
theorem dX8_takes_133 : decode cX8_takes 133 = .ok (.iinc 5 1, 3) := by decide +kernel
theorem dX8_takes_136 : decode cX8_takes 136 = .ok (.goto (-52), 3) := by decide +kernel
theorem dX8_takes_139 : decode cX8_takes 139 = .ok (.iload 4, 2) := by decide +kernel
theorem dX8_takes_141 : decode cX8_takes 141 = .ok (.ifCond .eq 18, 3) := by decide +kernel
theorem dX8_takes_144 : decode cX8_takes 144 = .ok (.aload_n 0, 1) := by decide +kernel
theorem dX8_takes_145 : decode cX8_takes 145 = .ok (.iconst 0, 1) := by decide +kernel
theorem dX8_takes_146 : decode cX8_takes 146 = .ok (.invokevirtual 218, 3) := by decide +kernel
theorem dX8_takes_149 : decode cX8_takes 149 = .ok (.pop, 1) := by decide +kernel
theorem dX8_takes_150 : decode cX8_takes 150 = .ok (.aload_n 0, 1) := by decide +kernel
theorem dX8_takes_151 : decode cX8_takes 151 = .ok (.iconst 1, 1) := by decide +kernel
theorem dX8_takes_152 : decode cX8_takes 152 = .ok (.invokevirtual 218, 3) := by decide +kernel
theorem dX8_takes_155 : decode cX8_takes 155 = .ok (.pop, 1) := by decide +kernel
theorem dX8_takes_156 : decode cX8_takes 156 = .ok (.goto 36, 3) := by decide +kernel
theorem dX8_takes_159 : decode cX8_takes 159 = .ok (.aload_n 0, 1) := by decide +kernel
theorem dX8_takes_160 : decode cX8_takes 160 = .ok (.iconst (-1), 1) := by decide +kernel
theorem dX8_takes_161 : decode cX8_takes 161 = .ok (.invokevirtual 209, 3) := by decide +kernel
theorem dX8_takes_164 : decode cX8_takes 164 = .ok (.ifCond .ne 28, 3) := by decide +kernel
theorem dX8_takes_167 : decode cX8_takes 167 = .ok (.aload_n 0, 1) := by decide +kernel
theorem dX8_takes_168 : decode cX8_takes 168 = .ok (.iconst (-1), 1) := by decide +kernel
theorem dX8_takes_169 : decode cX8_takes 169 = .ok (.invokevirtual 212, 3) := by decide +kernel
theorem dX8_takes_172 : decode cX8_takes 172 = .ok (.istore 5, 2) := by decide +kernel
theorem dX8_takes_174 : decode cX8_takes 174 = .ok (.iload 5, 2) := by decide +kernel
theorem dX8_takes_176 : decode cX8_takes 176 = .ok (.iconst (-1), 1) := by decide +kernel
theorem dX8_takes_177 : decode cX8_takes 177 = .ok (.if_icmp .ne 6, 3) := by decide +kernel
theorem dX8_takes_180 : decode cX8_takes 180 = .ok (.bipush (-5), 2) := by decide +kernel
theorem dX8_takes_182 : decode cX8_takes 182 = .ok (.ireturn, 1) := by decide +kernel
theorem dX8_takes_183 : decode cX8_takes 183 = .ok (.iload 5, 2) := by decide +kernel
theorem dX8_takes_185 : decode cX8_takes 185 = .ok (.iload_n 2, 1) := by decide +kernel
theorem dX8_takes_186 : decode cX8_takes 186 = .ok (.if_icmp .ne 6, 3) := by decide +kernel
theorem dX8_takes_189 : decode cX8_takes 189 = .ok (.bipush (-4), 2) := by decide +kernel
theorem dX8_takes_191 : decode cX8_takes 191 = .ok (.ireturn, 1) := by decide +kernel
theorem dX8_takes_192 : decode cX8_takes 192 = .ok (.goto (-114), 3) := by decide +kernel
theorem dX8_caches_0 : decode cX8_caches 0 = .ok (.iconst 0, 1) := by decide +kernel
theorem dX8_caches_1 : decode cX8_caches 1 = .ok (.istore 4, 2) := by decide +kernel
theorem dX8_caches_3 : decode cX8_caches 3 = .ok (.iload 4, 2) := by decide +kernel
theorem dX8_caches_5 : decode cX8_caches 5 = .ok (.bipush 24, 2) := by decide +kernel
theorem dX8_caches_7 : decode cX8_caches 7 = .ok (.if_icmp .ge 34, 3) := by decide +kernel
theorem dX8_caches_10 : decode cX8_caches 10 = .ok (.aload_n 0, 1) := by decide +kernel
theorem dX8_caches_11 : decode cX8_caches 11 = .ok (.getfield 56, 3) := by decide +kernel
theorem dX8_caches_14 : decode cX8_caches 14 = .ok (.iload 4, 2) := by decide +kernel
theorem dX8_caches_16 : decode cX8_caches 16 = .ok (.iaload, 1) := by decide +kernel
theorem dX8_caches_17 : decode cX8_caches 17 = .ok (.iconst 2, 1) := by decide +kernel
theorem dX8_caches_18 : decode cX8_caches 18 = .ok (.if_icmp .ne 17, 3) := by decide +kernel
theorem dX8_caches_21 : decode cX8_caches 21 = .ok (.aload_n 0, 1) := by decide +kernel
theorem dX8_caches_22 : decode cX8_caches 22 = .ok (.getfield 74, 3) := by decide +kernel
theorem dX8_caches_25 : decode cX8_caches 25 = .ok (.iload 4, 2) := by decide +kernel
theorem dX8_caches_27 : decode cX8_caches 27 = .ok (.iaload, 1) := by decide +kernel
theorem dX8_caches_28 : decode cX8_caches 28 = .ok (.iload_n 1, 1) := by decide +kernel
theorem dX8_caches_29 : decode cX8_caches 29 = .ok (.if_icmp .ne 6, 3) := by decide +kernel
theorem dX8_caches_32 : decode cX8_caches 32 = .ok (.iload 4, 2) := by decide +kernel
theorem dX8_caches_34 : decode cX8_caches 34 = .ok (.ireturn, 1) := by decide +kernel
theorem dX8_caches_35 : decode cX8_caches 35 = .ok (.iinc 4 1, 3) := by decide +kernel
theorem dX8_caches_38 : decode cX8_caches 38 = .ok (.goto (-35), 3) := by decide +kernel
theorem dX8_caches_41 : decode cX8_caches 41 = .ok (.aload_n 0, 1) := by decide +kernel
theorem dX8_caches_42 : decode cX8_caches 42 = .ok (.iload_n 2, 1) := by decide +kernel
theorem dX8_caches_43 : decode cX8_caches 43 = .ok (.iload_n 3, 1) := by decide +kernel
theorem dX8_caches_44 : decode cX8_caches 44 = .ok (.invokevirtual 221, 3) := by decide +kernel
theorem dX8_caches_47 : decode cX8_caches 47 = .ok (.istore 4, 2) := by decide +kernel
theorem dX8_caches_49 : decode cX8_caches 49 = .ok (.iload 4, 2) := by decide +kernel
theorem dX8_caches_51 : decode cX8_caches 51 = .ok (.ifCond .lt 102, 3) := by decide +kernel
theorem dX8_caches_54 : decode cX8_caches 54 = .ok (.aload_n 0, 1) := by decide +kernel
theorem dX8_caches_55 : decode cX8_caches 55 = .ok (.getfield 86, 3) := by decide +kernel
theorem dX8_caches_58 : decode cX8_caches 58 = .ok (.iload_n 1, 1) := by decide +kernel
theorem dX8_caches_59 : decode cX8_caches 59 = .ok (.iaload, 1) := by decide +kernel
theorem dX8_caches_60 : decode cX8_caches 60 = .ok (.ifCond .le 29, 3) := by decide +kernel
theorem dX8_caches_63 : decode cX8_caches 63 = .ok (.aload_n 0, 1) := by decide +kernel
theorem dX8_caches_64 : decode cX8_caches 64 = .ok (.getfield 113, 3) := by decide +kernel
theorem dX8_caches_67 : decode cX8_caches 67 = .ok (.iconst 2, 1) := by decide +kernel
theorem dX8_caches_68 : decode cX8_caches 68 = .ok (.iaload, 1) := by decide +kernel
theorem dX8_caches_69 : decode cX8_caches 69 = .ok (.aload_n 0, 1) := by decide +kernel
theorem dX8_caches_70 : decode cX8_caches 70 = .ok (.getfield 86, 3) := by decide +kernel
theorem dX8_caches_73 : decode cX8_caches 73 = .ok (.iload_n 1, 1) := by decide +kernel
theorem dX8_caches_74 : decode cX8_caches 74 = .ok (.iaload, 1) := by decide +kernel
theorem dX8_caches_75 : decode cX8_caches 75 = .ok (.isub, 1) := by decide +kernel
theorem dX8_caches_76 : decode cX8_caches 76 = .ok (.aload_n 0, 1) := by decide +kernel
theorem dX8_caches_77 : decode cX8_caches 77 = .ok (.getfield 80, 3) := by decide +kernel
theorem dX8_caches_80 : decode cX8_caches 80 = .ok (.iconst 1, 1) := by decide +kernel
theorem dX8_caches_81 : decode cX8_caches 81 = .ok (.iaload, 1) := by decide +kernel
theorem dX8_caches_82 : decode cX8_caches 82 = .ok (.if_icmp .gt 7, 3) := by decide +kernel
theorem dX8_caches_85 : decode cX8_caches 85 = .ok (.iconst 1, 1) := by decide +kernel
theorem dX8_caches_86 : decode cX8_caches 86 = .ok (.goto 4, 3) := by decide +kernel
theorem dX8_caches_89 : decode cX8_caches 89 = .ok (.iconst 0, 1) := by decide +kernel
theorem dX8_caches_90 : decode cX8_caches 90 = .ok (.istore 5, 2) := by decide +kernel
theorem dX8_caches_92 : decode cX8_caches 92 = .ok (.aload_n 0, 1) := by decide +kernel
theorem dX8_caches_93 : decode cX8_caches 93 = .ok (.getfield 113, 3) := by decide +kernel
theorem dX8_caches_96 : decode cX8_caches 96 = .ok (.iconst 3, 1) := by decide +kernel
theorem dX8_caches_97 : decode cX8_caches 97 = .ok (.dup2, 1) := by decide +kernel
theorem dX8_caches_98 : decode cX8_caches 98 = .ok (.iaload, 1) := by decide +kernel
theorem dX8_caches_99 : decode cX8_caches 99 = .ok (.iload 5, 2) := by decide +kernel
theorem dX8_caches_101 : decode cX8_caches 101 = .ok (.ifCond .eq 7, 3) := by decide +kernel
theorem dX8_caches_104 : decode cX8_caches 104 = .ok (.iconst 1, 1) := by decide +kernel
theorem dX8_caches_105 : decode cX8_caches 105 = .ok (.goto 4, 3) := by decide +kernel
theorem dX8_caches_108 : decode cX8_caches 108 = .ok (.iconst 0, 1) := by decide +kernel
theorem dX8_caches_109 : decode cX8_caches 109 = .ok (.iadd, 1) := by decide +kernel
theorem dX8_caches_110 : decode cX8_caches 110 = .ok (.iastore, 1) := by decide +kernel
theorem dX8_caches_111 : decode cX8_caches 111 = .ok (.aload_n 0, 1) := by decide +kernel
theorem dX8_caches_112 : decode cX8_caches 112 = .ok (.getfield 113, 3) := by decide +kernel
theorem dX8_caches_115 : decode cX8_caches 115 = .ok (.iconst 4, 1) := by decide +kernel
theorem dX8_caches_116 : decode cX8_caches 116 = .ok (.dup2, 1) := by decide +kernel
theorem dX8_caches_117 : decode cX8_caches 117 = .ok (.iaload, 1) := by decide +kernel
theorem dX8_caches_118 : decode cX8_caches 118 = .ok (.iconst 1, 1) := by decide +kernel
theorem dX8_caches_119 : decode cX8_caches 119 = .ok (.iadd, 1) := by decide +kernel
theorem dX8_caches_120 : decode cX8_caches 120 = .ok (.iastore, 1) := by decide +kernel
theorem dX8_caches_121 : decode cX8_caches 121 = .ok (.aload_n 0, 1) := by decide +kernel
theorem dX8_caches_122 : decode cX8_caches 122 = .ok (.iload 4, 2) := by decide +kernel
theorem dX8_caches_124 : decode cX8_caches 124 = .ok (.iconst 2, 1) := by decide +kernel
theorem dX8_caches_125 : decode cX8_caches 125 = .ok (.aload_n 0, 1) := by decide +kernel
theorem dX8_caches_126 : decode cX8_caches 126 = .ok (.getfield 83, 3) := by decide +kernel
theorem dX8_caches_129 : decode cX8_caches 129 = .ok (.iload_n 1, 1) := by decide +kernel
theorem dX8_caches_130 : decode cX8_caches 130 = .ok (.iaload, 1) := by decide +kernel
theorem dX8_caches_131 : decode cX8_caches 131 = .ok (.iload_n 2, 1) := by decide +kernel
theorem dX8_caches_132 : decode cX8_caches 132 = .ok (.iload 5, 2) := by decide +kernel
theorem dX8_caches_134 : decode cX8_caches 134 = .ok (.ifCond .eq 7, 3) := by decide +kernel
theorem dX8_caches_137 : decode cX8_caches 137 = .ok (.iconst 1, 1) := by decide +kernel
theorem dX8_caches_138 : decode cX8_caches 138 = .ok (.goto 4, 3) := by decide +kernel
theorem dX8_caches_141 : decode cX8_caches 141 = .ok (.iconst 0, 1) := by decide +kernel
theorem dX8_caches_142 : decode cX8_caches 142 = .ok (.invokevirtual 224, 3) := by decide +kernel
theorem dX8_caches_145 : decode cX8_caches 145 = .ok (.aload_n 0, 1) := by decide +kernel
theorem dX8_caches_146 : decode cX8_caches 146 = .ok (.getfield 74, 3) := by decide +kernel
theorem dX8_caches_149 : decode cX8_caches 149 = .ok (.iload 4, 2) := by decide +kernel
theorem dX8_caches_151 : decode cX8_caches 151 = .ok (.iload_n 1, 1) := by decide +kernel
theorem dX8_caches_152 : decode cX8_caches 152 = .ok (.iastore, 1) := by decide +kernel
theorem dX8_caches_153 : decode cX8_caches 153 = .ok (.iload 4, 2) := by decide +kernel
theorem dX8_caches_155 : decode cX8_caches 155 = .ok (.ireturn, 1) := by decide +kernel
theorem dX8_space_0 : decode cX8_space 0 = .ok (.aload_n 0, 1) := by decide +kernel
theorem dX8_space_1 : decode cX8_space 1 = .ok (.iload_n 1, 1) := by decide +kernel
theorem dX8_space_2 : decode cX8_space 2 = .ok (.iconst 0, 1) := by decide +kernel
theorem dX8_space_3 : decode cX8_space 3 = .ok (.iconst 2, 1) := by decide +kernel
theorem dX8_space_4 : decode cX8_space 4 = .ok (.invokestatic 126, 3) := by decide +kernel
theorem dX8_space_7 : decode cX8_space 7 = .ok (.aload_n 0, 1) := by decide +kernel
theorem dX8_space_8 : decode cX8_space 8 = .ok (.getfield 123, 3) := by decide +kernel
theorem dX8_space_11 : decode cX8_space 11 = .ok (.bipush 6, 2) := by decide +kernel
theorem dX8_space_13 : decode cX8_space 13 = .ok (.if_icmp .ge 7, 3) := by decide +kernel
theorem dX8_space_16 : decode cX8_space 16 = .ok (.iconst 1, 1) := by decide +kernel
theorem dX8_space_17 : decode cX8_space 17 = .ok (.goto 4, 3) := by decide +kernel
theorem dX8_space_20 : decode cX8_space 20 = .ok (.iconst 0, 1) := by decide +kernel
theorem dX8_space_21 : decode cX8_space 21 = .ok (.invokevirtual 228, 3) := by decide +kernel
theorem dX8_space_24 : decode cX8_space 24 = .ok (.ifCond .ne 5, 3) := by decide +kernel
theorem dX8_space_27 : decode cX8_space 27 = .ok (.iconst 0, 1) := by decide +kernel
theorem dX8_space_28 : decode cX8_space 28 = .ok (.ireturn, 1) := by decide +kernel
theorem dX8_space_29 : decode cX8_space 29 = .ok (.aload_n 0, 1) := by decide +kernel
theorem dX8_space_30 : decode cX8_space 30 = .ok (.getfield 7, 3) := by decide +kernel
theorem dX8_space_33 : decode cX8_space 33 = .ok (.aload_n 0, 1) := by decide +kernel
theorem dX8_space_34 : decode cX8_space 34 = .ok (.getfield 123, 3) := by decide +kernel
theorem dX8_space_37 : decode cX8_space 37 = .ok (.iconst 1, 1) := by decide +kernel
theorem dX8_space_38 : decode cX8_space 38 = .ok (.bastore, 1) := by decide +kernel
theorem dX8_space_39 : decode cX8_space 39 = .ok (.aload_n 0, 1) := by decide +kernel
theorem dX8_space_40 : decode cX8_space 40 = .ok (.getfield 13, 3) := by decide +kernel
theorem dX8_space_43 : decode cX8_space 43 = .ok (.aload_n 0, 1) := by decide +kernel
theorem dX8_space_44 : decode cX8_space 44 = .ok (.getfield 123, 3) := by decide +kernel
theorem dX8_space_47 : decode cX8_space 47 = .ok (.iload_n 1, 1) := by decide +kernel
theorem dX8_space_48 : decode cX8_space 48 = .ok (.iastore, 1) := by decide +kernel
theorem dX8_space_49 : decode cX8_space 49 = .ok (.aload_n 0, 1) := by decide +kernel
theorem dX8_space_50 : decode cX8_space 50 = .ok (.dup, 1) := by decide +kernel
theorem dX8_space_51 : decode cX8_space 51 = .ok (.getfield 123, 3) := by decide +kernel
theorem dX8_space_54 : decode cX8_space 54 = .ok (.iconst 1, 1) := by decide +kernel
theorem dX8_space_55 : decode cX8_space 55 = .ok (.iadd, 1) := by decide +kernel
theorem dX8_space_56 : decode cX8_space 56 = .ok (.putfield 123, 3) := by decide +kernel
theorem dX8_space_59 : decode cX8_space 59 = .ok (.aload_n 0, 1) := by decide +kernel
theorem dX8_space_60 : decode cX8_space 60 = .ok (.getfield 123, 3) := by decide +kernel
theorem dX8_space_63 : decode cX8_space 63 = .ok (.iconst 1, 1) := by decide +kernel
theorem dX8_space_64 : decode cX8_space 64 = .ok (.isub, 1) := by decide +kernel
theorem dX8_space_65 : decode cX8_space 65 = .ok (.ireturn, 1) := by decide +kernel
theorem dX8_areAlike_0 : decode cX8_areAlike 0 = .ok (.aload_n 0, 1) := by decide +kernel
theorem dX8_areAlike_1 : decode cX8_areAlike 1 = .ok (.getfield 26, 3) := by decide +kernel
theorem dX8_areAlike_4 : decode cX8_areAlike 4 = .ok (.iload_n 1, 1) := by decide +kernel
theorem dX8_areAlike_5 : decode cX8_areAlike 5 = .ok (.iaload, 1) := by decide +kernel
theorem dX8_areAlike_6 : decode cX8_areAlike 6 = .ok (.aload_n 0, 1) := by decide +kernel
theorem dX8_areAlike_7 : decode cX8_areAlike 7 = .ok (.getfield 26, 3) := by decide +kernel
theorem dX8_areAlike_10 : decode cX8_areAlike 10 = .ok (.iload_n 2, 1) := by decide +kernel
theorem dX8_areAlike_11 : decode cX8_areAlike 11 = .ok (.iaload, 1) := by decide +kernel
theorem dX8_areAlike_12 : decode cX8_areAlike 12 = .ok (.if_icmp .ne 37, 3) := by decide +kernel
theorem dX8_areAlike_15 : decode cX8_areAlike 15 = .ok (.aload_n 0, 1) := by decide +kernel
theorem dX8_areAlike_16 : decode cX8_areAlike 16 = .ok (.getfield 38, 3) := by decide +kernel
theorem dX8_areAlike_19 : decode cX8_areAlike 19 = .ok (.iload_n 1, 1) := by decide +kernel
theorem dX8_areAlike_20 : decode cX8_areAlike 20 = .ok (.baload, 1) := by decide +kernel
theorem dX8_areAlike_21 : decode cX8_areAlike 21 = .ok (.aload_n 0, 1) := by decide +kernel
theorem dX8_areAlike_22 : decode cX8_areAlike 22 = .ok (.getfield 38, 3) := by decide +kernel
theorem dX8_areAlike_25 : decode cX8_areAlike 25 = .ok (.iload_n 2, 1) := by decide +kernel
theorem dX8_areAlike_26 : decode cX8_areAlike 26 = .ok (.baload, 1) := by decide +kernel
theorem dX8_areAlike_27 : decode cX8_areAlike 27 = .ok (.if_icmp .ne 22, 3) := by decide +kernel
theorem dX8_areAlike_30 : decode cX8_areAlike 30 = .ok (.aload_n 0, 1) := by decide +kernel
theorem dX8_areAlike_31 : decode cX8_areAlike 31 = .ok (.getfield 29, 3) := by decide +kernel
theorem dX8_areAlike_34 : decode cX8_areAlike 34 = .ok (.iload_n 1, 1) := by decide +kernel
theorem dX8_areAlike_35 : decode cX8_areAlike 35 = .ok (.iaload, 1) := by decide +kernel
theorem dX8_areAlike_36 : decode cX8_areAlike 36 = .ok (.aload_n 0, 1) := by decide +kernel
theorem dX8_areAlike_37 : decode cX8_areAlike 37 = .ok (.getfield 29, 3) := by decide +kernel
theorem dX8_areAlike_40 : decode cX8_areAlike 40 = .ok (.iload_n 2, 1) := by decide +kernel
theorem dX8_areAlike_41 : decode cX8_areAlike 41 = .ok (.iaload, 1) := by decide +kernel
theorem dX8_areAlike_42 : decode cX8_areAlike 42 = .ok (.if_icmp .ne 7, 3) := by decide +kernel
theorem dX8_areAlike_45 : decode cX8_areAlike 45 = .ok (.iconst 1, 1) := by decide +kernel
theorem dX8_areAlike_46 : decode cX8_areAlike 46 = .ok (.goto 4, 3) := by decide +kernel
theorem dX8_areAlike_49 : decode cX8_areAlike 49 = .ok (.iconst 0, 1) := by decide +kernel
theorem dX8_areAlike_50 : decode cX8_areAlike 50 = .ok (.istore_n 3, 1) := by decide +kernel
theorem dX8_areAlike_51 : decode cX8_areAlike 51 = .ok (.iload_n 3, 1) := by decide +kernel
theorem dX8_areAlike_52 : decode cX8_areAlike 52 = .ok (.ifCond .eq 49, 3) := by decide +kernel
theorem dX8_areAlike_55 : decode cX8_areAlike 55 = .ok (.aload_n 0, 1) := by decide +kernel
theorem dX8_areAlike_56 : decode cX8_areAlike 56 = .ok (.getfield 29, 3) := by decide +kernel
theorem dX8_areAlike_59 : decode cX8_areAlike 59 = .ok (.iload_n 1, 1) := by decide +kernel
theorem dX8_areAlike_60 : decode cX8_areAlike 60 = .ok (.iaload, 1) := by decide +kernel
theorem dX8_areAlike_61 : decode cX8_areAlike 61 = .ok (.iconst (-1), 1) := by decide +kernel
theorem dX8_areAlike_62 : decode cX8_areAlike 62 = .ok (.if_icmp .eq 35, 3) := by decide +kernel
theorem dX8_areAlike_65 : decode cX8_areAlike 65 = .ok (.aload_n 0, 1) := by decide +kernel
theorem dX8_areAlike_66 : decode cX8_areAlike 66 = .ok (.getfield 35, 3) := by decide +kernel
theorem dX8_areAlike_69 : decode cX8_areAlike 69 = .ok (.iload_n 1, 1) := by decide +kernel
theorem dX8_areAlike_70 : decode cX8_areAlike 70 = .ok (.baload, 1) := by decide +kernel
theorem dX8_areAlike_71 : decode cX8_areAlike 71 = .ok (.aload_n 0, 1) := by decide +kernel
theorem dX8_areAlike_72 : decode cX8_areAlike 72 = .ok (.getfield 35, 3) := by decide +kernel
theorem dX8_areAlike_75 : decode cX8_areAlike 75 = .ok (.iload_n 2, 1) := by decide +kernel
theorem dX8_areAlike_76 : decode cX8_areAlike 76 = .ok (.baload, 1) := by decide +kernel
theorem dX8_areAlike_77 : decode cX8_areAlike 77 = .ok (.if_icmp .ne 24, 3) := by decide +kernel
theorem dX8_areAlike_80 : decode cX8_areAlike 80 = .ok (.aload_n 0, 1) := by decide +kernel
theorem dX8_areAlike_81 : decode cX8_areAlike 81 = .ok (.getfield 32, 3) := by decide +kernel
theorem dX8_areAlike_84 : decode cX8_areAlike 84 = .ok (.iload_n 2, 1) := by decide +kernel
theorem dX8_areAlike_85 : decode cX8_areAlike 85 = .ok (.iaload, 1) := by decide +kernel
theorem dX8_areAlike_86 : decode cX8_areAlike 86 = .ok (.aload_n 0, 1) := by decide +kernel
theorem dX8_areAlike_87 : decode cX8_areAlike 87 = .ok (.getfield 32, 3) := by decide +kernel
theorem dX8_areAlike_90 : decode cX8_areAlike 90 = .ok (.iload_n 1, 1) := by decide +kernel
theorem dX8_areAlike_91 : decode cX8_areAlike 91 = .ok (.iaload, 1) := by decide +kernel
theorem dX8_areAlike_92 : decode cX8_areAlike 92 = .ok (.iconst 1, 1) := by decide +kernel
theorem dX8_areAlike_93 : decode cX8_areAlike 93 = .ok (.iadd, 1) := by decide +kernel
theorem dX8_areAlike_94 : decode cX8_areAlike 94 = .ok (.if_icmp .ne 7, 3) := by decide +kernel
theorem dX8_areAlike_97 : decode cX8_areAlike 97 = .ok (.iconst 1, 1) := by decide +kernel
theorem dX8_areAlike_98 : decode cX8_areAlike 98 = .ok (.goto 4, 3) := by decide +kernel
theorem dX8_areAlike_101 : decode cX8_areAlike 101 = .ok (.iconst 0, 1) := by decide +kernel
theorem dX8_areAlike_102 : decode cX8_areAlike 102 = .ok (.ireturn, 1) := by decide +kernel
theorem dX8_regionsOf_0 : decode cX8_regionsOf 0 = .ok (.iconst 0, 1) := by decide +kernel
theorem dX8_regionsOf_1 : decode cX8_regionsOf 1 = .ok (.istore_n 2, 1) := by decide +kernel
theorem dX8_regionsOf_2 : decode cX8_regionsOf 2 = .ok (.iconst 0, 1) := by decide +kernel
theorem dX8_regionsOf_3 : decode cX8_regionsOf 3 = .ok (.istore_n 3, 1) := by decide +kernel
theorem dX8_regionsOf_4 : decode cX8_regionsOf 4 = .ok (.iload_n 3, 1) := by decide +kernel
theorem dX8_regionsOf_5 : decode cX8_regionsOf 5 = .ok (.bipush 32, 2) := by decide +kernel
theorem dX8_regionsOf_7 : decode cX8_regionsOf 7 = .ok (.if_icmp .ge 64, 3) := by decide +kernel
theorem dX8_regionsOf_10 : decode cX8_regionsOf 10 = .ok (.bipush 32, 2) := by decide +kernel
theorem dX8_regionsOf_12 : decode cX8_regionsOf 12 = .ok (.iload_n 1, 1) := by decide +kernel
theorem dX8_regionsOf_13 : decode cX8_regionsOf 13 = .ok (.imul, 1) := by decide +kernel
theorem dX8_regionsOf_14 : decode cX8_regionsOf 14 = .ok (.iload_n 3, 1) := by decide +kernel
theorem dX8_regionsOf_15 : decode cX8_regionsOf 15 = .ok (.iadd, 1) := by decide +kernel
theorem dX8_regionsOf_16 : decode cX8_regionsOf 16 = .ok (.istore 4, 2) := by decide +kernel
theorem dX8_regionsOf_18 : decode cX8_regionsOf 18 = .ok (.iload_n 2, 1) := by decide +kernel
theorem dX8_regionsOf_19 : decode cX8_regionsOf 19 = .ok (.aload_n 0, 1) := by decide +kernel
theorem dX8_regionsOf_20 : decode cX8_regionsOf 20 = .ok (.getfield 26, 3) := by decide +kernel
theorem dX8_regionsOf_23 : decode cX8_regionsOf 23 = .ok (.iload 4, 2) := by decide +kernel
theorem dX8_regionsOf_25 : decode cX8_regionsOf 25 = .ok (.iaload, 1) := by decide +kernel
theorem dX8_regionsOf_26 : decode cX8_regionsOf 26 = .ok (.ifCond .le 36, 3) := by decide +kernel
theorem dX8_regionsOf_29 : decode cX8_regionsOf 29 = .ok (.iload_n 3, 1) := by decide +kernel
theorem dX8_regionsOf_30 : decode cX8_regionsOf 30 = .ok (.ifCond .eq 28, 3) := by decide +kernel
theorem dX8_regionsOf_33 : decode cX8_regionsOf 33 = .ok (.aload_n 0, 1) := by decide +kernel
theorem dX8_regionsOf_34 : decode cX8_regionsOf 34 = .ok (.getfield 26, 3) := by decide +kernel
theorem dX8_regionsOf_37 : decode cX8_regionsOf 37 = .ok (.iload 4, 2) := by decide +kernel
theorem dX8_regionsOf_39 : decode cX8_regionsOf 39 = .ok (.iconst 1, 1) := by decide +kernel
theorem dX8_regionsOf_40 : decode cX8_regionsOf 40 = .ok (.isub, 1) := by decide +kernel
theorem dX8_regionsOf_41 : decode cX8_regionsOf 41 = .ok (.iaload, 1) := by decide +kernel
theorem dX8_regionsOf_42 : decode cX8_regionsOf 42 = .ok (.ifCond .eq 16, 3) := by decide +kernel
theorem dX8_regionsOf_45 : decode cX8_regionsOf 45 = .ok (.aload_n 0, 1) := by decide +kernel
theorem dX8_regionsOf_46 : decode cX8_regionsOf 46 = .ok (.iload 4, 2) := by decide +kernel
theorem dX8_regionsOf_48 : decode cX8_regionsOf 48 = .ok (.iconst 1, 1) := by decide +kernel
theorem dX8_regionsOf_49 : decode cX8_regionsOf 49 = .ok (.isub, 1) := by decide +kernel
theorem dX8_regionsOf_50 : decode cX8_regionsOf 50 = .ok (.iload 4, 2) := by decide +kernel
theorem dX8_regionsOf_52 : decode cX8_regionsOf 52 = .ok (.invokevirtual 232, 3) := by decide +kernel
theorem dX8_regionsOf_55 : decode cX8_regionsOf 55 = .ok (.ifCond .ne 7, 3) := by decide +kernel
theorem dX8_regionsOf_58 : decode cX8_regionsOf 58 = .ok (.iconst 1, 1) := by decide +kernel
theorem dX8_regionsOf_59 : decode cX8_regionsOf 59 = .ok (.goto 4, 3) := by decide +kernel
theorem dX8_regionsOf_62 : decode cX8_regionsOf 62 = .ok (.iconst 0, 1) := by decide +kernel
theorem dX8_regionsOf_63 : decode cX8_regionsOf 63 = .ok (.iadd, 1) := by decide +kernel
theorem dX8_regionsOf_64 : decode cX8_regionsOf 64 = .ok (.istore_n 2, 1) := by decide +kernel
theorem dX8_regionsOf_65 : decode cX8_regionsOf 65 = .ok (.iinc 3 1, 3) := by decide +kernel
theorem dX8_regionsOf_68 : decode cX8_regionsOf 68 = .ok (.goto (-64), 3) := by decide +kernel
theorem dX8_regionsOf_71 : decode cX8_regionsOf 71 = .ok (.iload_n 2, 1) := by decide +kernel
theorem dX8_regionsOf_72 : decode cX8_regionsOf 72 = .ok (.ireturn, 1) := by decide +kernel
theorem dX8_areMapped_0 : decode cX8_areMapped 0 = .ok (.iconst 0, 1) := by decide +kernel
theorem dX8_areMapped_1 : decode cX8_areMapped 1 = .ok (.istore 5, 2) := by decide +kernel
theorem dX8_areMapped_3 : decode cX8_areMapped 3 = .ok (.iconst 0, 1) := by decide +kernel
theorem dX8_areMapped_4 : decode cX8_areMapped 4 = .ok (.istore 6, 2) := by decide +kernel
theorem dX8_areMapped_6 : decode cX8_areMapped 6 = .ok (.iload 6, 2) := by decide +kernel
theorem dX8_areMapped_8 : decode cX8_areMapped 8 = .ok (.iload_n 3, 1) := by decide +kernel
theorem dX8_areMapped_9 : decode cX8_areMapped 9 = .ok (.if_icmp .ge 36, 3) := by decide +kernel
theorem dX8_areMapped_12 : decode cX8_areMapped 12 = .ok (.iload 5, 2) := by decide +kernel
theorem dX8_areMapped_14 : decode cX8_areMapped 14 = .ok (.aload_n 0, 1) := by decide +kernel
theorem dX8_areMapped_15 : decode cX8_areMapped 15 = .ok (.getfield 26, 3) := by decide +kernel
theorem dX8_areMapped_18 : decode cX8_areMapped 18 = .ok (.bipush 32, 2) := by decide +kernel
theorem dX8_areMapped_20 : decode cX8_areMapped 20 = .ok (.iload_n 1, 1) := by decide +kernel
theorem dX8_areMapped_21 : decode cX8_areMapped 21 = .ok (.imul, 1) := by decide +kernel
theorem dX8_areMapped_22 : decode cX8_areMapped 22 = .ok (.iload_n 2, 1) := by decide +kernel
theorem dX8_areMapped_23 : decode cX8_areMapped 23 = .ok (.iadd, 1) := by decide +kernel
theorem dX8_areMapped_24 : decode cX8_areMapped 24 = .ok (.iload 6, 2) := by decide +kernel
theorem dX8_areMapped_26 : decode cX8_areMapped 26 = .ok (.iadd, 1) := by decide +kernel
theorem dX8_areMapped_27 : decode cX8_areMapped 27 = .ok (.iaload, 1) := by decide +kernel
theorem dX8_areMapped_28 : decode cX8_areMapped 28 = .ok (.ifCond .le 7, 3) := by decide +kernel
theorem dX8_areMapped_31 : decode cX8_areMapped 31 = .ok (.iconst 1, 1) := by decide +kernel
theorem dX8_areMapped_32 : decode cX8_areMapped 32 = .ok (.goto 4, 3) := by decide +kernel
theorem dX8_areMapped_35 : decode cX8_areMapped 35 = .ok (.iconst 0, 1) := by decide +kernel
theorem dX8_areMapped_36 : decode cX8_areMapped 36 = .ok (.iadd, 1) := by decide +kernel
theorem dX8_areMapped_37 : decode cX8_areMapped 37 = .ok (.istore 5, 2) := by decide +kernel
theorem dX8_areMapped_39 : decode cX8_areMapped 39 = .ok (.iinc 6 1, 3) := by decide +kernel
theorem dX8_areMapped_42 : decode cX8_areMapped 42 = .ok (.goto (-36), 3) := by decide +kernel
theorem dX8_areMapped_45 : decode cX8_areMapped 45 = .ok (.iload 5, 2) := by decide +kernel
theorem dX8_areMapped_47 : decode cX8_areMapped 47 = .ok (.iload 4, 2) := by decide +kernel
theorem dX8_areMapped_49 : decode cX8_areMapped 49 = .ok (.ifCond .eq 7, 3) := by decide +kernel
theorem dX8_areMapped_52 : decode cX8_areMapped 52 = .ok (.iload_n 3, 1) := by decide +kernel
theorem dX8_areMapped_53 : decode cX8_areMapped 53 = .ok (.goto 4, 3) := by decide +kernel
theorem dX8_areMapped_56 : decode cX8_areMapped 56 = .ok (.iconst 0, 1) := by decide +kernel
theorem dX8_areMapped_57 : decode cX8_areMapped 57 = .ok (.if_icmp .ne 7, 3) := by decide +kernel
theorem dX8_areMapped_60 : decode cX8_areMapped 60 = .ok (.iconst 1, 1) := by decide +kernel
theorem dX8_areMapped_61 : decode cX8_areMapped 61 = .ok (.goto 4, 3) := by decide +kernel
theorem dX8_areMapped_64 : decode cX8_areMapped 64 = .ok (.iconst 0, 1) := by decide +kernel
theorem dX8_areMapped_65 : decode cX8_areMapped 65 = .ok (.ireturn, 1) := by decide +kernel
theorem dX8_lays_0 : decode cX8_lays 0 = .ok (.aload_n 0, 1) := by decide +kernel
theorem dX8_lays_1 : decode cX8_lays 1 = .ok (.getfield 26, 3) := by decide +kernel
theorem dX8_lays_4 : decode cX8_lays 4 = .ok (.iload_n 1, 1) := by decide +kernel
theorem dX8_lays_5 : decode cX8_lays 5 = .ok (.iload_n 2, 1) := by decide +kernel
theorem dX8_lays_6 : decode cX8_lays 6 = .ok (.iastore, 1) := by decide +kernel
theorem dX8_lays_7 : decode cX8_lays 7 = .ok (.aload_n 0, 1) := by decide +kernel
theorem dX8_lays_8 : decode cX8_lays 8 = .ok (.getfield 29, 3) := by decide +kernel
theorem dX8_lays_11 : decode cX8_lays 11 = .ok (.iload_n 1, 1) := by decide +kernel
theorem dX8_lays_12 : decode cX8_lays 12 = .ok (.iload_n 3, 1) := by decide +kernel
theorem dX8_lays_13 : decode cX8_lays 13 = .ok (.iastore, 1) := by decide +kernel
theorem dX8_lays_14 : decode cX8_lays 14 = .ok (.aload_n 0, 1) := by decide +kernel
theorem dX8_lays_15 : decode cX8_lays 15 = .ok (.getfield 32, 3) := by decide +kernel
theorem dX8_lays_18 : decode cX8_lays 18 = .ok (.iload_n 1, 1) := by decide +kernel
theorem dX8_lays_19 : decode cX8_lays 19 = .ok (.iload_n 3, 1) := by decide +kernel
theorem dX8_lays_20 : decode cX8_lays 20 = .ok (.iconst (-1), 1) := by decide +kernel
theorem dX8_lays_21 : decode cX8_lays 21 = .ok (.if_icmp .ne 7, 3) := by decide +kernel
theorem dX8_lays_24 : decode cX8_lays 24 = .ok (.iconst 0, 1) := by decide +kernel
theorem dX8_lays_25 : decode cX8_lays 25 = .ok (.goto 5, 3) := by decide +kernel
theorem dX8_lays_28 : decode cX8_lays 28 = .ok (.iload 4, 2) := by decide +kernel
theorem dX8_lays_30 : decode cX8_lays 30 = .ok (.iastore, 1) := by decide +kernel
theorem dX8_lays_31 : decode cX8_lays 31 = .ok (.aload_n 0, 1) := by decide +kernel
theorem dX8_lays_32 : decode cX8_lays 32 = .ok (.getfield 35, 3) := by decide +kernel
theorem dX8_lays_35 : decode cX8_lays 35 = .ok (.iload_n 1, 1) := by decide +kernel
theorem dX8_lays_36 : decode cX8_lays 36 = .ok (.iload_n 3, 1) := by decide +kernel
theorem dX8_lays_37 : decode cX8_lays 37 = .ok (.iconst (-1), 1) := by decide +kernel
theorem dX8_lays_38 : decode cX8_lays 38 = .ok (.if_icmp .eq 12, 3) := by decide +kernel
theorem dX8_lays_41 : decode cX8_lays 41 = .ok (.iload 5, 2) := by decide +kernel
theorem dX8_lays_43 : decode cX8_lays 43 = .ok (.ifCond .eq 7, 3) := by decide +kernel
theorem dX8_lays_46 : decode cX8_lays 46 = .ok (.iconst 1, 1) := by decide +kernel
theorem dX8_lays_47 : decode cX8_lays 47 = .ok (.goto 4, 3) := by decide +kernel
theorem dX8_lays_50 : decode cX8_lays 50 = .ok (.iconst 0, 1) := by decide +kernel
theorem dX8_lays_51 : decode cX8_lays 51 = .ok (.bastore, 1) := by decide +kernel
theorem dX8_lays_52 : decode cX8_lays 52 = .ok (.aload_n 0, 1) := by decide +kernel
theorem dX8_lays_53 : decode cX8_lays 53 = .ok (.getfield 38, 3) := by decide +kernel
theorem dX8_lays_56 : decode cX8_lays 56 = .ok (.iload_n 1, 1) := by decide +kernel
theorem dX8_lays_57 : decode cX8_lays 57 = .ok (.iload 6, 2) := by decide +kernel
theorem dX8_lays_59 : decode cX8_lays 59 = .ok (.bastore, 1) := by decide +kernel
theorem dX8_lays_60 : decode cX8_lays 60 = .ok (.aload_n 0, 1) := by decide +kernel
theorem dX8_lays_61 : decode cX8_lays 61 = .ok (.getfield 41, 3) := by decide +kernel
theorem dX8_lays_64 : decode cX8_lays 64 = .ok (.iload_n 1, 1) := by decide +kernel
theorem dX8_lays_65 : decode cX8_lays 65 = .ok (.iconst 0, 1) := by decide +kernel
theorem dX8_lays_66 : decode cX8_lays 66 = .ok (.iastore, 1) := by decide +kernel
theorem dX8_lays_67 : decode cX8_lays 67 = .ok (.aload_n 0, 1) := by decide +kernel
theorem dX8_lays_68 : decode cX8_lays 68 = .ok (.getfield 47, 3) := by decide +kernel
theorem dX8_lays_71 : decode cX8_lays 71 = .ok (.iload_n 1, 1) := by decide +kernel
theorem dX8_lays_72 : decode cX8_lays 72 = .ok (.iconst 0, 1) := by decide +kernel
theorem dX8_lays_73 : decode cX8_lays 73 = .ok (.bastore, 1) := by decide +kernel
theorem dX8_lays_74 : decode cX8_lays 74 = .ok (.aload_n 0, 1) := by decide +kernel
theorem dX8_lays_75 : decode cX8_lays 75 = .ok (.getfield 53, 3) := by decide +kernel
theorem dX8_lays_78 : decode cX8_lays 78 = .ok (.iload_n 1, 1) := by decide +kernel
theorem dX8_lays_79 : decode cX8_lays 79 = .ok (.iconst 0, 1) := by decide +kernel
theorem dX8_lays_80 : decode cX8_lays 80 = .ok (.bastore, 1) := by decide +kernel
theorem dX8_lays_81 : decode cX8_lays 81 = .ok (.return_, 1) := by decide +kernel
theorem dX8_map_0 : decode cX8_map 0 = .ok (.iload_n 2, 1) := by decide +kernel
theorem dX8_map_1 : decode cX8_map 1 = .ok (.iload_n 3, 1) := by decide +kernel
theorem dX8_map_2 : decode cX8_map 2 = .ok (.invokestatic 235, 3) := by decide +kernel
theorem dX8_map_5 : decode cX8_map 5 = .ok (.ifCond .eq 53, 3) := by decide +kernel
theorem dX8_map_8 : decode cX8_map 8 = .ok (.iload 4, 2) := by decide +kernel
theorem dX8_map_10 : decode cX8_map 10 = .ok (.iconst 1, 1) := by decide +kernel
theorem dX8_map_11 : decode cX8_map 11 = .ok (.iconst 3, 1) := by decide +kernel
theorem dX8_map_12 : decode cX8_map 12 = .ok (.invokestatic 126, 3) := by decide +kernel
theorem dX8_map_15 : decode cX8_map 15 = .ok (.ifCond .eq 43, 3) := by decide +kernel
theorem dX8_map_18 : decode cX8_map 18 = .ok (.iload 5, 2) := by decide +kernel
theorem dX8_map_20 : decode cX8_map 20 = .ok (.iconst (-1), 1) := by decide +kernel
theorem dX8_map_21 : decode cX8_map 21 = .ok (.iconst 2, 1) := by decide +kernel
theorem dX8_map_22 : decode cX8_map 22 = .ok (.invokestatic 126, 3) := by decide +kernel
theorem dX8_map_25 : decode cX8_map 25 = .ok (.ifCond .eq 33, 3) := by decide +kernel
theorem dX8_map_28 : decode cX8_map 28 = .ok (.iload 5, 2) := by decide +kernel
theorem dX8_map_30 : decode cX8_map 30 = .ok (.iconst (-1), 1) := by decide +kernel
theorem dX8_map_31 : decode cX8_map 31 = .ok (.if_icmp .eq 23, 3) := by decide +kernel
theorem dX8_map_34 : decode cX8_map 34 = .ok (.iload 6, 2) := by decide +kernel
theorem dX8_map_36 : decode cX8_map 36 = .ok (.iconst 0, 1) := by decide +kernel
theorem dX8_map_37 : decode cX8_map 37 = .ok (.bipush 7, 2) := by decide +kernel
theorem dX8_map_39 : decode cX8_map 39 = .ok (.invokestatic 126, 3) := by decide +kernel
theorem dX8_map_42 : decode cX8_map 42 = .ok (.ifCond .eq 16, 3) := by decide +kernel
theorem dX8_map_45 : decode cX8_map 45 = .ok (.iload 6, 2) := by decide +kernel
theorem dX8_map_47 : decode cX8_map 47 = .ok (.iload_n 3, 1) := by decide +kernel
theorem dX8_map_48 : decode cX8_map 48 = .ok (.iadd, 1) := by decide +kernel
theorem dX8_map_49 : decode cX8_map 49 = .ok (.bipush 8, 2) := by decide +kernel
theorem dX8_map_51 : decode cX8_map 51 = .ok (.if_icmp .gt 7, 3) := by decide +kernel
theorem dX8_map_54 : decode cX8_map 54 = .ok (.iconst 1, 1) := by decide +kernel
theorem dX8_map_55 : decode cX8_map 55 = .ok (.goto 4, 3) := by decide +kernel
theorem dX8_map_58 : decode cX8_map 58 = .ok (.iconst 0, 1) := by decide +kernel
theorem dX8_map_59 : decode cX8_map 59 = .ok (.istore 9, 2) := by decide +kernel
theorem dX8_map_61 : decode cX8_map 61 = .ok (.aload_n 0, 1) := by decide +kernel
theorem dX8_map_62 : decode cX8_map 62 = .ok (.aload_n 0, 1) := by decide +kernel
theorem dX8_map_63 : decode cX8_map 63 = .ok (.iload_n 1, 1) := by decide +kernel
theorem dX8_map_64 : decode cX8_map 64 = .ok (.invokevirtual 130, 3) := by decide +kernel
theorem dX8_map_67 : decode cX8_map 67 = .ok (.iload 9, 2) := by decide +kernel
theorem dX8_map_69 : decode cX8_map 69 = .ok (.aload_n 0, 1) := by decide +kernel
theorem dX8_map_70 : decode cX8_map 70 = .ok (.iload_n 1, 1) := by decide +kernel
theorem dX8_map_71 : decode cX8_map 71 = .ok (.invokevirtual 238, 3) := by decide +kernel
theorem dX8_map_74 : decode cX8_map 74 = .ok (.ifCond .eq 23, 3) := by decide +kernel
theorem dX8_map_77 : decode cX8_map 77 = .ok (.iload 9, 2) := by decide +kernel
theorem dX8_map_79 : decode cX8_map 79 = .ok (.ifCond .eq 18, 3) := by decide +kernel
theorem dX8_map_82 : decode cX8_map 82 = .ok (.aload_n 0, 1) := by decide +kernel
theorem dX8_map_83 : decode cX8_map 83 = .ok (.iload_n 1, 1) := by decide +kernel
theorem dX8_map_84 : decode cX8_map 84 = .ok (.iload_n 2, 1) := by decide +kernel
theorem dX8_map_85 : decode cX8_map 85 = .ok (.iload_n 3, 1) := by decide +kernel
theorem dX8_map_86 : decode cX8_map 86 = .ok (.iconst 0, 1) := by decide +kernel
theorem dX8_map_87 : decode cX8_map 87 = .ok (.invokevirtual 241, 3) := by decide +kernel
theorem dX8_map_90 : decode cX8_map 90 = .ok (.ifCond .eq 7, 3) := by decide +kernel
theorem dX8_map_93 : decode cX8_map 93 = .ok (.iconst 1, 1) := by decide +kernel
theorem dX8_map_94 : decode cX8_map 94 = .ok (.goto 4, 3) := by decide +kernel
theorem dX8_map_97 : decode cX8_map 97 = .ok (.iconst 0, 1) := by decide +kernel
theorem dX8_map_98 : decode cX8_map 98 = .ok (.invokevirtual 245, 3) := by decide +kernel
theorem dX8_map_101 : decode cX8_map 101 = .ok (.ifCond .ne 5, 3) := by decide +kernel
theorem dX8_map_104 : decode cX8_map 104 = .ok (.iconst 0, 1) := by decide +kernel
theorem dX8_map_105 : decode cX8_map 105 = .ok (.ireturn, 1) := by decide +kernel
theorem dX8_map_106 : decode cX8_map 106 = .ok (.iconst 0, 1) := by decide +kernel
theorem dX8_map_107 : decode cX8_map 107 = .ok (.istore 10, 2) := by decide +kernel
theorem dX8_map_109 : decode cX8_map 109 = .ok (.iload 10, 2) := by decide +kernel
theorem dX8_map_111 : decode cX8_map 111 = .ok (.iload_n 3, 1) := by decide +kernel
theorem dX8_map_112 : decode cX8_map 112 = .ok (.if_icmp .ge 35, 3) := by decide +kernel
theorem dX8_map_115 : decode cX8_map 115 = .ok (.aload_n 0, 1) := by decide +kernel
theorem dX8_map_116 : decode cX8_map 116 = .ok (.bipush 32, 2) := by decide +kernel
theorem dX8_map_118 : decode cX8_map 118 = .ok (.iload_n 1, 1) := by decide +kernel
theorem dX8_map_119 : decode cX8_map 119 = .ok (.imul, 1) := by decide +kernel
theorem dX8_map_120 : decode cX8_map 120 = .ok (.iload_n 2, 1) := by decide +kernel
theorem dX8_map_121 : decode cX8_map 121 = .ok (.iadd, 1) := by decide +kernel
theorem dX8_map_122 : decode cX8_map 122 = .ok (.iload 10, 2) := by decide +kernel
theorem dX8_map_124 : decode cX8_map 124 = .ok (.iadd, 1) := by decide +kernel
theorem dX8_map_125 : decode cX8_map 125 = .ok (.iload 4, 2) := by decide +kernel
theorem dX8_map_127 : decode cX8_map 127 = .ok (.iload 5, 2) := by decide +kernel
theorem dX8_map_129 : decode cX8_map 129 = .ok (.iload 6, 2) := by decide +kernel
theorem dX8_map_131 : decode cX8_map 131 = .ok (.iload 10, 2) := by decide +kernel
theorem dX8_map_133 : decode cX8_map 133 = .ok (.iadd, 1) := by decide +kernel
theorem dX8_map_134 : decode cX8_map 134 = .ok (.iload 7, 2) := by decide +kernel
theorem dX8_map_136 : decode cX8_map 136 = .ok (.iload 8, 2) := by decide +kernel
theorem dX8_map_138 : decode cX8_map 138 = .ok (.invokevirtual 248, 3) := by decide +kernel
theorem dX8_map_141 : decode cX8_map 141 = .ok (.iinc 10 1, 3) := by decide +kernel
theorem dX8_map_144 : decode cX8_map 144 = .ok (.goto (-35), 3) := by decide +kernel
theorem dX8_map_147 : decode cX8_map 147 = .ok (.aload_n 0, 1) := by decide +kernel
theorem dX8_map_148 : decode cX8_map 148 = .ok (.iload_n 1, 1) := by decide +kernel
theorem dX8_map_149 : decode cX8_map 149 = .ok (.invokevirtual 252, 3) := by decide +kernel
theorem dX8_map_152 : decode cX8_map 152 = .ok (.ireturn, 1) := by decide +kernel
theorem dX8_unmap_0 : decode cX8_unmap 0 = .ok (.aload_n 0, 1) := by decide +kernel
theorem dX8_unmap_1 : decode cX8_unmap 1 = .ok (.aload_n 0, 1) := by decide +kernel
theorem dX8_unmap_2 : decode cX8_unmap 2 = .ok (.iload_n 1, 1) := by decide +kernel
theorem dX8_unmap_3 : decode cX8_unmap 3 = .ok (.invokevirtual 130, 3) := by decide +kernel
theorem dX8_unmap_6 : decode cX8_unmap 6 = .ok (.iload_n 2, 1) := by decide +kernel
theorem dX8_unmap_7 : decode cX8_unmap 7 = .ok (.iload_n 3, 1) := by decide +kernel
theorem dX8_unmap_8 : decode cX8_unmap 8 = .ok (.invokestatic 235, 3) := by decide +kernel
theorem dX8_unmap_11 : decode cX8_unmap 11 = .ok (.aload_n 0, 1) := by decide +kernel
theorem dX8_unmap_12 : decode cX8_unmap 12 = .ok (.iload_n 1, 1) := by decide +kernel
theorem dX8_unmap_13 : decode cX8_unmap 13 = .ok (.invokevirtual 238, 3) := by decide +kernel
theorem dX8_unmap_16 : decode cX8_unmap 16 = .ok (.invokevirtual 245, 3) := by decide +kernel
theorem dX8_unmap_19 : decode cX8_unmap 19 = .ok (.ifCond .ne 5, 3) := by decide +kernel
theorem dX8_unmap_22 : decode cX8_unmap 22 = .ok (.iconst 0, 1) := by decide +kernel
theorem dX8_unmap_23 : decode cX8_unmap 23 = .ok (.ireturn, 1) := by decide +kernel
theorem dX8_unmap_24 : decode cX8_unmap 24 = .ok (.iconst 0, 1) := by decide +kernel
theorem dX8_unmap_25 : decode cX8_unmap 25 = .ok (.istore 4, 2) := by decide +kernel
theorem dX8_unmap_27 : decode cX8_unmap 27 = .ok (.bipush 32, 2) := by decide +kernel
theorem dX8_unmap_29 : decode cX8_unmap 29 = .ok (.iload_n 1, 1) := by decide +kernel
theorem dX8_unmap_30 : decode cX8_unmap 30 = .ok (.imul, 1) := by decide +kernel
theorem dX8_unmap_31 : decode cX8_unmap 31 = .ok (.iload_n 2, 1) := by decide +kernel
theorem dX8_unmap_32 : decode cX8_unmap 32 = .ok (.iadd, 1) := by decide +kernel
theorem dX8_unmap_33 : decode cX8_unmap 33 = .ok (.istore 5, 2) := by decide +kernel
theorem dX8_unmap_35 : decode cX8_unmap 35 = .ok (.iload 5, 2) := by decide +kernel
theorem dX8_unmap_37 : decode cX8_unmap 37 = .ok (.bipush 32, 2) := by decide +kernel
theorem dX8_unmap_39 : decode cX8_unmap 39 = .ok (.iload_n 1, 1) := by decide +kernel
theorem dX8_unmap_40 : decode cX8_unmap 40 = .ok (.imul, 1) := by decide +kernel
theorem dX8_unmap_41 : decode cX8_unmap 41 = .ok (.iload_n 2, 1) := by decide +kernel
theorem dX8_unmap_42 : decode cX8_unmap 42 = .ok (.iadd, 1) := by decide +kernel
theorem dX8_unmap_43 : decode cX8_unmap 43 = .ok (.iload_n 3, 1) := by decide +kernel
theorem dX8_unmap_44 : decode cX8_unmap 44 = .ok (.iadd, 1) := by decide +kernel
theorem dX8_unmap_45 : decode cX8_unmap 45 = .ok (.if_icmp .ge 28, 3) := by decide +kernel
theorem dX8_unmap_48 : decode cX8_unmap 48 = .ok (.aload_n 0, 1) := by decide +kernel
theorem dX8_unmap_49 : decode cX8_unmap 49 = .ok (.getfield 26, 3) := by decide +kernel
theorem dX8_unmap_52 : decode cX8_unmap 52 = .ok (.iload 5, 2) := by decide +kernel
theorem dX8_unmap_54 : decode cX8_unmap 54 = .ok (.iaload, 1) := by decide +kernel
theorem dX8_unmap_55 : decode cX8_unmap 55 = .ok (.ifCond .le 12, 3) := by decide +kernel
theorem dX8_unmap_58 : decode cX8_unmap 58 = .ok (.iinc 4 1, 3) := by decide +kernel
theorem dX8_unmap_61 : decode cX8_unmap 61 = .ok (.aload_n 0, 1) := by decide +kernel
theorem dX8_unmap_62 : decode cX8_unmap 62 = .ok (.iload 5, 2) := by decide +kernel
theorem dX8_unmap_64 : decode cX8_unmap 64 = .ok (.invokevirtual 200, 3) := by decide +kernel
theorem dX8_unmap_67 : decode cX8_unmap 67 = .ok (.iinc 5 1, 3) := by decide +kernel
theorem dX8_unmap_70 : decode cX8_unmap 70 = .ok (.goto (-35), 3) := by decide +kernel
theorem dX8_unmap_73 : decode cX8_unmap 73 = .ok (.iload 4, 2) := by decide +kernel
theorem dX8_unmap_75 : decode cX8_unmap 75 = .ok (.ireturn, 1) := by decide +kernel
theorem dX8_protect_0 : decode cX8_protect 0 = .ok (.aload_n 0, 1) := by decide +kernel
theorem dX8_protect_1 : decode cX8_protect 1 = .ok (.aload_n 0, 1) := by decide +kernel
theorem dX8_protect_2 : decode cX8_protect 2 = .ok (.iload_n 1, 1) := by decide +kernel
theorem dX8_protect_3 : decode cX8_protect 3 = .ok (.invokevirtual 130, 3) := by decide +kernel
theorem dX8_protect_6 : decode cX8_protect 6 = .ok (.iload_n 2, 1) := by decide +kernel
theorem dX8_protect_7 : decode cX8_protect 7 = .ok (.iload_n 3, 1) := by decide +kernel
theorem dX8_protect_8 : decode cX8_protect 8 = .ok (.invokestatic 235, 3) := by decide +kernel
theorem dX8_protect_11 : decode cX8_protect 11 = .ok (.ifCond .eq 17, 3) := by decide +kernel
theorem dX8_protect_14 : decode cX8_protect 14 = .ok (.iload 4, 2) := by decide +kernel
theorem dX8_protect_16 : decode cX8_protect 16 = .ok (.iconst 1, 1) := by decide +kernel
theorem dX8_protect_17 : decode cX8_protect 17 = .ok (.iconst 3, 1) := by decide +kernel
theorem dX8_protect_18 : decode cX8_protect 18 = .ok (.invokestatic 126, 3) := by decide +kernel
theorem dX8_protect_21 : decode cX8_protect 21 = .ok (.ifCond .eq 7, 3) := by decide +kernel
theorem dX8_protect_24 : decode cX8_protect 24 = .ok (.iconst 1, 1) := by decide +kernel
theorem dX8_protect_25 : decode cX8_protect 25 = .ok (.goto 4, 3) := by decide +kernel
theorem dX8_protect_28 : decode cX8_protect 28 = .ok (.iconst 0, 1) := by decide +kernel
theorem dX8_protect_29 : decode cX8_protect 29 = .ok (.aload_n 0, 1) := by decide +kernel
theorem dX8_protect_30 : decode cX8_protect 30 = .ok (.iload_n 1, 1) := by decide +kernel
theorem dX8_protect_31 : decode cX8_protect 31 = .ok (.invokevirtual 238, 3) := by decide +kernel
theorem dX8_protect_34 : decode cX8_protect 34 = .ok (.invokevirtual 245, 3) := by decide +kernel
theorem dX8_protect_37 : decode cX8_protect 37 = .ok (.ifCond .ne 5, 3) := by decide +kernel
theorem dX8_protect_40 : decode cX8_protect 40 = .ok (.iconst 0, 1) := by decide +kernel
theorem dX8_protect_41 : decode cX8_protect 41 = .ok (.ireturn, 1) := by decide +kernel
theorem dX8_protect_42 : decode cX8_protect 42 = .ok (.bipush 32, 2) := by decide +kernel
theorem dX8_protect_44 : decode cX8_protect 44 = .ok (.iload_n 1, 1) := by decide +kernel
theorem dX8_protect_45 : decode cX8_protect 45 = .ok (.imul, 1) := by decide +kernel
theorem dX8_protect_46 : decode cX8_protect 46 = .ok (.iload_n 2, 1) := by decide +kernel
theorem dX8_protect_47 : decode cX8_protect 47 = .ok (.iadd, 1) := by decide +kernel
theorem dX8_protect_48 : decode cX8_protect 48 = .ok (.istore 5, 2) := by decide +kernel
theorem dX8_protect_50 : decode cX8_protect 50 = .ok (.iload 5, 2) := by decide +kernel
theorem dX8_protect_52 : decode cX8_protect 52 = .ok (.bipush 32, 2) := by decide +kernel
theorem dX8_protect_54 : decode cX8_protect 54 = .ok (.iload_n 1, 1) := by decide +kernel
theorem dX8_protect_55 : decode cX8_protect 55 = .ok (.imul, 1) := by decide +kernel
theorem dX8_protect_56 : decode cX8_protect 56 = .ok (.iload_n 2, 1) := by decide +kernel
theorem dX8_protect_57 : decode cX8_protect 57 = .ok (.iadd, 1) := by decide +kernel
theorem dX8_protect_58 : decode cX8_protect 58 = .ok (.iload_n 3, 1) := by decide +kernel
theorem dX8_protect_59 : decode cX8_protect 59 = .ok (.iadd, 1) := by decide +kernel
theorem dX8_protect_60 : decode cX8_protect 60 = .ok (.if_icmp .ge 40, 3) := by decide +kernel
theorem dX8_protect_63 : decode cX8_protect 63 = .ok (.aload_n 0, 1) := by decide +kernel
theorem dX8_protect_64 : decode cX8_protect 64 = .ok (.getfield 26, 3) := by decide +kernel
theorem dX8_protect_67 : decode cX8_protect 67 = .ok (.iload 5, 2) := by decide +kernel
theorem dX8_protect_69 : decode cX8_protect 69 = .ok (.iaload, 1) := by decide +kernel
theorem dX8_protect_70 : decode cX8_protect 70 = .ok (.ifCond .le 24, 3) := by decide +kernel
theorem dX8_protect_73 : decode cX8_protect 73 = .ok (.aload_n 0, 1) := by decide +kernel
theorem dX8_protect_74 : decode cX8_protect 74 = .ok (.iload 5, 2) := by decide +kernel
theorem dX8_protect_76 : decode cX8_protect 76 = .ok (.invokevirtual 255, 3) := by decide +kernel
theorem dX8_protect_79 : decode cX8_protect 79 = .ok (.aload_n 0, 1) := by decide +kernel
theorem dX8_protect_80 : decode cX8_protect 80 = .ok (.iload 5, 2) := by decide +kernel
theorem dX8_protect_82 : decode cX8_protect 82 = .ok (.invokevirtual 152, 3) := by decide +kernel
theorem dX8_protect_85 : decode cX8_protect 85 = .ok (.aload_n 0, 1) := by decide +kernel
theorem dX8_protect_86 : decode cX8_protect 86 = .ok (.getfield 26, 3) := by decide +kernel
theorem dX8_protect_89 : decode cX8_protect 89 = .ok (.iload 5, 2) := by decide +kernel
theorem dX8_protect_91 : decode cX8_protect 91 = .ok (.iload 4, 2) := by decide +kernel
theorem dX8_protect_93 : decode cX8_protect 93 = .ok (.iastore, 1) := by decide +kernel
theorem dX8_protect_94 : decode cX8_protect 94 = .ok (.iinc 5 1, 3) := by decide +kernel
theorem dX8_protect_97 : decode cX8_protect 97 = .ok (.goto (-47), 3) := by decide +kernel
theorem dX8_protect_100 : decode cX8_protect 100 = .ok (.aload_n 0, 1) := by decide +kernel
theorem dX8_protect_101 : decode cX8_protect 101 = .ok (.iload_n 1, 1) := by decide +kernel
theorem dX8_protect_102 : decode cX8_protect 102 = .ok (.invokevirtual 252, 3) := by decide +kernel
theorem dX8_protect_105 : decode cX8_protect 105 = .ok (.ireturn, 1) := by decide +kernel
theorem dX8_move_0 : decode cX8_move 0 = .ok (.iload_n 2, 1) := by decide +kernel
theorem dX8_move_1 : decode cX8_move 1 = .ok (.iload_n 3, 1) := by decide +kernel
theorem dX8_move_2 : decode cX8_move 2 = .ok (.invokestatic 235, 3) := by decide +kernel
theorem dX8_move_5 : decode cX8_move 5 = .ok (.ifCond .eq 27, 3) := by decide +kernel
theorem dX8_move_8 : decode cX8_move 8 = .ok (.iload 4, 2) := by decide +kernel
theorem dX8_move_10 : decode cX8_move 10 = .ok (.iconst 0, 1) := by decide +kernel
theorem dX8_move_11 : decode cX8_move 11 = .ok (.bipush 31, 2) := by decide +kernel
theorem dX8_move_13 : decode cX8_move 13 = .ok (.invokestatic 126, 3) := by decide +kernel
theorem dX8_move_16 : decode cX8_move 16 = .ok (.ifCond .eq 16, 3) := by decide +kernel
theorem dX8_move_19 : decode cX8_move 19 = .ok (.iload 4, 2) := by decide +kernel
theorem dX8_move_21 : decode cX8_move 21 = .ok (.iload_n 3, 1) := by decide +kernel
theorem dX8_move_22 : decode cX8_move 22 = .ok (.iadd, 1) := by decide +kernel
theorem dX8_move_23 : decode cX8_move 23 = .ok (.bipush 32, 2) := by decide +kernel
theorem dX8_move_25 : decode cX8_move 25 = .ok (.if_icmp .gt 7, 3) := by decide +kernel
theorem dX8_move_28 : decode cX8_move 28 = .ok (.iconst 1, 1) := by decide +kernel
theorem dX8_move_29 : decode cX8_move 29 = .ok (.goto 4, 3) := by decide +kernel
theorem dX8_move_32 : decode cX8_move 32 = .ok (.iconst 0, 1) := by decide +kernel
theorem dX8_move_33 : decode cX8_move 33 = .ok (.istore 5, 2) := by decide +kernel
theorem dX8_move_35 : decode cX8_move 35 = .ok (.aload_n 0, 1) := by decide +kernel
theorem dX8_move_36 : decode cX8_move 36 = .ok (.aload_n 0, 1) := by decide +kernel
theorem dX8_move_37 : decode cX8_move 37 = .ok (.iload_n 1, 1) := by decide +kernel
theorem dX8_move_38 : decode cX8_move 38 = .ok (.invokevirtual 130, 3) := by decide +kernel
theorem dX8_move_41 : decode cX8_move 41 = .ok (.iload 5, 2) := by decide +kernel
theorem dX8_move_43 : decode cX8_move 43 = .ok (.aload_n 0, 1) := by decide +kernel
theorem dX8_move_44 : decode cX8_move 44 = .ok (.iload_n 1, 1) := by decide +kernel
theorem dX8_move_45 : decode cX8_move 45 = .ok (.invokevirtual 238, 3) := by decide +kernel
theorem dX8_move_48 : decode cX8_move 48 = .ok (.ifCond .eq 35, 3) := by decide +kernel
theorem dX8_move_51 : decode cX8_move 51 = .ok (.iload 5, 2) := by decide +kernel
theorem dX8_move_53 : decode cX8_move 53 = .ok (.ifCond .eq 30, 3) := by decide +kernel
theorem dX8_move_56 : decode cX8_move 56 = .ok (.aload_n 0, 1) := by decide +kernel
theorem dX8_move_57 : decode cX8_move 57 = .ok (.iload_n 1, 1) := by decide +kernel
theorem dX8_move_58 : decode cX8_move 58 = .ok (.iload_n 2, 1) := by decide +kernel
theorem dX8_move_59 : decode cX8_move 59 = .ok (.iload_n 3, 1) := by decide +kernel
theorem dX8_move_60 : decode cX8_move 60 = .ok (.iconst 1, 1) := by decide +kernel
theorem dX8_move_61 : decode cX8_move 61 = .ok (.invokevirtual 241, 3) := by decide +kernel
theorem dX8_move_64 : decode cX8_move 64 = .ok (.ifCond .eq 19, 3) := by decide +kernel
theorem dX8_move_67 : decode cX8_move 67 = .ok (.aload_n 0, 1) := by decide +kernel
theorem dX8_move_68 : decode cX8_move 68 = .ok (.iload_n 1, 1) := by decide +kernel
theorem dX8_move_69 : decode cX8_move 69 = .ok (.iload 4, 2) := by decide +kernel
theorem dX8_move_71 : decode cX8_move 71 = .ok (.iload_n 3, 1) := by decide +kernel
theorem dX8_move_72 : decode cX8_move 72 = .ok (.iconst 0, 1) := by decide +kernel
theorem dX8_move_73 : decode cX8_move 73 = .ok (.invokevirtual 241, 3) := by decide +kernel
theorem dX8_move_76 : decode cX8_move 76 = .ok (.ifCond .eq 7, 3) := by decide +kernel
theorem dX8_move_79 : decode cX8_move 79 = .ok (.iconst 1, 1) := by decide +kernel
theorem dX8_move_80 : decode cX8_move 80 = .ok (.goto 4, 3) := by decide +kernel
theorem dX8_move_83 : decode cX8_move 83 = .ok (.iconst 0, 1) := by decide +kernel
theorem dX8_move_84 : decode cX8_move 84 = .ok (.invokevirtual 245, 3) := by decide +kernel
theorem dX8_move_87 : decode cX8_move 87 = .ok (.ifCond .ne 5, 3) := by decide +kernel
theorem dX8_move_90 : decode cX8_move 90 = .ok (.iconst 0, 1) := by decide +kernel
theorem dX8_move_91 : decode cX8_move 91 = .ok (.ireturn, 1) := by decide +kernel
theorem dX8_move_92 : decode cX8_move 92 = .ok (.iconst 0, 1) := by decide +kernel
theorem dX8_move_93 : decode cX8_move 93 = .ok (.istore 6, 2) := by decide +kernel
theorem dX8_move_95 : decode cX8_move 95 = .ok (.iload 6, 2) := by decide +kernel
theorem dX8_move_97 : decode cX8_move 97 = .ok (.iload_n 3, 1) := by decide +kernel
theorem dX8_move_98 : decode cX8_move 98 = .ok (.if_icmp .ge 105, 3) := by decide +kernel
theorem dX8_move_101 : decode cX8_move 101 = .ok (.bipush 32, 2) := by decide +kernel
theorem dX8_move_103 : decode cX8_move 103 = .ok (.iload_n 1, 1) := by decide +kernel
theorem dX8_move_104 : decode cX8_move 104 = .ok (.imul, 1) := by decide +kernel
theorem dX8_move_105 : decode cX8_move 105 = .ok (.iload_n 2, 1) := by decide +kernel
theorem dX8_move_106 : decode cX8_move 106 = .ok (.iadd, 1) := by decide +kernel
theorem dX8_move_107 : decode cX8_move 107 = .ok (.iload 6, 2) := by decide +kernel
theorem dX8_move_109 : decode cX8_move 109 = .ok (.iadd, 1) := by decide +kernel
theorem dX8_move_110 : decode cX8_move 110 = .ok (.istore 7, 2) := by decide +kernel
theorem dX8_move_112 : decode cX8_move 112 = .ok (.bipush 32, 2) := by decide +kernel
theorem dX8_move_114 : decode cX8_move 114 = .ok (.iload_n 1, 1) := by decide +kernel
theorem dX8_move_115 : decode cX8_move 115 = .ok (.imul, 1) := by decide +kernel
theorem dX8_move_116 : decode cX8_move 116 = .ok (.iload 4, 2) := by decide +kernel
theorem dX8_move_118 : decode cX8_move 118 = .ok (.iadd, 1) := by decide +kernel
theorem dX8_move_119 : decode cX8_move 119 = .ok (.iload 6, 2) := by decide +kernel
theorem dX8_move_121 : decode cX8_move 121 = .ok (.iadd, 1) := by decide +kernel
theorem dX8_move_122 : decode cX8_move 122 = .ok (.istore 8, 2) := by decide +kernel
theorem dX8_move_124 : decode cX8_move 124 = .ok (.aload_n 0, 1) := by decide +kernel
theorem dX8_move_125 : decode cX8_move 125 = .ok (.iload 7, 2) := by decide +kernel
theorem dX8_move_127 : decode cX8_move 127 = .ok (.iload 8, 2) := by decide +kernel
theorem dX8_move_129 : decode cX8_move 129 = .ok (.invokevirtual 258, 3) := by decide +kernel
theorem dX8_move_132 : decode cX8_move 132 = .ok (.aload_n 0, 1) := by decide +kernel
theorem dX8_move_133 : decode cX8_move 133 = .ok (.getfield 47, 3) := by decide +kernel
theorem dX8_move_136 : decode cX8_move 136 = .ok (.iload 8, 2) := by decide +kernel
theorem dX8_move_138 : decode cX8_move 138 = .ok (.aload_n 0, 1) := by decide +kernel
theorem dX8_move_139 : decode cX8_move 139 = .ok (.getfield 47, 3) := by decide +kernel
theorem dX8_move_142 : decode cX8_move 142 = .ok (.iload 7, 2) := by decide +kernel
theorem dX8_move_144 : decode cX8_move 144 = .ok (.baload, 1) := by decide +kernel
theorem dX8_move_145 : decode cX8_move 145 = .ok (.bastore, 1) := by decide +kernel
theorem dX8_move_146 : decode cX8_move 146 = .ok (.aload_n 0, 1) := by decide +kernel
theorem dX8_move_147 : decode cX8_move 147 = .ok (.getfield 41, 3) := by decide +kernel
theorem dX8_move_150 : decode cX8_move 150 = .ok (.iload 7, 2) := by decide +kernel
theorem dX8_move_152 : decode cX8_move 152 = .ok (.iaload, 1) := by decide +kernel
theorem dX8_move_153 : decode cX8_move 153 = .ok (.iconst 1, 1) := by decide +kernel
theorem dX8_move_154 : decode cX8_move 154 = .ok (.if_icmp .ne 9, 3) := by decide +kernel
theorem dX8_move_157 : decode cX8_move 157 = .ok (.aload_n 0, 1) := by decide +kernel
theorem dX8_move_158 : decode cX8_move 158 = .ok (.iload 7, 2) := by decide +kernel
theorem dX8_move_160 : decode cX8_move 160 = .ok (.invokevirtual 149, 3) := by decide +kernel
theorem dX8_move_163 : decode cX8_move 163 = .ok (.aload_n 0, 1) := by decide +kernel
theorem dX8_move_164 : decode cX8_move 164 = .ok (.iload 7, 2) := by decide +kernel
theorem dX8_move_166 : decode cX8_move 166 = .ok (.invokevirtual 152, 3) := by decide +kernel
theorem dX8_move_169 : decode cX8_move 169 = .ok (.aload_n 0, 1) := by decide +kernel
theorem dX8_move_170 : decode cX8_move 170 = .ok (.getfield 26, 3) := by decide +kernel
theorem dX8_move_173 : decode cX8_move 173 = .ok (.iload 7, 2) := by decide +kernel
theorem dX8_move_175 : decode cX8_move 175 = .ok (.iconst 0, 1) := by decide +kernel
theorem dX8_move_176 : decode cX8_move 176 = .ok (.iastore, 1) := by decide +kernel
theorem dX8_move_177 : decode cX8_move 177 = .ok (.aload_n 0, 1) := by decide +kernel
theorem dX8_move_178 : decode cX8_move 178 = .ok (.getfield 41, 3) := by decide +kernel
theorem dX8_move_181 : decode cX8_move 181 = .ok (.iload 7, 2) := by decide +kernel
theorem dX8_move_183 : decode cX8_move 183 = .ok (.iconst 0, 1) := by decide +kernel
theorem dX8_move_184 : decode cX8_move 184 = .ok (.iastore, 1) := by decide +kernel
theorem dX8_move_185 : decode cX8_move 185 = .ok (.aload_n 0, 1) := by decide +kernel
theorem dX8_move_186 : decode cX8_move 186 = .ok (.iload 7, 2) := by decide +kernel
theorem dX8_move_188 : decode cX8_move 188 = .ok (.invokevirtual 162, 3) := by decide +kernel
theorem dX8_move_191 : decode cX8_move 191 = .ok (.aload_n 0, 1) := by decide +kernel
theorem dX8_move_192 : decode cX8_move 192 = .ok (.iload 8, 2) := by decide +kernel
theorem dX8_move_194 : decode cX8_move 194 = .ok (.invokevirtual 162, 3) := by decide +kernel
theorem dX8_move_197 : decode cX8_move 197 = .ok (.iinc 6 1, 3) := by decide +kernel
theorem dX8_move_200 : decode cX8_move 200 = .ok (.goto (-105), 3) := by decide +kernel
theorem dX8_move_203 : decode cX8_move 203 = .ok (.aload_n 0, 1) := by decide +kernel
theorem dX8_move_204 : decode cX8_move 204 = .ok (.iload_n 1, 1) := by decide +kernel
theorem dX8_move_205 : decode cX8_move 205 = .ok (.invokevirtual 252, 3) := by decide +kernel
theorem dX8_move_208 : decode cX8_move 208 = .ok (.ireturn, 1) := by decide +kernel
theorem dX8_copies_0 : decode cX8_copies 0 = .ok (.aload_n 0, 1) := by decide +kernel
theorem dX8_copies_1 : decode cX8_copies 1 = .ok (.iload_n 2, 1) := by decide +kernel
theorem dX8_copies_2 : decode cX8_copies 2 = .ok (.aload_n 0, 1) := by decide +kernel
theorem dX8_copies_3 : decode cX8_copies 3 = .ok (.getfield 26, 3) := by decide +kernel
theorem dX8_copies_6 : decode cX8_copies 6 = .ok (.iload_n 1, 1) := by decide +kernel
theorem dX8_copies_7 : decode cX8_copies 7 = .ok (.iaload, 1) := by decide +kernel
theorem dX8_copies_8 : decode cX8_copies 8 = .ok (.aload_n 0, 1) := by decide +kernel
theorem dX8_copies_9 : decode cX8_copies 9 = .ok (.getfield 29, 3) := by decide +kernel
theorem dX8_copies_12 : decode cX8_copies 12 = .ok (.iload_n 1, 1) := by decide +kernel
theorem dX8_copies_13 : decode cX8_copies 13 = .ok (.iaload, 1) := by decide +kernel
theorem dX8_copies_14 : decode cX8_copies 14 = .ok (.aload_n 0, 1) := by decide +kernel
theorem dX8_copies_15 : decode cX8_copies 15 = .ok (.getfield 32, 3) := by decide +kernel
theorem dX8_copies_18 : decode cX8_copies 18 = .ok (.iload_n 1, 1) := by decide +kernel
theorem dX8_copies_19 : decode cX8_copies 19 = .ok (.iaload, 1) := by decide +kernel
theorem dX8_copies_20 : decode cX8_copies 20 = .ok (.aload_n 0, 1) := by decide +kernel
theorem dX8_copies_21 : decode cX8_copies 21 = .ok (.getfield 35, 3) := by decide +kernel
theorem dX8_copies_24 : decode cX8_copies 24 = .ok (.iload_n 1, 1) := by decide +kernel
theorem dX8_copies_25 : decode cX8_copies 25 = .ok (.baload, 1) := by decide +kernel
theorem dX8_copies_26 : decode cX8_copies 26 = .ok (.aload_n 0, 1) := by decide +kernel
theorem dX8_copies_27 : decode cX8_copies 27 = .ok (.getfield 38, 3) := by decide +kernel
theorem dX8_copies_30 : decode cX8_copies 30 = .ok (.iload_n 1, 1) := by decide +kernel
theorem dX8_copies_31 : decode cX8_copies 31 = .ok (.baload, 1) := by decide +kernel
theorem dX8_copies_32 : decode cX8_copies 32 = .ok (.invokevirtual 248, 3) := by decide +kernel
theorem dX8_copies_35 : decode cX8_copies 35 = .ok (.aload_n 0, 1) := by decide +kernel
theorem dX8_copies_36 : decode cX8_copies 36 = .ok (.getfield 41, 3) := by decide +kernel
theorem dX8_copies_39 : decode cX8_copies 39 = .ok (.iload_n 2, 1) := by decide +kernel
theorem dX8_copies_40 : decode cX8_copies 40 = .ok (.aload_n 0, 1) := by decide +kernel
theorem dX8_copies_41 : decode cX8_copies 41 = .ok (.getfield 41, 3) := by decide +kernel
theorem dX8_copies_44 : decode cX8_copies 44 = .ok (.iload_n 1, 1) := by decide +kernel
theorem dX8_copies_45 : decode cX8_copies 45 = .ok (.iaload, 1) := by decide +kernel
theorem dX8_copies_46 : decode cX8_copies 46 = .ok (.iastore, 1) := by decide +kernel
theorem dX8_copies_47 : decode cX8_copies 47 = .ok (.aload_n 0, 1) := by decide +kernel
theorem dX8_copies_48 : decode cX8_copies 48 = .ok (.getfield 44, 3) := by decide +kernel
theorem dX8_copies_51 : decode cX8_copies 51 = .ok (.iload_n 2, 1) := by decide +kernel
theorem dX8_copies_52 : decode cX8_copies 52 = .ok (.aload_n 0, 1) := by decide +kernel
theorem dX8_copies_53 : decode cX8_copies 53 = .ok (.getfield 44, 3) := by decide +kernel
theorem dX8_copies_56 : decode cX8_copies 56 = .ok (.iload_n 1, 1) := by decide +kernel
theorem dX8_copies_57 : decode cX8_copies 57 = .ok (.iaload, 1) := by decide +kernel
theorem dX8_copies_58 : decode cX8_copies 58 = .ok (.iastore, 1) := by decide +kernel
theorem dX8_copies_59 : decode cX8_copies 59 = .ok (.aload_n 0, 1) := by decide +kernel
theorem dX8_copies_60 : decode cX8_copies 60 = .ok (.getfield 50, 3) := by decide +kernel
theorem dX8_copies_63 : decode cX8_copies 63 = .ok (.iload_n 2, 1) := by decide +kernel
theorem dX8_copies_64 : decode cX8_copies 64 = .ok (.aload_n 0, 1) := by decide +kernel
theorem dX8_copies_65 : decode cX8_copies 65 = .ok (.getfield 50, 3) := by decide +kernel
theorem dX8_copies_68 : decode cX8_copies 68 = .ok (.iload_n 1, 1) := by decide +kernel
theorem dX8_copies_69 : decode cX8_copies 69 = .ok (.iaload, 1) := by decide +kernel
theorem dX8_copies_70 : decode cX8_copies 70 = .ok (.iastore, 1) := by decide +kernel
theorem dX8_copies_71 : decode cX8_copies 71 = .ok (.return_, 1) := by decide +kernel
theorem dX8_fork_0 : decode cX8_fork 0 = .ok (.aload_n 0, 1) := by decide +kernel
theorem dX8_fork_1 : decode cX8_fork 1 = .ok (.aload_n 0, 1) := by decide +kernel
theorem dX8_fork_2 : decode cX8_fork 2 = .ok (.iload_n 1, 1) := by decide +kernel
theorem dX8_fork_3 : decode cX8_fork 3 = .ok (.invokevirtual 130, 3) := by decide +kernel
theorem dX8_fork_6 : decode cX8_fork 6 = .ok (.aload_n 0, 1) := by decide +kernel
theorem dX8_fork_7 : decode cX8_fork 7 = .ok (.iload_n 1, 1) := by decide +kernel
theorem dX8_fork_8 : decode cX8_fork 8 = .ok (.invokevirtual 238, 3) := by decide +kernel
theorem dX8_fork_11 : decode cX8_fork 11 = .ok (.ifCond .eq 16, 3) := by decide +kernel
theorem dX8_fork_14 : decode cX8_fork 14 = .ok (.aload_n 0, 1) := by decide +kernel
theorem dX8_fork_15 : decode cX8_fork 15 = .ok (.getfield 123, 3) := by decide +kernel
theorem dX8_fork_18 : decode cX8_fork 18 = .ok (.bipush 6, 2) := by decide +kernel
theorem dX8_fork_20 : decode cX8_fork 20 = .ok (.if_icmp .ge 7, 3) := by decide +kernel
theorem dX8_fork_23 : decode cX8_fork 23 = .ok (.iconst 1, 1) := by decide +kernel
theorem dX8_fork_24 : decode cX8_fork 24 = .ok (.goto 4, 3) := by decide +kernel
theorem dX8_fork_27 : decode cX8_fork 27 = .ok (.iconst 0, 1) := by decide +kernel
theorem dX8_fork_28 : decode cX8_fork 28 = .ok (.invokevirtual 228, 3) := by decide +kernel
theorem dX8_fork_31 : decode cX8_fork 31 = .ok (.ifCond .ne 5, 3) := by decide +kernel
theorem dX8_fork_34 : decode cX8_fork 34 = .ok (.iconst 0, 1) := by decide +kernel
theorem dX8_fork_35 : decode cX8_fork 35 = .ok (.ireturn, 1) := by decide +kernel
theorem dX8_fork_36 : decode cX8_fork 36 = .ok (.aload_n 0, 1) := by decide +kernel
theorem dX8_fork_37 : decode cX8_fork 37 = .ok (.getfield 123, 3) := by decide +kernel
theorem dX8_fork_40 : decode cX8_fork 40 = .ok (.istore_n 2, 1) := by decide +kernel
theorem dX8_fork_41 : decode cX8_fork 41 = .ok (.aload_n 0, 1) := by decide +kernel
theorem dX8_fork_42 : decode cX8_fork 42 = .ok (.dup, 1) := by decide +kernel
theorem dX8_fork_43 : decode cX8_fork 43 = .ok (.getfield 123, 3) := by decide +kernel
theorem dX8_fork_46 : decode cX8_fork 46 = .ok (.iconst 1, 1) := by decide +kernel
theorem dX8_fork_47 : decode cX8_fork 47 = .ok (.iadd, 1) := by decide +kernel
theorem dX8_fork_48 : decode cX8_fork 48 = .ok (.putfield 123, 3) := by decide +kernel
theorem dX8_fork_51 : decode cX8_fork 51 = .ok (.aload_n 0, 1) := by decide +kernel
theorem dX8_fork_52 : decode cX8_fork 52 = .ok (.getfield 7, 3) := by decide +kernel
theorem dX8_fork_55 : decode cX8_fork 55 = .ok (.iload_n 2, 1) := by decide +kernel
theorem dX8_fork_56 : decode cX8_fork 56 = .ok (.iconst 1, 1) := by decide +kernel
theorem dX8_fork_57 : decode cX8_fork 57 = .ok (.bastore, 1) := by decide +kernel
theorem dX8_fork_58 : decode cX8_fork 58 = .ok (.aload_n 0, 1) := by decide +kernel
theorem dX8_fork_59 : decode cX8_fork 59 = .ok (.getfield 13, 3) := by decide +kernel
theorem dX8_fork_62 : decode cX8_fork 62 = .ok (.iload_n 2, 1) := by decide +kernel
theorem dX8_fork_63 : decode cX8_fork 63 = .ok (.aload_n 0, 1) := by decide +kernel
theorem dX8_fork_64 : decode cX8_fork 64 = .ok (.getfield 13, 3) := by decide +kernel
theorem dX8_fork_67 : decode cX8_fork 67 = .ok (.iload_n 1, 1) := by decide +kernel
theorem dX8_fork_68 : decode cX8_fork 68 = .ok (.iaload, 1) := by decide +kernel
theorem dX8_fork_69 : decode cX8_fork 69 = .ok (.iastore, 1) := by decide +kernel
theorem dX8_fork_70 : decode cX8_fork 70 = .ok (.aload_n 0, 1) := by decide +kernel
theorem dX8_fork_71 : decode cX8_fork 71 = .ok (.getfield 20, 3) := by decide +kernel
theorem dX8_fork_74 : decode cX8_fork 74 = .ok (.iload_n 2, 1) := by decide +kernel
theorem dX8_fork_75 : decode cX8_fork 75 = .ok (.aload_n 0, 1) := by decide +kernel
theorem dX8_fork_76 : decode cX8_fork 76 = .ok (.getfield 20, 3) := by decide +kernel
theorem dX8_fork_79 : decode cX8_fork 79 = .ok (.iload_n 1, 1) := by decide +kernel
theorem dX8_fork_80 : decode cX8_fork 80 = .ok (.baload, 1) := by decide +kernel
theorem dX8_fork_81 : decode cX8_fork 81 = .ok (.bastore, 1) := by decide +kernel
theorem dX8_fork_82 : decode cX8_fork 82 = .ok (.iconst 0, 1) := by decide +kernel
theorem dX8_fork_83 : decode cX8_fork 83 = .ok (.istore_n 3, 1) := by decide +kernel
theorem dX8_fork_84 : decode cX8_fork 84 = .ok (.iload_n 3, 1) := by decide +kernel
theorem dX8_fork_85 : decode cX8_fork 85 = .ok (.bipush 32, 2) := by decide +kernel
theorem dX8_fork_87 : decode cX8_fork 87 = .ok (.if_icmp .ge 51, 3) := by decide +kernel
theorem dX8_fork_90 : decode cX8_fork 90 = .ok (.bipush 32, 2) := by decide +kernel
theorem dX8_fork_92 : decode cX8_fork 92 = .ok (.iload_n 1, 1) := by decide +kernel
theorem dX8_fork_93 : decode cX8_fork 93 = .ok (.imul, 1) := by decide +kernel
theorem dX8_fork_94 : decode cX8_fork 94 = .ok (.iload_n 3, 1) := by decide +kernel
theorem dX8_fork_95 : decode cX8_fork 95 = .ok (.iadd, 1) := by decide +kernel
theorem dX8_fork_96 : decode cX8_fork 96 = .ok (.istore 4, 2) := by decide +kernel
theorem dX8_fork_98 : decode cX8_fork 98 = .ok (.aload_n 0, 1) := by decide +kernel
theorem dX8_fork_99 : decode cX8_fork 99 = .ok (.getfield 26, 3) := by decide +kernel
theorem dX8_fork_102 : decode cX8_fork 102 = .ok (.iload 4, 2) := by decide +kernel
theorem dX8_fork_104 : decode cX8_fork 104 = .ok (.iaload, 1) := by decide +kernel
theorem dX8_fork_105 : decode cX8_fork 105 = .ok (.ifCond .le 27, 3) := by decide +kernel
theorem dX8_fork_108 : decode cX8_fork 108 = .ok (.aload_n 0, 1) := by decide +kernel
theorem dX8_fork_109 : decode cX8_fork 109 = .ok (.iload 4, 2) := by decide +kernel
theorem dX8_fork_111 : decode cX8_fork 111 = .ok (.bipush 32, 2) := by decide +kernel
theorem dX8_fork_113 : decode cX8_fork 113 = .ok (.iload_n 2, 1) := by decide +kernel
theorem dX8_fork_114 : decode cX8_fork 114 = .ok (.imul, 1) := by decide +kernel
theorem dX8_fork_115 : decode cX8_fork 115 = .ok (.iload_n 3, 1) := by decide +kernel
theorem dX8_fork_116 : decode cX8_fork 116 = .ok (.iadd, 1) := by decide +kernel
theorem dX8_fork_117 : decode cX8_fork 117 = .ok (.invokevirtual 258, 3) := by decide +kernel
theorem dX8_fork_120 : decode cX8_fork 120 = .ok (.aload_n 0, 1) := by decide +kernel
theorem dX8_fork_121 : decode cX8_fork 121 = .ok (.iload 4, 2) := by decide +kernel
theorem dX8_fork_123 : decode cX8_fork 123 = .ok (.invokevirtual 255, 3) := by decide +kernel
theorem dX8_fork_126 : decode cX8_fork 126 = .ok (.aload_n 0, 1) := by decide +kernel
theorem dX8_fork_127 : decode cX8_fork 127 = .ok (.iload 4, 2) := by decide +kernel
theorem dX8_fork_129 : decode cX8_fork 129 = .ok (.invokevirtual 152, 3) := by decide +kernel
theorem dX8_fork_132 : decode cX8_fork 132 = .ok (.iinc 3 1, 3) := by decide +kernel
theorem dX8_fork_135 : decode cX8_fork 135 = .ok (.goto (-51), 3) := by decide +kernel
theorem dX8_fork_138 : decode cX8_fork 138 = .ok (.iload_n 2, 1) := by decide +kernel
theorem dX8_fork_139 : decode cX8_fork 139 = .ok (.ireturn, 1) := by decide +kernel
theorem dX8_end_0 : decode cX8_end 0 = .ok (.aload_n 0, 1) := by decide +kernel
theorem dX8_end_1 : decode cX8_end 1 = .ok (.aload_n 0, 1) := by decide +kernel
theorem dX8_end_2 : decode cX8_end 2 = .ok (.iload_n 1, 1) := by decide +kernel
theorem dX8_end_3 : decode cX8_end 3 = .ok (.invokevirtual 130, 3) := by decide +kernel
theorem dX8_end_6 : decode cX8_end 6 = .ok (.aload_n 0, 1) := by decide +kernel
theorem dX8_end_7 : decode cX8_end 7 = .ok (.iload_n 1, 1) := by decide +kernel
theorem dX8_end_8 : decode cX8_end 8 = .ok (.invokevirtual 238, 3) := by decide +kernel
theorem dX8_end_11 : decode cX8_end 11 = .ok (.invokevirtual 228, 3) := by decide +kernel
theorem dX8_end_14 : decode cX8_end 14 = .ok (.ifCond .ne 5, 3) := by decide +kernel
theorem dX8_end_17 : decode cX8_end 17 = .ok (.iconst 0, 1) := by decide +kernel
theorem dX8_end_18 : decode cX8_end 18 = .ok (.ireturn, 1) := by decide +kernel
theorem dX8_end_19 : decode cX8_end 19 = .ok (.aload_n 0, 1) := by decide +kernel
theorem dX8_end_20 : decode cX8_end 20 = .ok (.iload_n 1, 1) := by decide +kernel
theorem dX8_end_21 : decode cX8_end 21 = .ok (.invokevirtual 203, 3) := by decide +kernel
theorem dX8_end_24 : decode cX8_end 24 = .ok (.aload_n 0, 1) := by decide +kernel
theorem dX8_end_25 : decode cX8_end 25 = .ok (.getfield 17, 3) := by decide +kernel
theorem dX8_end_28 : decode cX8_end 28 = .ok (.iload_n 1, 1) := by decide +kernel
theorem dX8_end_29 : decode cX8_end 29 = .ok (.iaload, 1) := by decide +kernel
theorem dX8_end_30 : decode cX8_end 30 = .ok (.isub, 1) := by decide +kernel
theorem dX8_end_31 : decode cX8_end 31 = .ok (.istore_n 2, 1) := by decide +kernel
theorem dX8_end_32 : decode cX8_end 32 = .ok (.aload_n 0, 1) := by decide +kernel
theorem dX8_end_33 : decode cX8_end 33 = .ok (.iload_n 1, 1) := by decide +kernel
theorem dX8_end_34 : decode cX8_end 34 = .ok (.invokevirtual 206, 3) := by decide +kernel
theorem dX8_end_37 : decode cX8_end 37 = .ok (.iload_n 2, 1) := by decide +kernel
theorem dX8_end_38 : decode cX8_end 38 = .ok (.ireturn, 1) := by decide +kernel
theorem dX8_adjust_0 : decode cX8_adjust 0 = .ok (.aload_n 0, 1) := by decide +kernel
theorem dX8_adjust_1 : decode cX8_adjust 1 = .ok (.aload_n 0, 1) := by decide +kernel
theorem dX8_adjust_2 : decode cX8_adjust 2 = .ok (.iload_n 1, 1) := by decide +kernel
theorem dX8_adjust_3 : decode cX8_adjust 3 = .ok (.invokevirtual 130, 3) := by decide +kernel
theorem dX8_adjust_6 : decode cX8_adjust 6 = .ok (.iload_n 2, 1) := by decide +kernel
theorem dX8_adjust_7 : decode cX8_adjust 7 = .ok (.bipush (-50), 2) := by decide +kernel
theorem dX8_adjust_9 : decode cX8_adjust 9 = .ok (.bipush 50, 2) := by decide +kernel
theorem dX8_adjust_11 : decode cX8_adjust 11 = .ok (.invokestatic 126, 3) := by decide +kernel
theorem dX8_adjust_14 : decode cX8_adjust 14 = .ok (.invokevirtual 228, 3) := by decide +kernel
theorem dX8_adjust_17 : decode cX8_adjust 17 = .ok (.ifCond .ne 5, 3) := by decide +kernel
theorem dX8_adjust_20 : decode cX8_adjust 20 = .ok (.iconst 0, 1) := by decide +kernel
theorem dX8_adjust_21 : decode cX8_adjust 21 = .ok (.ireturn, 1) := by decide +kernel
theorem dX8_adjust_22 : decode cX8_adjust 22 = .ok (.aload_n 0, 1) := by decide +kernel
theorem dX8_adjust_23 : decode cX8_adjust 23 = .ok (.getfield 17, 3) := by decide +kernel
theorem dX8_adjust_26 : decode cX8_adjust 26 = .ok (.iload_n 1, 1) := by decide +kernel
theorem dX8_adjust_27 : decode cX8_adjust 27 = .ok (.iaload, 1) := by decide +kernel
theorem dX8_adjust_28 : decode cX8_adjust 28 = .ok (.istore_n 3, 1) := by decide +kernel
theorem dX8_adjust_29 : decode cX8_adjust 29 = .ok (.aload_n 0, 1) := by decide +kernel
theorem dX8_adjust_30 : decode cX8_adjust 30 = .ok (.getfield 17, 3) := by decide +kernel
theorem dX8_adjust_33 : decode cX8_adjust 33 = .ok (.iload_n 1, 1) := by decide +kernel
theorem dX8_adjust_34 : decode cX8_adjust 34 = .ok (.iload_n 2, 1) := by decide +kernel
theorem dX8_adjust_35 : decode cX8_adjust 35 = .ok (.iastore, 1) := by decide +kernel
theorem dX8_adjust_36 : decode cX8_adjust 36 = .ok (.iload_n 3, 1) := by decide +kernel
theorem dX8_adjust_37 : decode cX8_adjust 37 = .ok (.ireturn, 1) := by decide +kernel
theorem dX8_limit_0 : decode cX8_limit 0 = .ok (.aload_n 0, 1) := by decide +kernel
theorem dX8_limit_1 : decode cX8_limit 1 = .ok (.iload_n 1, 1) := by decide +kernel
theorem dX8_limit_2 : decode cX8_limit 2 = .ok (.iconst 0, 1) := by decide +kernel
theorem dX8_limit_3 : decode cX8_limit 3 = .ok (.iconst 2, 1) := by decide +kernel
theorem dX8_limit_4 : decode cX8_limit 4 = .ok (.invokestatic 126, 3) := by decide +kernel
theorem dX8_limit_7 : decode cX8_limit 7 = .ok (.ifCond .eq 22, 3) := by decide +kernel
theorem dX8_limit_10 : decode cX8_limit 10 = .ok (.iload_n 2, 1) := by decide +kernel
theorem dX8_limit_11 : decode cX8_limit 11 = .ok (.iconst (-1), 1) := by decide +kernel
theorem dX8_limit_12 : decode cX8_limit 12 = .ok (.if_icmp .eq 13, 3) := by decide +kernel
theorem dX8_limit_15 : decode cX8_limit 15 = .ok (.iload_n 2, 1) := by decide +kernel
theorem dX8_limit_16 : decode cX8_limit 16 = .ok (.iconst 1, 1) := by decide +kernel
theorem dX8_limit_17 : decode cX8_limit 17 = .ok (.bipush 24, 2) := by decide +kernel
theorem dX8_limit_19 : decode cX8_limit 19 = .ok (.invokestatic 126, 3) := by decide +kernel
theorem dX8_limit_22 : decode cX8_limit 22 = .ok (.ifCond .eq 7, 3) := by decide +kernel
theorem dX8_limit_25 : decode cX8_limit 25 = .ok (.iconst 1, 1) := by decide +kernel
theorem dX8_limit_26 : decode cX8_limit 26 = .ok (.goto 4, 3) := by decide +kernel
theorem dX8_limit_29 : decode cX8_limit 29 = .ok (.iconst 0, 1) := by decide +kernel
theorem dX8_limit_30 : decode cX8_limit 30 = .ok (.invokevirtual 261, 3) := by decide +kernel
theorem dX8_limit_33 : decode cX8_limit 33 = .ok (.ifCond .ne 5, 3) := by decide +kernel
theorem dX8_limit_36 : decode cX8_limit 36 = .ok (.iconst 0, 1) := by decide +kernel
theorem dX8_limit_37 : decode cX8_limit 37 = .ok (.ireturn, 1) := by decide +kernel
theorem dX8_limit_38 : decode cX8_limit 38 = .ok (.aload_n 0, 1) := by decide +kernel
theorem dX8_limit_39 : decode cX8_limit 39 = .ok (.getfield 23, 3) := by decide +kernel
theorem dX8_limit_42 : decode cX8_limit 42 = .ok (.iload_n 1, 1) := by decide +kernel
theorem dX8_limit_43 : decode cX8_limit 43 = .ok (.iload_n 2, 1) := by decide +kernel
theorem dX8_limit_44 : decode cX8_limit 44 = .ok (.iastore, 1) := by decide +kernel
theorem dX8_limit_45 : decode cX8_limit 45 = .ok (.aload_n 0, 1) := by decide +kernel
theorem dX8_limit_46 : decode cX8_limit 46 = .ok (.iload_n 1, 1) := by decide +kernel
theorem dX8_limit_47 : decode cX8_limit 47 = .ok (.invokevirtual 181, 3) := by decide +kernel
theorem dX8_limit_50 : decode cX8_limit 50 = .ok (.ireturn, 1) := by decide +kernel
theorem dX8_growsDown_0 : decode cX8_growsDown 0 = .ok (.bipush 32, 2) := by decide +kernel
theorem dX8_growsDown_2 : decode cX8_growsDown 2 = .ok (.iload_n 1, 1) := by decide +kernel
theorem dX8_growsDown_3 : decode cX8_growsDown 3 = .ok (.imul, 1) := by decide +kernel
theorem dX8_growsDown_4 : decode cX8_growsDown 4 = .ok (.iload_n 2, 1) := by decide +kernel
theorem dX8_growsDown_5 : decode cX8_growsDown 5 = .ok (.iadd, 1) := by decide +kernel
theorem dX8_growsDown_6 : decode cX8_growsDown 6 = .ok (.istore_n 3, 1) := by decide +kernel
theorem dX8_growsDown_7 : decode cX8_growsDown 7 = .ok (.aload_n 0, 1) := by decide +kernel
theorem dX8_growsDown_8 : decode cX8_growsDown 8 = .ok (.getfield 26, 3) := by decide +kernel
theorem dX8_growsDown_11 : decode cX8_growsDown 11 = .ok (.iload_n 3, 1) := by decide +kernel
theorem dX8_growsDown_12 : decode cX8_growsDown 12 = .ok (.iaload, 1) := by decide +kernel
theorem dX8_growsDown_13 : decode cX8_growsDown 13 = .ok (.ifCond .ne 50, 3) := by decide +kernel
theorem dX8_growsDown_16 : decode cX8_growsDown 16 = .ok (.iload_n 2, 1) := by decide +kernel
theorem dX8_growsDown_17 : decode cX8_growsDown 17 = .ok (.bipush 31, 2) := by decide +kernel
theorem dX8_growsDown_19 : decode cX8_growsDown 19 = .ok (.if_icmp .ge 44, 3) := by decide +kernel
theorem dX8_growsDown_22 : decode cX8_growsDown 22 = .ok (.aload_n 0, 1) := by decide +kernel
theorem dX8_growsDown_23 : decode cX8_growsDown 23 = .ok (.getfield 26, 3) := by decide +kernel
theorem dX8_growsDown_26 : decode cX8_growsDown 26 = .ok (.iload_n 3, 1) := by decide +kernel
theorem dX8_growsDown_27 : decode cX8_growsDown 27 = .ok (.iconst 1, 1) := by decide +kernel
theorem dX8_growsDown_28 : decode cX8_growsDown 28 = .ok (.iadd, 1) := by decide +kernel
theorem dX8_growsDown_29 : decode cX8_growsDown 29 = .ok (.iaload, 1) := by decide +kernel
theorem dX8_growsDown_30 : decode cX8_growsDown 30 = .ok (.ifCond .le 33, 3) := by decide +kernel
theorem dX8_growsDown_33 : decode cX8_growsDown 33 = .ok (.aload_n 0, 1) := by decide +kernel
theorem dX8_growsDown_34 : decode cX8_growsDown 34 = .ok (.getfield 38, 3) := by decide +kernel
theorem dX8_growsDown_37 : decode cX8_growsDown 37 = .ok (.iload_n 3, 1) := by decide +kernel
theorem dX8_growsDown_38 : decode cX8_growsDown 38 = .ok (.iconst 1, 1) := by decide +kernel
theorem dX8_growsDown_39 : decode cX8_growsDown 39 = .ok (.iadd, 1) := by decide +kernel
theorem dX8_growsDown_40 : decode cX8_growsDown 40 = .ok (.baload, 1) := by decide +kernel
theorem dX8_growsDown_41 : decode cX8_growsDown 41 = .ok (.ifCond .eq 22, 3) := by decide +kernel
theorem dX8_growsDown_44 : decode cX8_growsDown 44 = .ok (.iload_n 2, 1) := by decide +kernel
theorem dX8_growsDown_45 : decode cX8_growsDown 45 = .ok (.ifCond .eq 14, 3) := by decide +kernel
theorem dX8_growsDown_48 : decode cX8_growsDown 48 = .ok (.aload_n 0, 1) := by decide +kernel
theorem dX8_growsDown_49 : decode cX8_growsDown 49 = .ok (.getfield 26, 3) := by decide +kernel
theorem dX8_growsDown_52 : decode cX8_growsDown 52 = .ok (.iload_n 3, 1) := by decide +kernel
theorem dX8_growsDown_53 : decode cX8_growsDown 53 = .ok (.iconst 1, 1) := by decide +kernel
theorem dX8_growsDown_54 : decode cX8_growsDown 54 = .ok (.isub, 1) := by decide +kernel
theorem dX8_growsDown_55 : decode cX8_growsDown 55 = .ok (.iaload, 1) := by decide +kernel
theorem dX8_growsDown_56 : decode cX8_growsDown 56 = .ok (.ifCond .ne 7, 3) := by decide +kernel
theorem dX8_growsDown_59 : decode cX8_growsDown 59 = .ok (.iconst 1, 1) := by decide +kernel
theorem dX8_growsDown_60 : decode cX8_growsDown 60 = .ok (.goto 4, 3) := by decide +kernel
theorem dX8_growsDown_63 : decode cX8_growsDown 63 = .ok (.iconst 0, 1) := by decide +kernel
theorem dX8_growsDown_64 : decode cX8_growsDown 64 = .ok (.istore 4, 2) := by decide +kernel
theorem dX8_growsDown_66 : decode cX8_growsDown 66 = .ok (.iload 4, 2) := by decide +kernel
theorem dX8_growsDown_68 : decode cX8_growsDown 68 = .ok (.ifCond .eq 66, 3) := by decide +kernel
theorem dX8_growsDown_71 : decode cX8_growsDown 71 = .ok (.aload_n 0, 1) := by decide +kernel
theorem dX8_growsDown_72 : decode cX8_growsDown 72 = .ok (.getfield 29, 3) := by decide +kernel
theorem dX8_growsDown_75 : decode cX8_growsDown 75 = .ok (.iload_n 3, 1) := by decide +kernel
theorem dX8_growsDown_76 : decode cX8_growsDown 76 = .ok (.iconst 1, 1) := by decide +kernel
theorem dX8_growsDown_77 : decode cX8_growsDown 77 = .ok (.iadd, 1) := by decide +kernel
theorem dX8_growsDown_78 : decode cX8_growsDown 78 = .ok (.iaload, 1) := by decide +kernel
theorem dX8_growsDown_79 : decode cX8_growsDown 79 = .ok (.iconst (-1), 1) := by decide +kernel
theorem dX8_growsDown_80 : decode cX8_growsDown 80 = .ok (.if_icmp .eq 14, 3) := by decide +kernel
theorem dX8_growsDown_83 : decode cX8_growsDown 83 = .ok (.aload_n 0, 1) := by decide +kernel
theorem dX8_growsDown_84 : decode cX8_growsDown 84 = .ok (.getfield 32, 3) := by decide +kernel
theorem dX8_growsDown_87 : decode cX8_growsDown 87 = .ok (.iload_n 3, 1) := by decide +kernel
theorem dX8_growsDown_88 : decode cX8_growsDown 88 = .ok (.iconst 1, 1) := by decide +kernel
theorem dX8_growsDown_89 : decode cX8_growsDown 89 = .ok (.iadd, 1) := by decide +kernel
theorem dX8_growsDown_90 : decode cX8_growsDown 90 = .ok (.iaload, 1) := by decide +kernel
theorem dX8_growsDown_91 : decode cX8_growsDown 91 = .ok (.ifCond .le 43, 3) := by decide +kernel
theorem dX8_growsDown_94 : decode cX8_growsDown 94 = .ok (.aload_n 0, 1) := by decide +kernel
theorem dX8_growsDown_95 : decode cX8_growsDown 95 = .ok (.iload_n 3, 1) := by decide +kernel
theorem dX8_growsDown_96 : decode cX8_growsDown 96 = .ok (.aload_n 0, 1) := by decide +kernel
theorem dX8_growsDown_97 : decode cX8_growsDown 97 = .ok (.getfield 26, 3) := by decide +kernel
theorem dX8_growsDown_100 : decode cX8_growsDown 100 = .ok (.iload_n 3, 1) := by decide +kernel
theorem dX8_growsDown_101 : decode cX8_growsDown 101 = .ok (.iconst 1, 1) := by decide +kernel
theorem dX8_growsDown_102 : decode cX8_growsDown 102 = .ok (.iadd, 1) := by decide +kernel
theorem dX8_growsDown_103 : decode cX8_growsDown 103 = .ok (.iaload, 1) := by decide +kernel
theorem dX8_growsDown_104 : decode cX8_growsDown 104 = .ok (.aload_n 0, 1) := by decide +kernel
theorem dX8_growsDown_105 : decode cX8_growsDown 105 = .ok (.getfield 29, 3) := by decide +kernel
theorem dX8_growsDown_108 : decode cX8_growsDown 108 = .ok (.iload_n 3, 1) := by decide +kernel
theorem dX8_growsDown_109 : decode cX8_growsDown 109 = .ok (.iconst 1, 1) := by decide +kernel
theorem dX8_growsDown_110 : decode cX8_growsDown 110 = .ok (.iadd, 1) := by decide +kernel
theorem dX8_growsDown_111 : decode cX8_growsDown 111 = .ok (.iaload, 1) := by decide +kernel
theorem dX8_growsDown_112 : decode cX8_growsDown 112 = .ok (.aload_n 0, 1) := by decide +kernel
theorem dX8_growsDown_113 : decode cX8_growsDown 113 = .ok (.getfield 32, 3) := by decide +kernel
theorem dX8_growsDown_116 : decode cX8_growsDown 116 = .ok (.iload_n 3, 1) := by decide +kernel
theorem dX8_growsDown_117 : decode cX8_growsDown 117 = .ok (.iconst 1, 1) := by decide +kernel
theorem dX8_growsDown_118 : decode cX8_growsDown 118 = .ok (.iadd, 1) := by decide +kernel
theorem dX8_growsDown_119 : decode cX8_growsDown 119 = .ok (.iaload, 1) := by decide +kernel
theorem dX8_growsDown_120 : decode cX8_growsDown 120 = .ok (.iconst 1, 1) := by decide +kernel
theorem dX8_growsDown_121 : decode cX8_growsDown 121 = .ok (.isub, 1) := by decide +kernel
theorem dX8_growsDown_122 : decode cX8_growsDown 122 = .ok (.aload_n 0, 1) := by decide +kernel
theorem dX8_growsDown_123 : decode cX8_growsDown 123 = .ok (.getfield 35, 3) := by decide +kernel
theorem dX8_growsDown_126 : decode cX8_growsDown 126 = .ok (.iload_n 3, 1) := by decide +kernel
theorem dX8_growsDown_127 : decode cX8_growsDown 127 = .ok (.iconst 1, 1) := by decide +kernel
theorem dX8_growsDown_128 : decode cX8_growsDown 128 = .ok (.iadd, 1) := by decide +kernel
theorem dX8_growsDown_129 : decode cX8_growsDown 129 = .ok (.baload, 1) := by decide +kernel
theorem dX8_growsDown_130 : decode cX8_growsDown 130 = .ok (.iconst 1, 1) := by decide +kernel
theorem dX8_growsDown_131 : decode cX8_growsDown 131 = .ok (.invokevirtual 248, 3) := by decide +kernel
theorem dX8_growsDown_134 : decode cX8_growsDown 134 = .ok (.return_, 1) := by decide +kernel
theorem dX8_renews_0 : decode cX8_renews 0 = .ok (.aload_n 0, 1) := by decide +kernel
theorem dX8_renews_1 : decode cX8_renews 1 = .ok (.aload_n 0, 1) := by decide +kernel
theorem dX8_renews_2 : decode cX8_renews 2 = .ok (.getfield 13, 3) := by decide +kernel
theorem dX8_renews_5 : decode cX8_renews 5 = .ok (.iload_n 1, 1) := by decide +kernel
theorem dX8_renews_6 : decode cX8_renews 6 = .ok (.iaload, 1) := by decide +kernel
theorem dX8_renews_7 : decode cX8_renews 7 = .ok (.iload_n 1, 1) := by decide +kernel
theorem dX8_renews_8 : decode cX8_renews 8 = .ok (.invokevirtual 221, 3) := by decide +kernel
theorem dX8_renews_11 : decode cX8_renews 11 = .ok (.istore 4, 2) := by decide +kernel
theorem dX8_renews_13 : decode cX8_renews 13 = .ok (.iload 4, 2) := by decide +kernel
theorem dX8_renews_15 : decode cX8_renews 15 = .ok (.ifCond .lt 38, 3) := by decide +kernel
theorem dX8_renews_18 : decode cX8_renews 18 = .ok (.aload_n 0, 1) := by decide +kernel
theorem dX8_renews_19 : decode cX8_renews 19 = .ok (.iload_n 2, 1) := by decide +kernel
theorem dX8_renews_20 : decode cX8_renews 20 = .ok (.invokevirtual 159, 3) := by decide +kernel
theorem dX8_renews_23 : decode cX8_renews 23 = .ok (.aload_n 0, 1) := by decide +kernel
theorem dX8_renews_24 : decode cX8_renews 24 = .ok (.iload 4, 2) := by decide +kernel
theorem dX8_renews_26 : decode cX8_renews 26 = .ok (.iconst 1, 1) := by decide +kernel
theorem dX8_renews_27 : decode cX8_renews 27 = .ok (.iload_n 3, 1) := by decide +kernel
theorem dX8_renews_28 : decode cX8_renews 28 = .ok (.aload_n 0, 1) := by decide +kernel
theorem dX8_renews_29 : decode cX8_renews 29 = .ok (.getfield 13, 3) := by decide +kernel
theorem dX8_renews_32 : decode cX8_renews 32 = .ok (.iload_n 1, 1) := by decide +kernel
theorem dX8_renews_33 : decode cX8_renews 33 = .ok (.iaload, 1) := by decide +kernel
theorem dX8_renews_34 : decode cX8_renews 34 = .ok (.iconst 0, 1) := by decide +kernel
theorem dX8_renews_35 : decode cX8_renews 35 = .ok (.invokevirtual 224, 3) := by decide +kernel
theorem dX8_renews_38 : decode cX8_renews 38 = .ok (.aload_n 0, 1) := by decide +kernel
theorem dX8_renews_39 : decode cX8_renews 39 = .ok (.getfield 44, 3) := by decide +kernel
theorem dX8_renews_42 : decode cX8_renews 42 = .ok (.iload_n 2, 1) := by decide +kernel
theorem dX8_renews_43 : decode cX8_renews 43 = .ok (.iload 4, 2) := by decide +kernel
theorem dX8_renews_45 : decode cX8_renews 45 = .ok (.iastore, 1) := by decide +kernel
theorem dX8_renews_46 : decode cX8_renews 46 = .ok (.aload_n 0, 1) := by decide +kernel
theorem dX8_renews_47 : decode cX8_renews 47 = .ok (.getfield 41, 3) := by decide +kernel
theorem dX8_renews_50 : decode cX8_renews 50 = .ok (.iload_n 2, 1) := by decide +kernel
theorem dX8_renews_51 : decode cX8_renews 51 = .ok (.iconst 1, 1) := by decide +kernel
theorem dX8_renews_52 : decode cX8_renews 52 = .ok (.iastore, 1) := by decide +kernel
theorem dX8_renews_53 : decode cX8_renews 53 = .ok (.iload 4, 2) := by decide +kernel
theorem dX8_renews_55 : decode cX8_renews 55 = .ok (.ireturn, 1) := by decide +kernel
theorem dX8_comesIn_0 : decode cX8_comesIn 0 = .ok (.aload_n 0, 1) := by decide +kernel
theorem dX8_comesIn_1 : decode cX8_comesIn 1 = .ok (.getfield 41, 3) := by decide +kernel
theorem dX8_comesIn_4 : decode cX8_comesIn 4 = .ok (.iload_n 2, 1) := by decide +kernel
theorem dX8_comesIn_5 : decode cX8_comesIn 5 = .ok (.iaload, 1) := by decide +kernel
theorem dX8_comesIn_6 : decode cX8_comesIn 6 = .ok (.iconst 2, 1) := by decide +kernel
theorem dX8_comesIn_7 : decode cX8_comesIn 7 = .ok (.if_icmp .ne 21, 3) := by decide +kernel
theorem dX8_comesIn_10 : decode cX8_comesIn 10 = .ok (.aload_n 0, 1) := by decide +kernel
theorem dX8_comesIn_11 : decode cX8_comesIn 11 = .ok (.iload_n 1, 1) := by decide +kernel
theorem dX8_comesIn_12 : decode cX8_comesIn 12 = .ok (.iload_n 2, 1) := by decide +kernel
theorem dX8_comesIn_13 : decode cX8_comesIn 13 = .ok (.aload_n 0, 1) := by decide +kernel
theorem dX8_comesIn_14 : decode cX8_comesIn 14 = .ok (.getfield 92, 3) := by decide +kernel
theorem dX8_comesIn_17 : decode cX8_comesIn 17 = .ok (.aload_n 0, 1) := by decide +kernel
theorem dX8_comesIn_18 : decode cX8_comesIn 18 = .ok (.getfield 50, 3) := by decide +kernel
theorem dX8_comesIn_21 : decode cX8_comesIn 21 = .ok (.iload_n 2, 1) := by decide +kernel
theorem dX8_comesIn_22 : decode cX8_comesIn 22 = .ok (.iaload, 1) := by decide +kernel
theorem dX8_comesIn_23 : decode cX8_comesIn 23 = .ok (.iaload, 1) := by decide +kernel
theorem dX8_comesIn_24 : decode cX8_comesIn 24 = .ok (.invokevirtual 264, 3) := by decide +kernel
theorem dX8_comesIn_27 : decode cX8_comesIn 27 = .ok (.ireturn, 1) := by decide +kernel
theorem dX8_comesIn_28 : decode cX8_comesIn 28 = .ok (.aload_n 0, 1) := by decide +kernel
theorem dX8_comesIn_29 : decode cX8_comesIn 29 = .ok (.getfield 29, 3) := by decide +kernel
theorem dX8_comesIn_32 : decode cX8_comesIn 32 = .ok (.iload_n 2, 1) := by decide +kernel
theorem dX8_comesIn_33 : decode cX8_comesIn 33 = .ok (.iaload, 1) := by decide +kernel
theorem dX8_comesIn_34 : decode cX8_comesIn 34 = .ok (.iconst (-1), 1) := by decide +kernel
theorem dX8_comesIn_35 : decode cX8_comesIn 35 = .ok (.if_icmp .ne 11, 3) := by decide +kernel
theorem dX8_comesIn_38 : decode cX8_comesIn 38 = .ok (.aload_n 0, 1) := by decide +kernel
theorem dX8_comesIn_39 : decode cX8_comesIn 39 = .ok (.iload_n 1, 1) := by decide +kernel
theorem dX8_comesIn_40 : decode cX8_comesIn 40 = .ok (.iload_n 2, 1) := by decide +kernel
theorem dX8_comesIn_41 : decode cX8_comesIn 41 = .ok (.iconst 0, 1) := by decide +kernel
theorem dX8_comesIn_42 : decode cX8_comesIn 42 = .ok (.invokevirtual 264, 3) := by decide +kernel
theorem dX8_comesIn_45 : decode cX8_comesIn 45 = .ok (.ireturn, 1) := by decide +kernel
theorem dX8_comesIn_46 : decode cX8_comesIn 46 = .ok (.aload_n 0, 1) := by decide +kernel
theorem dX8_comesIn_47 : decode cX8_comesIn 47 = .ok (.bipush 8, 2) := by decide +kernel
theorem dX8_comesIn_49 : decode cX8_comesIn 49 = .ok (.aload_n 0, 1) := by decide +kernel
theorem dX8_comesIn_50 : decode cX8_comesIn 50 = .ok (.getfield 29, 3) := by decide +kernel
theorem dX8_comesIn_53 : decode cX8_comesIn 53 = .ok (.iload_n 2, 1) := by decide +kernel
theorem dX8_comesIn_54 : decode cX8_comesIn 54 = .ok (.iaload, 1) := by decide +kernel
theorem dX8_comesIn_55 : decode cX8_comesIn 55 = .ok (.imul, 1) := by decide +kernel
theorem dX8_comesIn_56 : decode cX8_comesIn 56 = .ok (.aload_n 0, 1) := by decide +kernel
theorem dX8_comesIn_57 : decode cX8_comesIn 57 = .ok (.getfield 32, 3) := by decide +kernel
theorem dX8_comesIn_60 : decode cX8_comesIn 60 = .ok (.iload_n 2, 1) := by decide +kernel
theorem dX8_comesIn_61 : decode cX8_comesIn 61 = .ok (.iaload, 1) := by decide +kernel
theorem dX8_comesIn_62 : decode cX8_comesIn 62 = .ok (.iadd, 1) := by decide +kernel
theorem dX8_comesIn_63 : decode cX8_comesIn 63 = .ok (.aload_n 0, 1) := by decide +kernel
theorem dX8_comesIn_64 : decode cX8_comesIn 64 = .ok (.getfield 13, 3) := by decide +kernel
theorem dX8_comesIn_67 : decode cX8_comesIn 67 = .ok (.iload_n 1, 1) := by decide +kernel
theorem dX8_comesIn_68 : decode cX8_comesIn 68 = .ok (.iaload, 1) := by decide +kernel
theorem dX8_comesIn_69 : decode cX8_comesIn 69 = .ok (.iload_n 1, 1) := by decide +kernel
theorem dX8_comesIn_70 : decode cX8_comesIn 70 = .ok (.invokevirtual 268, 3) := by decide +kernel
theorem dX8_comesIn_73 : decode cX8_comesIn 73 = .ok (.istore 4, 2) := by decide +kernel
theorem dX8_comesIn_75 : decode cX8_comesIn 75 = .ok (.iload 4, 2) := by decide +kernel
theorem dX8_comesIn_77 : decode cX8_comesIn 77 = .ok (.ifCond .lt 16, 3) := by decide +kernel
theorem dX8_comesIn_80 : decode cX8_comesIn 80 = .ok (.iload_n 3, 1) := by decide +kernel
theorem dX8_comesIn_81 : decode cX8_comesIn 81 = .ok (.ifCond .eq 60, 3) := by decide +kernel
theorem dX8_comesIn_84 : decode cX8_comesIn 84 = .ok (.aload_n 0, 1) := by decide +kernel
theorem dX8_comesIn_85 : decode cX8_comesIn 85 = .ok (.getfield 35, 3) := by decide +kernel
theorem dX8_comesIn_88 : decode cX8_comesIn 88 = .ok (.iload_n 2, 1) := by decide +kernel
theorem dX8_comesIn_89 : decode cX8_comesIn 89 = .ok (.baload, 1) := by decide +kernel
theorem dX8_comesIn_90 : decode cX8_comesIn 90 = .ok (.ifCond .ne 51, 3) := by decide +kernel
theorem dX8_comesIn_93 : decode cX8_comesIn 93 = .ok (.iload 4, 2) := by decide +kernel
theorem dX8_comesIn_95 : decode cX8_comesIn 95 = .ok (.ifCond .ge 8, 3) := by decide +kernel
theorem dX8_comesIn_98 : decode cX8_comesIn 98 = .ok (.iload 4, 2) := by decide +kernel
theorem dX8_comesIn_100 : decode cX8_comesIn 100 = .ok (.goto 16, 3) := by decide +kernel
theorem dX8_comesIn_103 : decode cX8_comesIn 103 = .ok (.aload_n 0, 1) := by decide +kernel
theorem dX8_comesIn_104 : decode cX8_comesIn 104 = .ok (.iload_n 1, 1) := by decide +kernel
theorem dX8_comesIn_105 : decode cX8_comesIn 105 = .ok (.iload_n 2, 1) := by decide +kernel
theorem dX8_comesIn_106 : decode cX8_comesIn 106 = .ok (.aload_n 0, 1) := by decide +kernel
theorem dX8_comesIn_107 : decode cX8_comesIn 107 = .ok (.getfield 59, 3) := by decide +kernel
theorem dX8_comesIn_110 : decode cX8_comesIn 110 = .ok (.iload 4, 2) := by decide +kernel
theorem dX8_comesIn_112 : decode cX8_comesIn 112 = .ok (.iaload, 1) := by decide +kernel
theorem dX8_comesIn_113 : decode cX8_comesIn 113 = .ok (.invokevirtual 264, 3) := by decide +kernel
theorem dX8_comesIn_116 : decode cX8_comesIn 116 = .ok (.istore 5, 2) := by decide +kernel
theorem dX8_comesIn_118 : decode cX8_comesIn 118 = .ok (.aload_n 0, 1) := by decide +kernel
theorem dX8_comesIn_119 : decode cX8_comesIn 119 = .ok (.getfield 113, 3) := by decide +kernel
theorem dX8_comesIn_122 : decode cX8_comesIn 122 = .ok (.bipush 6, 2) := by decide +kernel
theorem dX8_comesIn_124 : decode cX8_comesIn 124 = .ok (.dup2, 1) := by decide +kernel
theorem dX8_comesIn_125 : decode cX8_comesIn 125 = .ok (.iaload, 1) := by decide +kernel
theorem dX8_comesIn_126 : decode cX8_comesIn 126 = .ok (.iload 5, 2) := by decide +kernel
theorem dX8_comesIn_128 : decode cX8_comesIn 128 = .ok (.ifCond .ge 7, 3) := by decide +kernel
theorem dX8_comesIn_131 : decode cX8_comesIn 131 = .ok (.iconst 0, 1) := by decide +kernel
theorem dX8_comesIn_132 : decode cX8_comesIn 132 = .ok (.goto 4, 3) := by decide +kernel
theorem dX8_comesIn_135 : decode cX8_comesIn 135 = .ok (.iconst 1, 1) := by decide +kernel
theorem dX8_comesIn_136 : decode cX8_comesIn 136 = .ok (.iadd, 1) := by decide +kernel
theorem dX8_comesIn_137 : decode cX8_comesIn 137 = .ok (.iastore, 1) := by decide +kernel
theorem dX8_comesIn_138 : decode cX8_comesIn 138 = .ok (.iload 5, 2) := by decide +kernel
theorem dX8_comesIn_140 : decode cX8_comesIn 140 = .ok (.ireturn, 1) := by decide +kernel
theorem dX8_comesIn_141 : decode cX8_comesIn 141 = .ok (.aload_n 0, 1) := by decide +kernel
theorem dX8_comesIn_142 : decode cX8_comesIn 142 = .ok (.getfield 44, 3) := by decide +kernel
theorem dX8_comesIn_145 : decode cX8_comesIn 145 = .ok (.iload_n 2, 1) := by decide +kernel
theorem dX8_comesIn_146 : decode cX8_comesIn 146 = .ok (.iload 4, 2) := by decide +kernel
theorem dX8_comesIn_148 : decode cX8_comesIn 148 = .ok (.iastore, 1) := by decide +kernel
theorem dX8_comesIn_149 : decode cX8_comesIn 149 = .ok (.aload_n 0, 1) := by decide +kernel
theorem dX8_comesIn_150 : decode cX8_comesIn 150 = .ok (.getfield 41, 3) := by decide +kernel
theorem dX8_comesIn_153 : decode cX8_comesIn 153 = .ok (.iload_n 2, 1) := by decide +kernel
theorem dX8_comesIn_154 : decode cX8_comesIn 154 = .ok (.iconst 1, 1) := by decide +kernel
theorem dX8_comesIn_155 : decode cX8_comesIn 155 = .ok (.iastore, 1) := by decide +kernel
theorem dX8_comesIn_156 : decode cX8_comesIn 156 = .ok (.iload 4, 2) := by decide +kernel
theorem dX8_comesIn_158 : decode cX8_comesIn 158 = .ok (.ireturn, 1) := by decide +kernel
theorem dX8_looksAt_0 : decode cX8_looksAt 0 = .ok (.aload_n 0, 1) := by decide +kernel
theorem dX8_looksAt_1 : decode cX8_looksAt 1 = .ok (.getfield 41, 3) := by decide +kernel
theorem dX8_looksAt_4 : decode cX8_looksAt 4 = .ok (.iload_n 2, 1) := by decide +kernel
theorem dX8_looksAt_5 : decode cX8_looksAt 5 = .ok (.iaload, 1) := by decide +kernel
theorem dX8_looksAt_6 : decode cX8_looksAt 6 = .ok (.iconst 1, 1) := by decide +kernel
theorem dX8_looksAt_7 : decode cX8_looksAt 7 = .ok (.if_icmp .eq 22, 3) := by decide +kernel
theorem dX8_looksAt_10 : decode cX8_looksAt 10 = .ok (.aload_n 0, 1) := by decide +kernel
theorem dX8_looksAt_11 : decode cX8_looksAt 11 = .ok (.iload_n 1, 1) := by decide +kernel
theorem dX8_looksAt_12 : decode cX8_looksAt 12 = .ok (.iload_n 2, 1) := by decide +kernel
theorem dX8_looksAt_13 : decode cX8_looksAt 13 = .ok (.iload_n 3, 1) := by decide +kernel
theorem dX8_looksAt_14 : decode cX8_looksAt 14 = .ok (.invokevirtual 271, 3) := by decide +kernel
theorem dX8_looksAt_17 : decode cX8_looksAt 17 = .ok (.istore 4, 2) := by decide +kernel
theorem dX8_looksAt_19 : decode cX8_looksAt 19 = .ok (.aload_n 0, 1) := by decide +kernel
theorem dX8_looksAt_20 : decode cX8_looksAt 20 = .ok (.getfield 47, 3) := by decide +kernel
theorem dX8_looksAt_23 : decode cX8_looksAt 23 = .ok (.iload_n 2, 1) := by decide +kernel
theorem dX8_looksAt_24 : decode cX8_looksAt 24 = .ok (.iload_n 3, 1) := by decide +kernel
theorem dX8_looksAt_25 : decode cX8_looksAt 25 = .ok (.bastore, 1) := by decide +kernel
theorem dX8_looksAt_26 : decode cX8_looksAt 26 = .ok (.iload 4, 2) := by decide +kernel
theorem dX8_looksAt_28 : decode cX8_looksAt 28 = .ok (.ireturn, 1) := by decide +kernel
theorem dX8_looksAt_29 : decode cX8_looksAt 29 = .ok (.aload_n 0, 1) := by decide +kernel
theorem dX8_looksAt_30 : decode cX8_looksAt 30 = .ok (.getfield 44, 3) := by decide +kernel
theorem dX8_looksAt_33 : decode cX8_looksAt 33 = .ok (.iload_n 2, 1) := by decide +kernel
theorem dX8_looksAt_34 : decode cX8_looksAt 34 = .ok (.iaload, 1) := by decide +kernel
theorem dX8_looksAt_35 : decode cX8_looksAt 35 = .ok (.istore 4, 2) := by decide +kernel
theorem dX8_looksAt_37 : decode cX8_looksAt 37 = .ok (.iload_n 3, 1) := by decide +kernel
theorem dX8_looksAt_38 : decode cX8_looksAt 38 = .ok (.ifCond .eq 127, 3) := by decide +kernel
theorem dX8_looksAt_41 : decode cX8_looksAt 41 = .ok (.aload_n 0, 1) := by decide +kernel
theorem dX8_looksAt_42 : decode cX8_looksAt 42 = .ok (.getfield 47, 3) := by decide +kernel
theorem dX8_looksAt_45 : decode cX8_looksAt 45 = .ok (.iload_n 2, 1) := by decide +kernel
theorem dX8_looksAt_46 : decode cX8_looksAt 46 = .ok (.baload, 1) := by decide +kernel
theorem dX8_looksAt_47 : decode cX8_looksAt 47 = .ok (.ifCond .ne 118, 3) := by decide +kernel
theorem dX8_looksAt_50 : decode cX8_looksAt 50 = .ok (.aload_n 0, 1) := by decide +kernel
theorem dX8_looksAt_51 : decode cX8_looksAt 51 = .ok (.getfield 56, 3) := by decide +kernel
theorem dX8_looksAt_54 : decode cX8_looksAt 54 = .ok (.iload 4, 2) := by decide +kernel
theorem dX8_looksAt_56 : decode cX8_looksAt 56 = .ok (.iaload, 1) := by decide +kernel
theorem dX8_looksAt_57 : decode cX8_looksAt 57 = .ok (.iconst 1, 1) := by decide +kernel
theorem dX8_looksAt_58 : decode cX8_looksAt 58 = .ok (.if_icmp .ne 17, 3) := by decide +kernel
theorem dX8_looksAt_61 : decode cX8_looksAt 61 = .ok (.aload_n 0, 1) := by decide +kernel
theorem dX8_looksAt_62 : decode cX8_looksAt 62 = .ok (.iload 4, 2) := by decide +kernel
theorem dX8_looksAt_64 : decode cX8_looksAt 64 = .ok (.invokevirtual 155, 3) := by decide +kernel
theorem dX8_looksAt_67 : decode cX8_looksAt 67 = .ok (.iconst 1, 1) := by decide +kernel
theorem dX8_looksAt_68 : decode cX8_looksAt 68 = .ok (.if_icmp .ne 7, 3) := by decide +kernel
theorem dX8_looksAt_71 : decode cX8_looksAt 71 = .ok (.iconst 1, 1) := by decide +kernel
theorem dX8_looksAt_72 : decode cX8_looksAt 72 = .ok (.goto 4, 3) := by decide +kernel
theorem dX8_looksAt_75 : decode cX8_looksAt 75 = .ok (.iconst 0, 1) := by decide +kernel
theorem dX8_looksAt_76 : decode cX8_looksAt 76 = .ok (.istore 5, 2) := by decide +kernel
theorem dX8_looksAt_78 : decode cX8_looksAt 78 = .ok (.iload 5, 2) := by decide +kernel
theorem dX8_looksAt_80 : decode cX8_looksAt 80 = .ok (.ifCond .eq 14, 3) := by decide +kernel
theorem dX8_looksAt_83 : decode cX8_looksAt 83 = .ok (.aload_n 0, 1) := by decide +kernel
theorem dX8_looksAt_84 : decode cX8_looksAt 84 = .ok (.getfield 71, 3) := by decide +kernel
theorem dX8_looksAt_87 : decode cX8_looksAt 87 = .ok (.iload 4, 2) := by decide +kernel
theorem dX8_looksAt_89 : decode cX8_looksAt 89 = .ok (.iconst 0, 1) := by decide +kernel
theorem dX8_looksAt_90 : decode cX8_looksAt 90 = .ok (.bastore, 1) := by decide +kernel
theorem dX8_looksAt_91 : decode cX8_looksAt 91 = .ok (.goto 58, 3) := by decide +kernel
theorem dX8_looksAt_94 : decode cX8_looksAt 94 = .ok (.aload_n 0, 1) := by decide +kernel
theorem dX8_looksAt_95 : decode cX8_looksAt 95 = .ok (.getfield 56, 3) := by decide +kernel
theorem dX8_looksAt_98 : decode cX8_looksAt 98 = .ok (.iload 4, 2) := by decide +kernel
theorem dX8_looksAt_100 : decode cX8_looksAt 100 = .ok (.iaload, 1) := by decide +kernel
theorem dX8_looksAt_101 : decode cX8_looksAt 101 = .ok (.iconst 1, 1) := by decide +kernel
theorem dX8_looksAt_102 : decode cX8_looksAt 102 = .ok (.if_icmp .eq 12, 3) := by decide +kernel
theorem dX8_looksAt_105 : decode cX8_looksAt 105 = .ok (.aload_n 0, 1) := by decide +kernel
theorem dX8_looksAt_106 : decode cX8_looksAt 106 = .ok (.getfield 35, 3) := by decide +kernel
theorem dX8_looksAt_109 : decode cX8_looksAt 109 = .ok (.iload_n 2, 1) := by decide +kernel
theorem dX8_looksAt_110 : decode cX8_looksAt 110 = .ok (.baload, 1) := by decide +kernel
theorem dX8_looksAt_111 : decode cX8_looksAt 111 = .ok (.ifCond .ne 38, 3) := by decide +kernel
theorem dX8_looksAt_114 : decode cX8_looksAt 114 = .ok (.aload_n 0, 1) := by decide +kernel
theorem dX8_looksAt_115 : decode cX8_looksAt 115 = .ok (.iload_n 1, 1) := by decide +kernel
theorem dX8_looksAt_116 : decode cX8_looksAt 116 = .ok (.iload_n 2, 1) := by decide +kernel
theorem dX8_looksAt_117 : decode cX8_looksAt 117 = .ok (.aload_n 0, 1) := by decide +kernel
theorem dX8_looksAt_118 : decode cX8_looksAt 118 = .ok (.getfield 59, 3) := by decide +kernel
theorem dX8_looksAt_121 : decode cX8_looksAt 121 = .ok (.iload 4, 2) := by decide +kernel
theorem dX8_looksAt_123 : decode cX8_looksAt 123 = .ok (.iaload, 1) := by decide +kernel
theorem dX8_looksAt_124 : decode cX8_looksAt 124 = .ok (.invokevirtual 264, 3) := by decide +kernel
theorem dX8_looksAt_127 : decode cX8_looksAt 127 = .ok (.istore 4, 2) := by decide +kernel
theorem dX8_looksAt_129 : decode cX8_looksAt 129 = .ok (.aload_n 0, 1) := by decide +kernel
theorem dX8_looksAt_130 : decode cX8_looksAt 130 = .ok (.getfield 113, 3) := by decide +kernel
theorem dX8_looksAt_133 : decode cX8_looksAt 133 = .ok (.bipush 6, 2) := by decide +kernel
theorem dX8_looksAt_135 : decode cX8_looksAt 135 = .ok (.dup2, 1) := by decide +kernel
theorem dX8_looksAt_136 : decode cX8_looksAt 136 = .ok (.iaload, 1) := by decide +kernel
theorem dX8_looksAt_137 : decode cX8_looksAt 137 = .ok (.iload 4, 2) := by decide +kernel
theorem dX8_looksAt_139 : decode cX8_looksAt 139 = .ok (.ifCond .ge 7, 3) := by decide +kernel
theorem dX8_looksAt_142 : decode cX8_looksAt 142 = .ok (.iconst 0, 1) := by decide +kernel
theorem dX8_looksAt_143 : decode cX8_looksAt 143 = .ok (.goto 4, 3) := by decide +kernel
theorem dX8_looksAt_146 : decode cX8_looksAt 146 = .ok (.iconst 1, 1) := by decide +kernel
theorem dX8_looksAt_147 : decode cX8_looksAt 147 = .ok (.iadd, 1) := by decide +kernel
theorem dX8_looksAt_148 : decode cX8_looksAt 148 = .ok (.iastore, 1) := by decide +kernel
theorem dX8_looksAt_149 : decode cX8_looksAt 149 = .ok (.aload_n 0, 1) := by decide +kernel
theorem dX8_looksAt_150 : decode cX8_looksAt 150 = .ok (.getfield 47, 3) := by decide +kernel
theorem dX8_looksAt_153 : decode cX8_looksAt 153 = .ok (.iload_n 2, 1) := by decide +kernel
theorem dX8_looksAt_154 : decode cX8_looksAt 154 = .ok (.iload 4, 2) := by decide +kernel
theorem dX8_looksAt_156 : decode cX8_looksAt 156 = .ok (.ifCond .lt 7, 3) := by decide +kernel
theorem dX8_looksAt_159 : decode cX8_looksAt 159 = .ok (.iconst 1, 1) := by decide +kernel
theorem dX8_looksAt_160 : decode cX8_looksAt 160 = .ok (.goto 4, 3) := by decide +kernel
theorem dX8_looksAt_163 : decode cX8_looksAt 163 = .ok (.iconst 0, 1) := by decide +kernel
theorem dX8_looksAt_164 : decode cX8_looksAt 164 = .ok (.bastore, 1) := by decide +kernel
theorem dX8_looksAt_165 : decode cX8_looksAt 165 = .ok (.iload 4, 2) := by decide +kernel
theorem dX8_looksAt_167 : decode cX8_looksAt 167 = .ok (.ireturn, 1) := by decide +kernel
theorem dX8_translationOf_0 : decode cX8_translationOf 0 = .ok (.iconst 4, 1) := by decide +kernel
theorem dX8_translationOf_1 : decode cX8_translationOf 1 = .ok (.iload_n 1, 1) := by decide +kernel
theorem dX8_translationOf_2 : decode cX8_translationOf 2 = .ok (.imul, 1) := by decide +kernel
theorem dX8_translationOf_3 : decode cX8_translationOf 3 = .ok (.istore_n 3, 1) := by decide +kernel
theorem dX8_translationOf_4 : decode cX8_translationOf 4 = .ok (.iload_n 3, 1) := by decide +kernel
theorem dX8_translationOf_5 : decode cX8_translationOf 5 = .ok (.iconst 4, 1) := by decide +kernel
theorem dX8_translationOf_6 : decode cX8_translationOf 6 = .ok (.iload_n 1, 1) := by decide +kernel
theorem dX8_translationOf_7 : decode cX8_translationOf 7 = .ok (.imul, 1) := by decide +kernel
theorem dX8_translationOf_8 : decode cX8_translationOf 8 = .ok (.aload_n 0, 1) := by decide +kernel
theorem dX8_translationOf_9 : decode cX8_translationOf 9 = .ok (.getfield 98, 3) := by decide +kernel
theorem dX8_translationOf_12 : decode cX8_translationOf 12 = .ok (.iload_n 1, 1) := by decide +kernel
theorem dX8_translationOf_13 : decode cX8_translationOf 13 = .ok (.iaload, 1) := by decide +kernel
theorem dX8_translationOf_14 : decode cX8_translationOf 14 = .ok (.iadd, 1) := by decide +kernel
theorem dX8_translationOf_15 : decode cX8_translationOf 15 = .ok (.if_icmp .ge 21, 3) := by decide +kernel
theorem dX8_translationOf_18 : decode cX8_translationOf 18 = .ok (.aload_n 0, 1) := by decide +kernel
theorem dX8_translationOf_19 : decode cX8_translationOf 19 = .ok (.getfield 101, 3) := by decide +kernel
theorem dX8_translationOf_22 : decode cX8_translationOf 22 = .ok (.iload_n 3, 1) := by decide +kernel
theorem dX8_translationOf_23 : decode cX8_translationOf 23 = .ok (.iaload, 1) := by decide +kernel
theorem dX8_translationOf_24 : decode cX8_translationOf 24 = .ok (.iload_n 2, 1) := by decide +kernel
theorem dX8_translationOf_25 : decode cX8_translationOf 25 = .ok (.if_icmp .ne 5, 3) := by decide +kernel
theorem dX8_translationOf_28 : decode cX8_translationOf 28 = .ok (.iload_n 3, 1) := by decide +kernel
theorem dX8_translationOf_29 : decode cX8_translationOf 29 = .ok (.ireturn, 1) := by decide +kernel
theorem dX8_translationOf_30 : decode cX8_translationOf 30 = .ok (.iinc 3 1, 3) := by decide +kernel
theorem dX8_translationOf_33 : decode cX8_translationOf 33 = .ok (.goto (-29), 3) := by decide +kernel
theorem dX8_translationOf_36 : decode cX8_translationOf 36 = .ok (.iconst (-1), 1) := by decide +kernel
theorem dX8_translationOf_37 : decode cX8_translationOf 37 = .ok (.ireturn, 1) := by decide +kernel
theorem dX8_translates_0 : decode cX8_translates 0 = .ok (.aload_n 0, 1) := by decide +kernel
theorem dX8_translates_1 : decode cX8_translates 1 = .ok (.iload_n 1, 1) := by decide +kernel
theorem dX8_translates_2 : decode cX8_translates 2 = .ok (.iload_n 2, 1) := by decide +kernel
theorem dX8_translates_3 : decode cX8_translates 3 = .ok (.invokevirtual 275, 3) := by decide +kernel
theorem dX8_translates_6 : decode cX8_translates 6 = .ok (.istore_n 3, 1) := by decide +kernel
theorem dX8_translates_7 : decode cX8_translates 7 = .ok (.iload_n 3, 1) := by decide +kernel
theorem dX8_translates_8 : decode cX8_translates 8 = .ok (.iconst (-1), 1) := by decide +kernel
theorem dX8_translates_9 : decode cX8_translates 9 = .ok (.if_icmp .ne 110, 3) := by decide +kernel
theorem dX8_translates_12 : decode cX8_translates 12 = .ok (.aload_n 0, 1) := by decide +kernel
theorem dX8_translates_13 : decode cX8_translates 13 = .ok (.getfield 98, 3) := by decide +kernel
theorem dX8_translates_16 : decode cX8_translates 16 = .ok (.iload_n 1, 1) := by decide +kernel
theorem dX8_translates_17 : decode cX8_translates 17 = .ok (.iaload, 1) := by decide +kernel
theorem dX8_translates_18 : decode cX8_translates 18 = .ok (.iconst 4, 1) := by decide +kernel
theorem dX8_translates_19 : decode cX8_translates 19 = .ok (.if_icmp .ne 100, 3) := by decide +kernel
theorem dX8_translates_22 : decode cX8_translates 22 = .ok (.iconst 4, 1) := by decide +kernel
theorem dX8_translates_23 : decode cX8_translates 23 = .ok (.iload_n 1, 1) := by decide +kernel
theorem dX8_translates_24 : decode cX8_translates 24 = .ok (.imul, 1) := by decide +kernel
theorem dX8_translates_25 : decode cX8_translates 25 = .ok (.istore 4, 2) := by decide +kernel
theorem dX8_translates_27 : decode cX8_translates 27 = .ok (.iload 4, 2) := by decide +kernel
theorem dX8_translates_29 : decode cX8_translates 29 = .ok (.iconst 4, 1) := by decide +kernel
theorem dX8_translates_30 : decode cX8_translates 30 = .ok (.iload_n 1, 1) := by decide +kernel
theorem dX8_translates_31 : decode cX8_translates 31 = .ok (.imul, 1) := by decide +kernel
theorem dX8_translates_32 : decode cX8_translates 32 = .ok (.iconst 4, 1) := by decide +kernel
theorem dX8_translates_33 : decode cX8_translates 33 = .ok (.iadd, 1) := by decide +kernel
theorem dX8_translates_34 : decode cX8_translates 34 = .ok (.iconst 1, 1) := by decide +kernel
theorem dX8_translates_35 : decode cX8_translates 35 = .ok (.isub, 1) := by decide +kernel
theorem dX8_translates_36 : decode cX8_translates 36 = .ok (.if_icmp .ge 73, 3) := by decide +kernel
theorem dX8_translates_39 : decode cX8_translates 39 = .ok (.aload_n 0, 1) := by decide +kernel
theorem dX8_translates_40 : decode cX8_translates 40 = .ok (.getfield 101, 3) := by decide +kernel
theorem dX8_translates_43 : decode cX8_translates 43 = .ok (.iload 4, 2) := by decide +kernel
theorem dX8_translates_45 : decode cX8_translates 45 = .ok (.aload_n 0, 1) := by decide +kernel
theorem dX8_translates_46 : decode cX8_translates 46 = .ok (.getfield 101, 3) := by decide +kernel
theorem dX8_translates_49 : decode cX8_translates 49 = .ok (.iload 4, 2) := by decide +kernel
theorem dX8_translates_51 : decode cX8_translates 51 = .ok (.iconst 1, 1) := by decide +kernel
theorem dX8_translates_52 : decode cX8_translates 52 = .ok (.iadd, 1) := by decide +kernel
theorem dX8_translates_53 : decode cX8_translates 53 = .ok (.iaload, 1) := by decide +kernel
theorem dX8_translates_54 : decode cX8_translates 54 = .ok (.iastore, 1) := by decide +kernel
theorem dX8_translates_55 : decode cX8_translates 55 = .ok (.aload_n 0, 1) := by decide +kernel
theorem dX8_translates_56 : decode cX8_translates 56 = .ok (.getfield 104, 3) := by decide +kernel
theorem dX8_translates_59 : decode cX8_translates 59 = .ok (.iload 4, 2) := by decide +kernel
theorem dX8_translates_61 : decode cX8_translates 61 = .ok (.aload_n 0, 1) := by decide +kernel
theorem dX8_translates_62 : decode cX8_translates 62 = .ok (.getfield 104, 3) := by decide +kernel
theorem dX8_translates_65 : decode cX8_translates 65 = .ok (.iload 4, 2) := by decide +kernel
theorem dX8_translates_67 : decode cX8_translates 67 = .ok (.iconst 1, 1) := by decide +kernel
theorem dX8_translates_68 : decode cX8_translates 68 = .ok (.iadd, 1) := by decide +kernel
theorem dX8_translates_69 : decode cX8_translates 69 = .ok (.iaload, 1) := by decide +kernel
theorem dX8_translates_70 : decode cX8_translates 70 = .ok (.iastore, 1) := by decide +kernel
theorem dX8_translates_71 : decode cX8_translates 71 = .ok (.aload_n 0, 1) := by decide +kernel
theorem dX8_translates_72 : decode cX8_translates 72 = .ok (.getfield 107, 3) := by decide +kernel
theorem dX8_translates_75 : decode cX8_translates 75 = .ok (.iload 4, 2) := by decide +kernel
theorem dX8_translates_77 : decode cX8_translates 77 = .ok (.aload_n 0, 1) := by decide +kernel
theorem dX8_translates_78 : decode cX8_translates 78 = .ok (.getfield 107, 3) := by decide +kernel
theorem dX8_translates_81 : decode cX8_translates 81 = .ok (.iload 4, 2) := by decide +kernel
theorem dX8_translates_83 : decode cX8_translates 83 = .ok (.iconst 1, 1) := by decide +kernel
theorem dX8_translates_84 : decode cX8_translates 84 = .ok (.iadd, 1) := by decide +kernel
theorem dX8_translates_85 : decode cX8_translates 85 = .ok (.baload, 1) := by decide +kernel
theorem dX8_translates_86 : decode cX8_translates 86 = .ok (.bastore, 1) := by decide +kernel
theorem dX8_translates_87 : decode cX8_translates 87 = .ok (.aload_n 0, 1) := by decide +kernel
theorem dX8_translates_88 : decode cX8_translates 88 = .ok (.getfield 110, 3) := by decide +kernel
theorem dX8_translates_91 : decode cX8_translates 91 = .ok (.iload 4, 2) := by decide +kernel
theorem dX8_translates_93 : decode cX8_translates 93 = .ok (.aload_n 0, 1) := by decide +kernel
theorem dX8_translates_94 : decode cX8_translates 94 = .ok (.getfield 110, 3) := by decide +kernel
theorem dX8_translates_97 : decode cX8_translates 97 = .ok (.iload 4, 2) := by decide +kernel
theorem dX8_translates_99 : decode cX8_translates 99 = .ok (.iconst 1, 1) := by decide +kernel
theorem dX8_translates_100 : decode cX8_translates 100 = .ok (.iadd, 1) := by decide +kernel
theorem dX8_translates_101 : decode cX8_translates 101 = .ok (.baload, 1) := by decide +kernel
theorem dX8_translates_102 : decode cX8_translates 102 = .ok (.bastore, 1) := by decide +kernel
theorem dX8_translates_103 : decode cX8_translates 103 = .ok (.iinc 4 1, 3) := by decide +kernel
theorem dX8_translates_106 : decode cX8_translates 106 = .ok (.goto (-79), 3) := by decide +kernel
theorem dX8_translates_109 : decode cX8_translates 109 = .ok (.aload_n 0, 1) := by decide +kernel
theorem dX8_translates_110 : decode cX8_translates 110 = .ok (.getfield 98, 3) := by decide +kernel
theorem dX8_translates_113 : decode cX8_translates 113 = .ok (.iload_n 1, 1) := by decide +kernel
theorem dX8_translates_114 : decode cX8_translates 114 = .ok (.dup2, 1) := by decide +kernel
theorem dX8_translates_115 : decode cX8_translates 115 = .ok (.iaload, 1) := by decide +kernel
theorem dX8_translates_116 : decode cX8_translates 116 = .ok (.iconst 1, 1) := by decide +kernel
theorem dX8_translates_117 : decode cX8_translates 117 = .ok (.isub, 1) := by decide +kernel
theorem dX8_translates_118 : decode cX8_translates 118 = .ok (.iastore, 1) := by decide +kernel
theorem dX8_translates_119 : decode cX8_translates 119 = .ok (.iload_n 3, 1) := by decide +kernel
theorem dX8_translates_120 : decode cX8_translates 120 = .ok (.iconst (-1), 1) := by decide +kernel
theorem dX8_translates_121 : decode cX8_translates 121 = .ok (.if_icmp .ne 24, 3) := by decide +kernel
theorem dX8_translates_124 : decode cX8_translates 124 = .ok (.iconst 4, 1) := by decide +kernel
theorem dX8_translates_125 : decode cX8_translates 125 = .ok (.iload_n 1, 1) := by decide +kernel
theorem dX8_translates_126 : decode cX8_translates 126 = .ok (.imul, 1) := by decide +kernel
theorem dX8_translates_127 : decode cX8_translates 127 = .ok (.aload_n 0, 1) := by decide +kernel
theorem dX8_translates_128 : decode cX8_translates 128 = .ok (.getfield 98, 3) := by decide +kernel
theorem dX8_translates_131 : decode cX8_translates 131 = .ok (.iload_n 1, 1) := by decide +kernel
theorem dX8_translates_132 : decode cX8_translates 132 = .ok (.iaload, 1) := by decide +kernel
theorem dX8_translates_133 : decode cX8_translates 133 = .ok (.iadd, 1) := by decide +kernel
theorem dX8_translates_134 : decode cX8_translates 134 = .ok (.istore_n 3, 1) := by decide +kernel
theorem dX8_translates_135 : decode cX8_translates 135 = .ok (.aload_n 0, 1) := by decide +kernel
theorem dX8_translates_136 : decode cX8_translates 136 = .ok (.getfield 98, 3) := by decide +kernel
theorem dX8_translates_139 : decode cX8_translates 139 = .ok (.iload_n 1, 1) := by decide +kernel
theorem dX8_translates_140 : decode cX8_translates 140 = .ok (.dup2, 1) := by decide +kernel
theorem dX8_translates_141 : decode cX8_translates 141 = .ok (.iaload, 1) := by decide +kernel
theorem dX8_translates_142 : decode cX8_translates 142 = .ok (.iconst 1, 1) := by decide +kernel
theorem dX8_translates_143 : decode cX8_translates 143 = .ok (.iadd, 1) := by decide +kernel
theorem dX8_translates_144 : decode cX8_translates 144 = .ok (.iastore, 1) := by decide +kernel
theorem dX8_translates_145 : decode cX8_translates 145 = .ok (.aload_n 0, 1) := by decide +kernel
theorem dX8_translates_146 : decode cX8_translates 146 = .ok (.getfield 101, 3) := by decide +kernel
theorem dX8_translates_149 : decode cX8_translates 149 = .ok (.iload_n 3, 1) := by decide +kernel
theorem dX8_translates_150 : decode cX8_translates 150 = .ok (.iload_n 2, 1) := by decide +kernel
theorem dX8_translates_151 : decode cX8_translates 151 = .ok (.iastore, 1) := by decide +kernel
theorem dX8_translates_152 : decode cX8_translates 152 = .ok (.aload_n 0, 1) := by decide +kernel
theorem dX8_translates_153 : decode cX8_translates 153 = .ok (.getfield 104, 3) := by decide +kernel
theorem dX8_translates_156 : decode cX8_translates 156 = .ok (.iload_n 3, 1) := by decide +kernel
theorem dX8_translates_157 : decode cX8_translates 157 = .ok (.aload_n 0, 1) := by decide +kernel
theorem dX8_translates_158 : decode cX8_translates 158 = .ok (.getfield 44, 3) := by decide +kernel
theorem dX8_translates_161 : decode cX8_translates 161 = .ok (.iload_n 2, 1) := by decide +kernel
theorem dX8_translates_162 : decode cX8_translates 162 = .ok (.iaload, 1) := by decide +kernel
theorem dX8_translates_163 : decode cX8_translates 163 = .ok (.iastore, 1) := by decide +kernel
theorem dX8_translates_164 : decode cX8_translates 164 = .ok (.aload_n 0, 1) := by decide +kernel
theorem dX8_translates_165 : decode cX8_translates 165 = .ok (.getfield 107, 3) := by decide +kernel
theorem dX8_translates_168 : decode cX8_translates 168 = .ok (.iload_n 3, 1) := by decide +kernel
theorem dX8_translates_169 : decode cX8_translates 169 = .ok (.aload_n 0, 1) := by decide +kernel
theorem dX8_translates_170 : decode cX8_translates 170 = .ok (.getfield 47, 3) := by decide +kernel
theorem dX8_translates_173 : decode cX8_translates 173 = .ok (.iload_n 2, 1) := by decide +kernel
theorem dX8_translates_174 : decode cX8_translates 174 = .ok (.baload, 1) := by decide +kernel
theorem dX8_translates_175 : decode cX8_translates 175 = .ok (.bastore, 1) := by decide +kernel
theorem dX8_translates_176 : decode cX8_translates 176 = .ok (.aload_n 0, 1) := by decide +kernel
theorem dX8_translates_177 : decode cX8_translates 177 = .ok (.getfield 110, 3) := by decide +kernel
theorem dX8_translates_180 : decode cX8_translates 180 = .ok (.iload_n 3, 1) := by decide +kernel
theorem dX8_translates_181 : decode cX8_translates 181 = .ok (.iconst 0, 1) := by decide +kernel
theorem dX8_translates_182 : decode cX8_translates 182 = .ok (.bastore, 1) := by decide +kernel
theorem dX8_translates_183 : decode cX8_translates 183 = .ok (.return_, 1) := by decide +kernel
theorem dX8_access_0 : decode cX8_access 0 = .ok (.bipush 32, 2) := by decide +kernel
theorem dX8_access_2 : decode cX8_access 2 = .ok (.iload_n 2, 1) := by decide +kernel
theorem dX8_access_3 : decode cX8_access 3 = .ok (.imul, 1) := by decide +kernel
theorem dX8_access_4 : decode cX8_access 4 = .ok (.iload_n 3, 1) := by decide +kernel
theorem dX8_access_5 : decode cX8_access 5 = .ok (.iadd, 1) := by decide +kernel
theorem dX8_access_6 : decode cX8_access 6 = .ok (.istore 6, 2) := by decide +kernel
theorem dX8_access_8 : decode cX8_access 8 = .ok (.aload_n 0, 1) := by decide +kernel
theorem dX8_access_9 : decode cX8_access 9 = .ok (.iload_n 1, 1) := by decide +kernel
theorem dX8_access_10 : decode cX8_access 10 = .ok (.invokevirtual 218, 3) := by decide +kernel
theorem dX8_access_13 : decode cX8_access 13 = .ok (.pop, 1) := by decide +kernel
theorem dX8_access_14 : decode cX8_access 14 = .ok (.aload_n 0, 1) := by decide +kernel
theorem dX8_access_15 : decode cX8_access 15 = .ok (.iload_n 2, 1) := by decide +kernel
theorem dX8_access_16 : decode cX8_access 16 = .ok (.iload_n 3, 1) := by decide +kernel
theorem dX8_access_17 : decode cX8_access 17 = .ok (.invokevirtual 278, 3) := by decide +kernel
theorem dX8_access_20 : decode cX8_access 20 = .ok (.aload_n 0, 1) := by decide +kernel
theorem dX8_access_21 : decode cX8_access 21 = .ok (.getfield 26, 3) := by decide +kernel
theorem dX8_access_24 : decode cX8_access 24 = .ok (.iload 6, 2) := by decide +kernel
theorem dX8_access_26 : decode cX8_access 26 = .ok (.iaload, 1) := by decide +kernel
theorem dX8_access_27 : decode cX8_access 27 = .ok (.ifCond .ne 6, 3) := by decide +kernel
theorem dX8_access_30 : decode cX8_access 30 = .ok (.bipush (-2), 2) := by decide +kernel
theorem dX8_access_32 : decode cX8_access 32 = .ok (.ireturn, 1) := by decide +kernel
theorem dX8_access_33 : decode cX8_access 33 = .ok (.aload_n 0, 1) := by decide +kernel
theorem dX8_access_34 : decode cX8_access 34 = .ok (.getfield 26, 3) := by decide +kernel
theorem dX8_access_37 : decode cX8_access 37 = .ok (.iload 6, 2) := by decide +kernel
theorem dX8_access_39 : decode cX8_access 39 = .ok (.iaload, 1) := by decide +kernel
theorem dX8_access_40 : decode cX8_access 40 = .ok (.iload 4, 2) := by decide +kernel
theorem dX8_access_42 : decode cX8_access 42 = .ok (.ifCond .eq 7, 3) := by decide +kernel
theorem dX8_access_45 : decode cX8_access 45 = .ok (.iconst 2, 1) := by decide +kernel
theorem dX8_access_46 : decode cX8_access 46 = .ok (.goto 4, 3) := by decide +kernel
theorem dX8_access_49 : decode cX8_access 49 = .ok (.iconst 1, 1) := by decide +kernel
theorem dX8_access_50 : decode cX8_access 50 = .ok (.iand, 1) := by decide +kernel
theorem dX8_access_51 : decode cX8_access 51 = .ok (.ifCond .ne 6, 3) := by decide +kernel
theorem dX8_access_54 : decode cX8_access 54 = .ok (.bipush (-3), 2) := by decide +kernel
theorem dX8_access_56 : decode cX8_access 56 = .ok (.ireturn, 1) := by decide +kernel
theorem dX8_access_57 : decode cX8_access 57 = .ok (.aload_n 0, 1) := by decide +kernel
theorem dX8_access_58 : decode cX8_access 58 = .ok (.iload_n 1, 1) := by decide +kernel
theorem dX8_access_59 : decode cX8_access 59 = .ok (.iload 6, 2) := by decide +kernel
theorem dX8_access_61 : decode cX8_access 61 = .ok (.invokevirtual 275, 3) := by decide +kernel
theorem dX8_access_64 : decode cX8_access 64 = .ok (.istore 7, 2) := by decide +kernel
theorem dX8_access_66 : decode cX8_access 66 = .ok (.iload 7, 2) := by decide +kernel
theorem dX8_access_68 : decode cX8_access 68 = .ok (.iconst (-1), 1) := by decide +kernel
theorem dX8_access_69 : decode cX8_access 69 = .ok (.if_icmp .eq 31, 3) := by decide +kernel
theorem dX8_access_72 : decode cX8_access 72 = .ok (.aload_n 0, 1) := by decide +kernel
theorem dX8_access_73 : decode cX8_access 73 = .ok (.getfield 107, 3) := by decide +kernel
theorem dX8_access_76 : decode cX8_access 76 = .ok (.iload 7, 2) := by decide +kernel
theorem dX8_access_78 : decode cX8_access 78 = .ok (.baload, 1) := by decide +kernel
theorem dX8_access_79 : decode cX8_access 79 = .ok (.ifCond .ne 8, 3) := by decide +kernel
theorem dX8_access_82 : decode cX8_access 82 = .ok (.iload 4, 2) := by decide +kernel
theorem dX8_access_84 : decode cX8_access 84 = .ok (.ifCond .ne 16, 3) := by decide +kernel
theorem dX8_access_87 : decode cX8_access 87 = .ok (.aload_n 0, 1) := by decide +kernel
theorem dX8_access_88 : decode cX8_access 88 = .ok (.getfield 113, 3) := by decide +kernel
theorem dX8_access_91 : decode cX8_access 91 = .ok (.iconst 0, 1) := by decide +kernel
theorem dX8_access_92 : decode cX8_access 92 = .ok (.dup2, 1) := by decide +kernel
theorem dX8_access_93 : decode cX8_access 93 = .ok (.iaload, 1) := by decide +kernel
theorem dX8_access_94 : decode cX8_access 94 = .ok (.iconst 1, 1) := by decide +kernel
theorem dX8_access_95 : decode cX8_access 95 = .ok (.iadd, 1) := by decide +kernel
theorem dX8_access_96 : decode cX8_access 96 = .ok (.iastore, 1) := by decide +kernel
theorem dX8_access_97 : decode cX8_access 97 = .ok (.goto 39, 3) := by decide +kernel
theorem dX8_access_100 : decode cX8_access 100 = .ok (.aload_n 0, 1) := by decide +kernel
theorem dX8_access_101 : decode cX8_access 101 = .ok (.getfield 113, 3) := by decide +kernel
theorem dX8_access_104 : decode cX8_access 104 = .ok (.iconst 1, 1) := by decide +kernel
theorem dX8_access_105 : decode cX8_access 105 = .ok (.dup2, 1) := by decide +kernel
theorem dX8_access_106 : decode cX8_access 106 = .ok (.iaload, 1) := by decide +kernel
theorem dX8_access_107 : decode cX8_access 107 = .ok (.iconst 1, 1) := by decide +kernel
theorem dX8_access_108 : decode cX8_access 108 = .ok (.iadd, 1) := by decide +kernel
theorem dX8_access_109 : decode cX8_access 109 = .ok (.iastore, 1) := by decide +kernel
theorem dX8_access_110 : decode cX8_access 110 = .ok (.aload_n 0, 1) := by decide +kernel
theorem dX8_access_111 : decode cX8_access 111 = .ok (.iload_n 2, 1) := by decide +kernel
theorem dX8_access_112 : decode cX8_access 112 = .ok (.iload 6, 2) := by decide +kernel
theorem dX8_access_114 : decode cX8_access 114 = .ok (.iload 4, 2) := by decide +kernel
theorem dX8_access_116 : decode cX8_access 116 = .ok (.invokevirtual 281, 3) := by decide +kernel
theorem dX8_access_119 : decode cX8_access 119 = .ok (.istore 8, 2) := by decide +kernel
theorem dX8_access_121 : decode cX8_access 121 = .ok (.iload 8, 2) := by decide +kernel
theorem dX8_access_123 : decode cX8_access 123 = .ok (.ifCond .ge 6, 3) := by decide +kernel
theorem dX8_access_126 : decode cX8_access 126 = .ok (.iload 8, 2) := by decide +kernel
theorem dX8_access_128 : decode cX8_access 128 = .ok (.ireturn, 1) := by decide +kernel
theorem dX8_access_129 : decode cX8_access 129 = .ok (.aload_n 0, 1) := by decide +kernel
theorem dX8_access_130 : decode cX8_access 130 = .ok (.iload_n 1, 1) := by decide +kernel
theorem dX8_access_131 : decode cX8_access 131 = .ok (.iload 6, 2) := by decide +kernel
theorem dX8_access_133 : decode cX8_access 133 = .ok (.invokevirtual 284, 3) := by decide +kernel
theorem dX8_access_136 : decode cX8_access 136 = .ok (.aload_n 0, 1) := by decide +kernel
theorem dX8_access_137 : decode cX8_access 137 = .ok (.aload_n 0, 1) := by decide +kernel
theorem dX8_access_138 : decode cX8_access 138 = .ok (.getfield 44, 3) := by decide +kernel
theorem dX8_access_141 : decode cX8_access 141 = .ok (.iload 6, 2) := by decide +kernel
theorem dX8_access_143 : decode cX8_access 143 = .ok (.iaload, 1) := by decide +kernel
theorem dX8_access_144 : decode cX8_access 144 = .ok (.iload 4, 2) := by decide +kernel
theorem dX8_access_146 : decode cX8_access 146 = .ok (.iload 5, 2) := by decide +kernel
theorem dX8_access_148 : decode cX8_access 148 = .ok (.invokevirtual 287, 3) := by decide +kernel
theorem dX8_access_151 : decode cX8_access 151 = .ok (.ireturn, 1) := by decide +kernel
theorem dX8_takesValue_0 : decode cX8_takesValue 0 = .ok (.aload_n 0, 1) := by decide +kernel
theorem dX8_takesValue_1 : decode cX8_takesValue 1 = .ok (.getfield 59, 3) := by decide +kernel
theorem dX8_takesValue_4 : decode cX8_takesValue 4 = .ok (.iload_n 1, 1) := by decide +kernel
theorem dX8_takesValue_5 : decode cX8_takesValue 5 = .ok (.iaload, 1) := by decide +kernel
theorem dX8_takesValue_6 : decode cX8_takesValue 6 = .ok (.istore 4, 2) := by decide +kernel
theorem dX8_takesValue_8 : decode cX8_takesValue 8 = .ok (.aload_n 0, 1) := by decide +kernel
theorem dX8_takesValue_9 : decode cX8_takesValue 9 = .ok (.getfield 65, 3) := by decide +kernel
theorem dX8_takesValue_12 : decode cX8_takesValue 12 = .ok (.iload_n 1, 1) := by decide +kernel
theorem dX8_takesValue_13 : decode cX8_takesValue 13 = .ok (.iconst 1, 1) := by decide +kernel
theorem dX8_takesValue_14 : decode cX8_takesValue 14 = .ok (.bastore, 1) := by decide +kernel
theorem dX8_takesValue_15 : decode cX8_takesValue 15 = .ok (.aload_n 0, 1) := by decide +kernel
theorem dX8_takesValue_16 : decode cX8_takesValue 16 = .ok (.getfield 59, 3) := by decide +kernel
theorem dX8_takesValue_19 : decode cX8_takesValue 19 = .ok (.iload_n 1, 1) := by decide +kernel
theorem dX8_takesValue_20 : decode cX8_takesValue 20 = .ok (.iload_n 2, 1) := by decide +kernel
theorem dX8_takesValue_21 : decode cX8_takesValue 21 = .ok (.ifCond .eq 7, 3) := by decide +kernel
theorem dX8_takesValue_24 : decode cX8_takesValue 24 = .ok (.iload_n 3, 1) := by decide +kernel
theorem dX8_takesValue_25 : decode cX8_takesValue 25 = .ok (.goto 5, 3) := by decide +kernel
theorem dX8_takesValue_28 : decode cX8_takesValue 28 = .ok (.iload 4, 2) := by decide +kernel
theorem dX8_takesValue_30 : decode cX8_takesValue 30 = .ok (.iastore, 1) := by decide +kernel
theorem dX8_takesValue_31 : decode cX8_takesValue 31 = .ok (.aload_n 0, 1) := by decide +kernel
theorem dX8_takesValue_32 : decode cX8_takesValue 32 = .ok (.getfield 71, 3) := by decide +kernel
theorem dX8_takesValue_35 : decode cX8_takesValue 35 = .ok (.iload_n 1, 1) := by decide +kernel
theorem dX8_takesValue_36 : decode cX8_takesValue 36 = .ok (.dup2, 1) := by decide +kernel
theorem dX8_takesValue_37 : decode cX8_takesValue 37 = .ok (.baload, 1) := by decide +kernel
theorem dX8_takesValue_38 : decode cX8_takesValue 38 = .ok (.iload_n 2, 1) := by decide +kernel
theorem dX8_takesValue_39 : decode cX8_takesValue 39 = .ok (.ifCond .eq 17, 3) := by decide +kernel
theorem dX8_takesValue_42 : decode cX8_takesValue 42 = .ok (.aload_n 0, 1) := by decide +kernel
theorem dX8_takesValue_43 : decode cX8_takesValue 43 = .ok (.getfield 56, 3) := by decide +kernel
theorem dX8_takesValue_46 : decode cX8_takesValue 46 = .ok (.iload_n 1, 1) := by decide +kernel
theorem dX8_takesValue_47 : decode cX8_takesValue 47 = .ok (.iaload, 1) := by decide +kernel
theorem dX8_takesValue_48 : decode cX8_takesValue 48 = .ok (.iconst 2, 1) := by decide +kernel
theorem dX8_takesValue_49 : decode cX8_takesValue 49 = .ok (.if_icmp .ne 7, 3) := by decide +kernel
theorem dX8_takesValue_52 : decode cX8_takesValue 52 = .ok (.iconst 1, 1) := by decide +kernel
theorem dX8_takesValue_53 : decode cX8_takesValue 53 = .ok (.goto 4, 3) := by decide +kernel
theorem dX8_takesValue_56 : decode cX8_takesValue 56 = .ok (.iconst 0, 1) := by decide +kernel
theorem dX8_takesValue_57 : decode cX8_takesValue 57 = .ok (.ior, 1) := by decide +kernel
theorem dX8_takesValue_58 : decode cX8_takesValue 58 = .ok (.bastore, 1) := by decide +kernel
theorem dX8_takesValue_59 : decode cX8_takesValue 59 = .ok (.iload 4, 2) := by decide +kernel
theorem dX8_takesValue_61 : decode cX8_takesValue 61 = .ok (.ireturn, 1) := by decide +kernel
theorem dX8_load_0 : decode cX8_load 0 = .ok (.aload_n 0, 1) := by decide +kernel
theorem dX8_load_1 : decode cX8_load 1 = .ok (.iload_n 1, 1) := by decide +kernel
theorem dX8_load_2 : decode cX8_load 2 = .ok (.iconst 0, 1) := by decide +kernel
theorem dX8_load_3 : decode cX8_load 3 = .ok (.iconst 1, 1) := by decide +kernel
theorem dX8_load_4 : decode cX8_load 4 = .ok (.invokestatic 126, 3) := by decide +kernel
theorem dX8_load_7 : decode cX8_load 7 = .ok (.ifCond .eq 15, 3) := by decide +kernel
theorem dX8_load_10 : decode cX8_load 10 = .ok (.aload_n 0, 1) := by decide +kernel
theorem dX8_load_11 : decode cX8_load 11 = .ok (.iload_n 2, 1) := by decide +kernel
theorem dX8_load_12 : decode cX8_load 12 = .ok (.invokevirtual 130, 3) := by decide +kernel
theorem dX8_load_15 : decode cX8_load 15 = .ok (.ifCond .eq 7, 3) := by decide +kernel
theorem dX8_load_18 : decode cX8_load 18 = .ok (.iconst 1, 1) := by decide +kernel
theorem dX8_load_19 : decode cX8_load 19 = .ok (.goto 4, 3) := by decide +kernel
theorem dX8_load_22 : decode cX8_load 22 = .ok (.iconst 0, 1) := by decide +kernel
theorem dX8_load_23 : decode cX8_load 23 = .ok (.iload_n 3, 1) := by decide +kernel
theorem dX8_load_24 : decode cX8_load 24 = .ok (.iconst 0, 1) := by decide +kernel
theorem dX8_load_25 : decode cX8_load 25 = .ok (.bipush 31, 2) := by decide +kernel
theorem dX8_load_27 : decode cX8_load 27 = .ok (.invokestatic 126, 3) := by decide +kernel
theorem dX8_load_30 : decode cX8_load 30 = .ok (.aload_n 0, 1) := by decide +kernel
theorem dX8_load_31 : decode cX8_load 31 = .ok (.iload_n 2, 1) := by decide +kernel
theorem dX8_load_32 : decode cX8_load 32 = .ok (.invokevirtual 238, 3) := by decide +kernel
theorem dX8_load_35 : decode cX8_load 35 = .ok (.invokevirtual 245, 3) := by decide +kernel
theorem dX8_load_38 : decode cX8_load 38 = .ok (.ifCond .eq 15, 3) := by decide +kernel
theorem dX8_load_41 : decode cX8_load 41 = .ok (.aload_n 0, 1) := by decide +kernel
theorem dX8_load_42 : decode cX8_load 42 = .ok (.iload_n 1, 1) := by decide +kernel
theorem dX8_load_43 : decode cX8_load 43 = .ok (.iload_n 2, 1) := by decide +kernel
theorem dX8_load_44 : decode cX8_load 44 = .ok (.iload_n 3, 1) := by decide +kernel
theorem dX8_load_45 : decode cX8_load 45 = .ok (.iconst 0, 1) := by decide +kernel
theorem dX8_load_46 : decode cX8_load 46 = .ok (.iconst 0, 1) := by decide +kernel
theorem dX8_load_47 : decode cX8_load 47 = .ok (.invokevirtual 291, 3) := by decide +kernel
theorem dX8_load_50 : decode cX8_load 50 = .ok (.goto 4, 3) := by decide +kernel
theorem dX8_load_53 : decode cX8_load 53 = .ok (.iconst 0, 1) := by decide +kernel
theorem dX8_load_54 : decode cX8_load 54 = .ok (.ireturn, 1) := by decide +kernel
theorem dX8_store_0 : decode cX8_store 0 = .ok (.aload_n 0, 1) := by decide +kernel
theorem dX8_store_1 : decode cX8_store 1 = .ok (.iload_n 1, 1) := by decide +kernel
theorem dX8_store_2 : decode cX8_store 2 = .ok (.iconst 0, 1) := by decide +kernel
theorem dX8_store_3 : decode cX8_store 3 = .ok (.iconst 1, 1) := by decide +kernel
theorem dX8_store_4 : decode cX8_store 4 = .ok (.invokestatic 126, 3) := by decide +kernel
theorem dX8_store_7 : decode cX8_store 7 = .ok (.ifCond .eq 15, 3) := by decide +kernel
theorem dX8_store_10 : decode cX8_store 10 = .ok (.aload_n 0, 1) := by decide +kernel
theorem dX8_store_11 : decode cX8_store 11 = .ok (.iload_n 2, 1) := by decide +kernel
theorem dX8_store_12 : decode cX8_store 12 = .ok (.invokevirtual 130, 3) := by decide +kernel
theorem dX8_store_15 : decode cX8_store 15 = .ok (.ifCond .eq 7, 3) := by decide +kernel
theorem dX8_store_18 : decode cX8_store 18 = .ok (.iconst 1, 1) := by decide +kernel
theorem dX8_store_19 : decode cX8_store 19 = .ok (.goto 4, 3) := by decide +kernel
theorem dX8_store_22 : decode cX8_store 22 = .ok (.iconst 0, 1) := by decide +kernel
theorem dX8_store_23 : decode cX8_store 23 = .ok (.iload_n 3, 1) := by decide +kernel
theorem dX8_store_24 : decode cX8_store 24 = .ok (.iconst 0, 1) := by decide +kernel
theorem dX8_store_25 : decode cX8_store 25 = .ok (.bipush 31, 2) := by decide +kernel
theorem dX8_store_27 : decode cX8_store 27 = .ok (.invokestatic 126, 3) := by decide +kernel
theorem dX8_store_30 : decode cX8_store 30 = .ok (.ifCond .eq 19, 3) := by decide +kernel
theorem dX8_store_33 : decode cX8_store 33 = .ok (.iload 4, 2) := by decide +kernel
theorem dX8_store_35 : decode cX8_store 35 = .ok (.iconst 0, 1) := by decide +kernel
theorem dX8_store_36 : decode cX8_store 36 = .ok (.ldc_w 295, 3) := by decide +kernel
theorem dX8_store_39 : decode cX8_store 39 = .ok (.invokestatic 126, 3) := by decide +kernel
theorem dX8_store_42 : decode cX8_store 42 = .ok (.ifCond .eq 7, 3) := by decide +kernel
theorem dX8_store_45 : decode cX8_store 45 = .ok (.iconst 1, 1) := by decide +kernel
theorem dX8_store_46 : decode cX8_store 46 = .ok (.goto 4, 3) := by decide +kernel
theorem dX8_store_49 : decode cX8_store 49 = .ok (.iconst 0, 1) := by decide +kernel
theorem dX8_store_50 : decode cX8_store 50 = .ok (.aload_n 0, 1) := by decide +kernel
theorem dX8_store_51 : decode cX8_store 51 = .ok (.iload_n 2, 1) := by decide +kernel
theorem dX8_store_52 : decode cX8_store 52 = .ok (.invokevirtual 238, 3) := by decide +kernel
theorem dX8_store_55 : decode cX8_store 55 = .ok (.invokevirtual 245, 3) := by decide +kernel
theorem dX8_store_58 : decode cX8_store 58 = .ok (.ifCond .eq 16, 3) := by decide +kernel
theorem dX8_store_61 : decode cX8_store 61 = .ok (.aload_n 0, 1) := by decide +kernel
theorem dX8_store_62 : decode cX8_store 62 = .ok (.iload_n 1, 1) := by decide +kernel
theorem dX8_store_63 : decode cX8_store 63 = .ok (.iload_n 2, 1) := by decide +kernel
theorem dX8_store_64 : decode cX8_store 64 = .ok (.iload_n 3, 1) := by decide +kernel
theorem dX8_store_65 : decode cX8_store 65 = .ok (.iconst 1, 1) := by decide +kernel
theorem dX8_store_66 : decode cX8_store 66 = .ok (.iload 4, 2) := by decide +kernel
theorem dX8_store_68 : decode cX8_store 68 = .ok (.invokevirtual 291, 3) := by decide +kernel
theorem dX8_store_71 : decode cX8_store 71 = .ok (.goto 4, 3) := by decide +kernel
theorem dX8_store_74 : decode cX8_store 74 = .ok (.iconst 0, 1) := by decide +kernel
theorem dX8_store_75 : decode cX8_store 75 = .ok (.ireturn, 1) := by decide +kernel
theorem dX8_isFile_0 : decode cX8_isFile 0 = .ok (.iload_n 0, 1) := by decide +kernel
theorem dX8_isFile_1 : decode cX8_isFile 1 = .ok (.iconst 0, 1) := by decide +kernel
theorem dX8_isFile_2 : decode cX8_isFile 2 = .ok (.iconst 2, 1) := by decide +kernel
theorem dX8_isFile_3 : decode cX8_isFile 3 = .ok (.invokestatic 126, 3) := by decide +kernel
theorem dX8_isFile_6 : decode cX8_isFile 6 = .ok (.ifCond .eq 17, 3) := by decide +kernel
theorem dX8_isFile_9 : decode cX8_isFile 9 = .ok (.iload_n 1, 1) := by decide +kernel
theorem dX8_isFile_10 : decode cX8_isFile 10 = .ok (.iconst 0, 1) := by decide +kernel
theorem dX8_isFile_11 : decode cX8_isFile 11 = .ok (.bipush 7, 2) := by decide +kernel
theorem dX8_isFile_13 : decode cX8_isFile 13 = .ok (.invokestatic 126, 3) := by decide +kernel
theorem dX8_isFile_16 : decode cX8_isFile 16 = .ok (.ifCond .eq 7, 3) := by decide +kernel
theorem dX8_isFile_19 : decode cX8_isFile 19 = .ok (.iconst 1, 1) := by decide +kernel
theorem dX8_isFile_20 : decode cX8_isFile 20 = .ok (.goto 4, 3) := by decide +kernel
theorem dX8_isFile_23 : decode cX8_isFile 23 = .ok (.iconst 0, 1) := by decide +kernel
theorem dX8_isFile_24 : decode cX8_isFile 24 = .ok (.ireturn, 1) := by decide +kernel
theorem dX8_read_0 : decode cX8_read 0 = .ok (.aload_n 0, 1) := by decide +kernel
theorem dX8_read_1 : decode cX8_read 1 = .ok (.iload_n 1, 1) := by decide +kernel
theorem dX8_read_2 : decode cX8_read 2 = .ok (.iload_n 2, 1) := by decide +kernel
theorem dX8_read_3 : decode cX8_read 3 = .ok (.invokestatic 296, 3) := by decide +kernel
theorem dX8_read_6 : decode cX8_read 6 = .ok (.invokevirtual 261, 3) := by decide +kernel
theorem dX8_read_9 : decode cX8_read 9 = .ok (.ifCond .ne 5, 3) := by decide +kernel
theorem dX8_read_12 : decode cX8_read 12 = .ok (.iconst 0, 1) := by decide +kernel
theorem dX8_read_13 : decode cX8_read 13 = .ok (.ireturn, 1) := by decide +kernel
theorem dX8_read_14 : decode cX8_read 14 = .ok (.aload_n 0, 1) := by decide +kernel
theorem dX8_read_15 : decode cX8_read 15 = .ok (.bipush 8, 2) := by decide +kernel
theorem dX8_read_17 : decode cX8_read 17 = .ok (.iload_n 1, 1) := by decide +kernel
theorem dX8_read_18 : decode cX8_read 18 = .ok (.imul, 1) := by decide +kernel
theorem dX8_read_19 : decode cX8_read 19 = .ok (.iload_n 2, 1) := by decide +kernel
theorem dX8_read_20 : decode cX8_read 20 = .ok (.iadd, 1) := by decide +kernel
theorem dX8_read_21 : decode cX8_read 21 = .ok (.iconst 0, 1) := by decide +kernel
theorem dX8_read_22 : decode cX8_read 22 = .ok (.iconst (-1), 1) := by decide +kernel
theorem dX8_read_23 : decode cX8_read 23 = .ok (.invokevirtual 268, 3) := by decide +kernel
theorem dX8_read_26 : decode cX8_read 26 = .ok (.istore_n 3, 1) := by decide +kernel
theorem dX8_read_27 : decode cX8_read 27 = .ok (.iload_n 3, 1) := by decide +kernel
theorem dX8_read_28 : decode cX8_read 28 = .ok (.ifCond .ge 8, 3) := by decide +kernel
theorem dX8_read_31 : decode cX8_read 31 = .ok (.bipush (-5), 2) := by decide +kernel
theorem dX8_read_33 : decode cX8_read 33 = .ok (.goto 10, 3) := by decide +kernel
theorem dX8_read_36 : decode cX8_read 36 = .ok (.aload_n 0, 1) := by decide +kernel
theorem dX8_read_37 : decode cX8_read 37 = .ok (.iload_n 3, 1) := by decide +kernel
theorem dX8_read_38 : decode cX8_read 38 = .ok (.iconst 0, 1) := by decide +kernel
theorem dX8_read_39 : decode cX8_read 39 = .ok (.iconst 0, 1) := by decide +kernel
theorem dX8_read_40 : decode cX8_read 40 = .ok (.invokevirtual 287, 3) := by decide +kernel
theorem dX8_read_43 : decode cX8_read 43 = .ok (.ireturn, 1) := by decide +kernel
theorem dX8_write_0 : decode cX8_write 0 = .ok (.aload_n 0, 1) := by decide +kernel
theorem dX8_write_1 : decode cX8_write 1 = .ok (.iload_n 1, 1) := by decide +kernel
theorem dX8_write_2 : decode cX8_write 2 = .ok (.iload_n 2, 1) := by decide +kernel
theorem dX8_write_3 : decode cX8_write 3 = .ok (.invokestatic 296, 3) := by decide +kernel
theorem dX8_write_6 : decode cX8_write 6 = .ok (.ifCond .eq 18, 3) := by decide +kernel
theorem dX8_write_9 : decode cX8_write 9 = .ok (.iload_n 3, 1) := by decide +kernel
theorem dX8_write_10 : decode cX8_write 10 = .ok (.iconst 0, 1) := by decide +kernel
theorem dX8_write_11 : decode cX8_write 11 = .ok (.ldc_w 295, 3) := by decide +kernel
theorem dX8_write_14 : decode cX8_write 14 = .ok (.invokestatic 126, 3) := by decide +kernel
theorem dX8_write_17 : decode cX8_write 17 = .ok (.ifCond .eq 7, 3) := by decide +kernel
theorem dX8_write_20 : decode cX8_write 20 = .ok (.iconst 1, 1) := by decide +kernel
theorem dX8_write_21 : decode cX8_write 21 = .ok (.goto 4, 3) := by decide +kernel
theorem dX8_write_24 : decode cX8_write 24 = .ok (.iconst 0, 1) := by decide +kernel
theorem dX8_write_25 : decode cX8_write 25 = .ok (.invokevirtual 261, 3) := by decide +kernel
theorem dX8_write_28 : decode cX8_write 28 = .ok (.ifCond .ne 5, 3) := by decide +kernel
theorem dX8_write_31 : decode cX8_write 31 = .ok (.iconst 0, 1) := by decide +kernel
theorem dX8_write_32 : decode cX8_write 32 = .ok (.ireturn, 1) := by decide +kernel
theorem dX8_write_33 : decode cX8_write 33 = .ok (.aload_n 0, 1) := by decide +kernel
theorem dX8_write_34 : decode cX8_write 34 = .ok (.bipush 8, 2) := by decide +kernel
theorem dX8_write_36 : decode cX8_write 36 = .ok (.iload_n 1, 1) := by decide +kernel
theorem dX8_write_37 : decode cX8_write 37 = .ok (.imul, 1) := by decide +kernel
theorem dX8_write_38 : decode cX8_write 38 = .ok (.iload_n 2, 1) := by decide +kernel
theorem dX8_write_39 : decode cX8_write 39 = .ok (.iadd, 1) := by decide +kernel
theorem dX8_write_40 : decode cX8_write 40 = .ok (.iconst 0, 1) := by decide +kernel
theorem dX8_write_41 : decode cX8_write 41 = .ok (.iconst (-1), 1) := by decide +kernel
theorem dX8_write_42 : decode cX8_write 42 = .ok (.invokevirtual 268, 3) := by decide +kernel
theorem dX8_write_45 : decode cX8_write 45 = .ok (.istore 4, 2) := by decide +kernel
theorem dX8_write_47 : decode cX8_write 47 = .ok (.iload 4, 2) := by decide +kernel
theorem dX8_write_49 : decode cX8_write 49 = .ok (.ifCond .ge 8, 3) := by decide +kernel
theorem dX8_write_52 : decode cX8_write 52 = .ok (.bipush (-5), 2) := by decide +kernel
theorem dX8_write_54 : decode cX8_write 54 = .ok (.goto 11, 3) := by decide +kernel
theorem dX8_write_57 : decode cX8_write 57 = .ok (.aload_n 0, 1) := by decide +kernel
theorem dX8_write_58 : decode cX8_write 58 = .ok (.iload 4, 2) := by decide +kernel
theorem dX8_write_60 : decode cX8_write 60 = .ok (.iconst 1, 1) := by decide +kernel
theorem dX8_write_61 : decode cX8_write 61 = .ok (.iload_n 3, 1) := by decide +kernel
theorem dX8_write_62 : decode cX8_write 62 = .ok (.invokevirtual 287, 3) := by decide +kernel
theorem dX8_write_65 : decode cX8_write 65 = .ok (.ireturn, 1) := by decide +kernel
theorem dX8_sync_0 : decode cX8_sync 0 = .ok (.aload_n 0, 1) := by decide +kernel
theorem dX8_sync_1 : decode cX8_sync 1 = .ok (.iload_n 1, 1) := by decide +kernel
theorem dX8_sync_2 : decode cX8_sync 2 = .ok (.iconst 0, 1) := by decide +kernel
theorem dX8_sync_3 : decode cX8_sync 3 = .ok (.iconst 2, 1) := by decide +kernel
theorem dX8_sync_4 : decode cX8_sync 4 = .ok (.invokestatic 126, 3) := by decide +kernel
theorem dX8_sync_7 : decode cX8_sync 7 = .ok (.invokevirtual 261, 3) := by decide +kernel
theorem dX8_sync_10 : decode cX8_sync 10 = .ok (.ifCond .ne 5, 3) := by decide +kernel
theorem dX8_sync_13 : decode cX8_sync 13 = .ok (.iconst 0, 1) := by decide +kernel
theorem dX8_sync_14 : decode cX8_sync 14 = .ok (.ireturn, 1) := by decide +kernel
theorem dX8_sync_15 : decode cX8_sync 15 = .ok (.iconst 0, 1) := by decide +kernel
theorem dX8_sync_16 : decode cX8_sync 16 = .ok (.istore_n 2, 1) := by decide +kernel
theorem dX8_sync_17 : decode cX8_sync 17 = .ok (.iconst 0, 1) := by decide +kernel
theorem dX8_sync_18 : decode cX8_sync 18 = .ok (.istore_n 3, 1) := by decide +kernel
theorem dX8_sync_19 : decode cX8_sync 19 = .ok (.iload_n 3, 1) := by decide +kernel
theorem dX8_sync_20 : decode cX8_sync 20 = .ok (.bipush 24, 2) := by decide +kernel
theorem dX8_sync_22 : decode cX8_sync 22 = .ok (.if_icmp .ge 111, 3) := by decide +kernel
theorem dX8_sync_25 : decode cX8_sync 25 = .ok (.aload_n 0, 1) := by decide +kernel
theorem dX8_sync_26 : decode cX8_sync 26 = .ok (.getfield 56, 3) := by decide +kernel
theorem dX8_sync_29 : decode cX8_sync 29 = .ok (.iload_n 3, 1) := by decide +kernel
theorem dX8_sync_30 : decode cX8_sync 30 = .ok (.iaload, 1) := by decide +kernel
theorem dX8_sync_31 : decode cX8_sync 31 = .ok (.iconst 2, 1) := by decide +kernel
theorem dX8_sync_32 : decode cX8_sync 32 = .ok (.if_icmp .ne 95, 3) := by decide +kernel
theorem dX8_sync_35 : decode cX8_sync 35 = .ok (.aload_n 0, 1) := by decide +kernel
theorem dX8_sync_36 : decode cX8_sync 36 = .ok (.getfield 74, 3) := by decide +kernel
theorem dX8_sync_39 : decode cX8_sync 39 = .ok (.iload_n 3, 1) := by decide +kernel
theorem dX8_sync_40 : decode cX8_sync 40 = .ok (.iaload, 1) := by decide +kernel
theorem dX8_sync_41 : decode cX8_sync 41 = .ok (.bipush 8, 2) := by decide +kernel
theorem dX8_sync_43 : decode cX8_sync 43 = .ok (.idiv, 1) := by decide +kernel
theorem dX8_sync_44 : decode cX8_sync 44 = .ok (.iload_n 1, 1) := by decide +kernel
theorem dX8_sync_45 : decode cX8_sync 45 = .ok (.if_icmp .ne 82, 3) := by decide +kernel
theorem dX8_sync_48 : decode cX8_sync 48 = .ok (.aload_n 0, 1) := by decide +kernel
theorem dX8_sync_49 : decode cX8_sync 49 = .ok (.getfield 71, 3) := by decide +kernel
theorem dX8_sync_52 : decode cX8_sync 52 = .ok (.iload_n 3, 1) := by decide +kernel
theorem dX8_sync_53 : decode cX8_sync 53 = .ok (.baload, 1) := by decide +kernel
theorem dX8_sync_54 : decode cX8_sync 54 = .ok (.ifCond .eq 73, 3) := by decide +kernel
theorem dX8_sync_57 : decode cX8_sync 57 = .ok (.iinc 2 1, 3) := by decide +kernel
theorem dX8_sync_60 : decode cX8_sync 60 = .ok (.aload_n 0, 1) := by decide +kernel
theorem dX8_sync_61 : decode cX8_sync 61 = .ok (.getfield 113, 3) := by decide +kernel
theorem dX8_sync_64 : decode cX8_sync 64 = .ok (.iconst 5, 1) := by decide +kernel
theorem dX8_sync_65 : decode cX8_sync 65 = .ok (.dup2, 1) := by decide +kernel
theorem dX8_sync_66 : decode cX8_sync 66 = .ok (.iaload, 1) := by decide +kernel
theorem dX8_sync_67 : decode cX8_sync 67 = .ok (.iconst 1, 1) := by decide +kernel
theorem dX8_sync_68 : decode cX8_sync 68 = .ok (.iadd, 1) := by decide +kernel
theorem dX8_sync_69 : decode cX8_sync 69 = .ok (.iastore, 1) := by decide +kernel
theorem dX8_sync_70 : decode cX8_sync 70 = .ok (.aload_n 0, 1) := by decide +kernel
theorem dX8_sync_71 : decode cX8_sync 71 = .ok (.getfield 83, 3) := by decide +kernel
theorem dX8_sync_74 : decode cX8_sync 74 = .ok (.aload_n 0, 1) := by decide +kernel
theorem dX8_sync_75 : decode cX8_sync 75 = .ok (.getfield 74, 3) := by decide +kernel
theorem dX8_sync_78 : decode cX8_sync 78 = .ok (.iload_n 3, 1) := by decide +kernel
theorem dX8_sync_79 : decode cX8_sync 79 = .ok (.iaload, 1) := by decide +kernel
theorem dX8_sync_80 : decode cX8_sync 80 = .ok (.aload_n 0, 1) := by decide +kernel
theorem dX8_sync_81 : decode cX8_sync 81 = .ok (.getfield 59, 3) := by decide +kernel
theorem dX8_sync_84 : decode cX8_sync 84 = .ok (.iload_n 3, 1) := by decide +kernel
theorem dX8_sync_85 : decode cX8_sync 85 = .ok (.iaload, 1) := by decide +kernel
theorem dX8_sync_86 : decode cX8_sync 86 = .ok (.iastore, 1) := by decide +kernel
theorem dX8_sync_87 : decode cX8_sync 87 = .ok (.aload_n 0, 1) := by decide +kernel
theorem dX8_sync_88 : decode cX8_sync 88 = .ok (.getfield 71, 3) := by decide +kernel
theorem dX8_sync_91 : decode cX8_sync 91 = .ok (.iload_n 3, 1) := by decide +kernel
theorem dX8_sync_92 : decode cX8_sync 92 = .ok (.iconst 0, 1) := by decide +kernel
theorem dX8_sync_93 : decode cX8_sync 93 = .ok (.bastore, 1) := by decide +kernel
theorem dX8_sync_94 : decode cX8_sync 94 = .ok (.iconst 0, 1) := by decide +kernel
theorem dX8_sync_95 : decode cX8_sync 95 = .ok (.istore 4, 2) := by decide +kernel
theorem dX8_sync_97 : decode cX8_sync 97 = .ok (.iload 4, 2) := by decide +kernel
theorem dX8_sync_99 : decode cX8_sync 99 = .ok (.sipush 192, 3) := by decide +kernel
theorem dX8_sync_102 : decode cX8_sync 102 = .ok (.if_icmp .ge 25, 3) := by decide +kernel
theorem dX8_sync_105 : decode cX8_sync 105 = .ok (.aload_n 0, 1) := by decide +kernel
theorem dX8_sync_106 : decode cX8_sync 106 = .ok (.iload 4, 2) := by decide +kernel
theorem dX8_sync_108 : decode cX8_sync 108 = .ok (.iload_n 3, 1) := by decide +kernel
theorem dX8_sync_109 : decode cX8_sync 109 = .ok (.invokevirtual 142, 3) := by decide +kernel
theorem dX8_sync_112 : decode cX8_sync 112 = .ok (.ifCond .eq 9, 3) := by decide +kernel
theorem dX8_sync_115 : decode cX8_sync 115 = .ok (.aload_n 0, 1) := by decide +kernel
theorem dX8_sync_116 : decode cX8_sync 116 = .ok (.iload 4, 2) := by decide +kernel
theorem dX8_sync_118 : decode cX8_sync 118 = .ok (.invokevirtual 255, 3) := by decide +kernel
theorem dX8_sync_121 : decode cX8_sync 121 = .ok (.iinc 4 1, 3) := by decide +kernel
theorem dX8_sync_124 : decode cX8_sync 124 = .ok (.goto (-27), 3) := by decide +kernel
theorem dX8_sync_127 : decode cX8_sync 127 = .ok (.iinc 3 1, 3) := by decide +kernel
theorem dX8_sync_130 : decode cX8_sync 130 = .ok (.goto (-111), 3) := by decide +kernel
theorem dX8_sync_133 : decode cX8_sync 133 = .ok (.iload_n 2, 1) := by decide +kernel
theorem dX8_sync_134 : decode cX8_sync 134 = .ok (.ireturn, 1) := by decide +kernel
theorem dX8_disk_0 : decode cX8_disk 0 = .ok (.aload_n 0, 1) := by decide +kernel
theorem dX8_disk_1 : decode cX8_disk 1 = .ok (.iload_n 1, 1) := by decide +kernel
theorem dX8_disk_2 : decode cX8_disk 2 = .ok (.iload_n 2, 1) := by decide +kernel
theorem dX8_disk_3 : decode cX8_disk 3 = .ok (.invokestatic 296, 3) := by decide +kernel
theorem dX8_disk_6 : decode cX8_disk 6 = .ok (.invokevirtual 261, 3) := by decide +kernel
theorem dX8_disk_9 : decode cX8_disk 9 = .ok (.ifCond .eq 17, 3) := by decide +kernel
theorem dX8_disk_12 : decode cX8_disk 12 = .ok (.aload_n 0, 1) := by decide +kernel
theorem dX8_disk_13 : decode cX8_disk 13 = .ok (.getfield 83, 3) := by decide +kernel
theorem dX8_disk_16 : decode cX8_disk 16 = .ok (.bipush 8, 2) := by decide +kernel
theorem dX8_disk_18 : decode cX8_disk 18 = .ok (.iload_n 1, 1) := by decide +kernel
theorem dX8_disk_19 : decode cX8_disk 19 = .ok (.imul, 1) := by decide +kernel
theorem dX8_disk_20 : decode cX8_disk 20 = .ok (.iload_n 2, 1) := by decide +kernel
theorem dX8_disk_21 : decode cX8_disk 21 = .ok (.iadd, 1) := by decide +kernel
theorem dX8_disk_22 : decode cX8_disk 22 = .ok (.iaload, 1) := by decide +kernel
theorem dX8_disk_23 : decode cX8_disk 23 = .ok (.goto 4, 3) := by decide +kernel
theorem dX8_disk_26 : decode cX8_disk 26 = .ok (.iconst 0, 1) := by decide +kernel
theorem dX8_disk_27 : decode cX8_disk 27 = .ok (.ireturn, 1) := by decide +kernel
theorem dX8_reclaim_0 : decode cX8_reclaim 0 = .ok (.aload_n 0, 1) := by decide +kernel
theorem dX8_reclaim_1 : decode cX8_reclaim 1 = .ok (.iload_n 1, 1) := by decide +kernel
theorem dX8_reclaim_2 : decode cX8_reclaim 2 = .ok (.iconst 1, 1) := by decide +kernel
theorem dX8_reclaim_3 : decode cX8_reclaim 3 = .ok (.bipush 24, 2) := by decide +kernel
theorem dX8_reclaim_5 : decode cX8_reclaim 5 = .ok (.invokestatic 126, 3) := by decide +kernel
theorem dX8_reclaim_8 : decode cX8_reclaim 8 = .ok (.invokevirtual 261, 3) := by decide +kernel
theorem dX8_reclaim_11 : decode cX8_reclaim 11 = .ok (.ifCond .ne 5, 3) := by decide +kernel
theorem dX8_reclaim_14 : decode cX8_reclaim 14 = .ok (.iconst 0, 1) := by decide +kernel
theorem dX8_reclaim_15 : decode cX8_reclaim 15 = .ok (.ireturn, 1) := by decide +kernel
theorem dX8_reclaim_16 : decode cX8_reclaim 16 = .ok (.iconst 0, 1) := by decide +kernel
theorem dX8_reclaim_17 : decode cX8_reclaim 17 = .ok (.istore_n 2, 1) := by decide +kernel
theorem dX8_reclaim_18 : decode cX8_reclaim 18 = .ok (.iload_n 2, 1) := by decide +kernel
theorem dX8_reclaim_19 : decode cX8_reclaim 19 = .ok (.iload_n 1, 1) := by decide +kernel
theorem dX8_reclaim_20 : decode cX8_reclaim 20 = .ok (.if_icmp .ge 17, 3) := by decide +kernel
theorem dX8_reclaim_23 : decode cX8_reclaim 23 = .ok (.aload_n 0, 1) := by decide +kernel
theorem dX8_reclaim_24 : decode cX8_reclaim 24 = .ok (.iconst (-1), 1) := by decide +kernel
theorem dX8_reclaim_25 : decode cX8_reclaim 25 = .ok (.invokevirtual 209, 3) := by decide +kernel
theorem dX8_reclaim_28 : decode cX8_reclaim 28 = .ok (.ifCond .eq 9, 3) := by decide +kernel
theorem dX8_reclaim_31 : decode cX8_reclaim 31 = .ok (.iinc 2 1, 3) := by decide +kernel
theorem dX8_reclaim_34 : decode cX8_reclaim 34 = .ok (.goto (-16), 3) := by decide +kernel
theorem dX8_reclaim_37 : decode cX8_reclaim 37 = .ok (.iload_n 2, 1) := by decide +kernel
theorem dX8_reclaim_38 : decode cX8_reclaim 38 = .ok (.ireturn, 1) := by decide +kernel
theorem dX8_handle_0 : decode cX8_handle 0 = .ok (.aload_n 0, 1) := by decide +kernel
theorem dX8_handle_1 : decode cX8_handle 1 = .ok (.iload_n 1, 1) := by decide +kernel
theorem dX8_handle_2 : decode cX8_handle 2 = .ok (.iconst 0, 1) := by decide +kernel
theorem dX8_handle_3 : decode cX8_handle 3 = .ok (.iconst 1, 1) := by decide +kernel
theorem dX8_handle_4 : decode cX8_handle 4 = .ok (.invokestatic 126, 3) := by decide +kernel
theorem dX8_handle_7 : decode cX8_handle 7 = .ok (.invokevirtual 261, 3) := by decide +kernel
theorem dX8_handle_10 : decode cX8_handle 10 = .ok (.ifCond .eq 11, 3) := by decide +kernel
theorem dX8_handle_13 : decode cX8_handle 13 = .ok (.aload_n 0, 1) := by decide +kernel
theorem dX8_handle_14 : decode cX8_handle 14 = .ok (.iload_n 1, 1) := by decide +kernel
theorem dX8_handle_15 : decode cX8_handle 15 = .ok (.invokevirtual 218, 3) := by decide +kernel
theorem dX8_handle_18 : decode cX8_handle 18 = .ok (.goto 4, 3) := by decide +kernel
theorem dX8_handle_21 : decode cX8_handle 21 = .ok (.iconst 0, 1) := by decide +kernel
theorem dX8_handle_22 : decode cX8_handle 22 = .ok (.ireturn, 1) := by decide +kernel
theorem dX8_blocksOf_0 : decode cX8_blocksOf 0 = .ok (.iconst 0, 1) := by decide +kernel
theorem dX8_blocksOf_1 : decode cX8_blocksOf 1 = .ok (.istore_n 2, 1) := by decide +kernel
theorem dX8_blocksOf_2 : decode cX8_blocksOf 2 = .ok (.iconst 0, 1) := by decide +kernel
theorem dX8_blocksOf_3 : decode cX8_blocksOf 3 = .ok (.istore_n 3, 1) := by decide +kernel
theorem dX8_blocksOf_4 : decode cX8_blocksOf 4 = .ok (.iload_n 3, 1) := by decide +kernel
theorem dX8_blocksOf_5 : decode cX8_blocksOf 5 = .ok (.bipush 32, 2) := by decide +kernel
theorem dX8_blocksOf_7 : decode cX8_blocksOf 7 = .ok (.if_icmp .ge 31, 3) := by decide +kernel
theorem dX8_blocksOf_10 : decode cX8_blocksOf 10 = .ok (.iload_n 2, 1) := by decide +kernel
theorem dX8_blocksOf_11 : decode cX8_blocksOf 11 = .ok (.aload_n 0, 1) := by decide +kernel
theorem dX8_blocksOf_12 : decode cX8_blocksOf 12 = .ok (.getfield 53, 3) := by decide +kernel
theorem dX8_blocksOf_15 : decode cX8_blocksOf 15 = .ok (.bipush 32, 2) := by decide +kernel
theorem dX8_blocksOf_17 : decode cX8_blocksOf 17 = .ok (.iload_n 1, 1) := by decide +kernel
theorem dX8_blocksOf_18 : decode cX8_blocksOf 18 = .ok (.imul, 1) := by decide +kernel
theorem dX8_blocksOf_19 : decode cX8_blocksOf 19 = .ok (.iload_n 3, 1) := by decide +kernel
theorem dX8_blocksOf_20 : decode cX8_blocksOf 20 = .ok (.iadd, 1) := by decide +kernel
theorem dX8_blocksOf_21 : decode cX8_blocksOf 21 = .ok (.baload, 1) := by decide +kernel
theorem dX8_blocksOf_22 : decode cX8_blocksOf 22 = .ok (.ifCond .eq 7, 3) := by decide +kernel
theorem dX8_blocksOf_25 : decode cX8_blocksOf 25 = .ok (.iconst 1, 1) := by decide +kernel
theorem dX8_blocksOf_26 : decode cX8_blocksOf 26 = .ok (.goto 4, 3) := by decide +kernel
theorem dX8_blocksOf_29 : decode cX8_blocksOf 29 = .ok (.iconst 0, 1) := by decide +kernel
theorem dX8_blocksOf_30 : decode cX8_blocksOf 30 = .ok (.iadd, 1) := by decide +kernel
theorem dX8_blocksOf_31 : decode cX8_blocksOf 31 = .ok (.istore_n 2, 1) := by decide +kernel
theorem dX8_blocksOf_32 : decode cX8_blocksOf 32 = .ok (.iinc 3 4, 3) := by decide +kernel
theorem dX8_blocksOf_35 : decode cX8_blocksOf 35 = .ok (.goto (-31), 3) := by decide +kernel
theorem dX8_blocksOf_38 : decode cX8_blocksOf 38 = .ok (.iload_n 2, 1) := by decide +kernel
theorem dX8_blocksOf_39 : decode cX8_blocksOf 39 = .ok (.ireturn, 1) := by decide +kernel
theorem dX8_canJoin_0 : decode cX8_canJoin 0 = .ok (.iconst 1, 1) := by decide +kernel
theorem dX8_canJoin_1 : decode cX8_canJoin 1 = .ok (.istore_n 3, 1) := by decide +kernel
theorem dX8_canJoin_2 : decode cX8_canJoin 2 = .ok (.iconst 0, 1) := by decide +kernel
theorem dX8_canJoin_3 : decode cX8_canJoin 3 = .ok (.istore 4, 2) := by decide +kernel
theorem dX8_canJoin_5 : decode cX8_canJoin 5 = .ok (.iload 4, 2) := by decide +kernel
theorem dX8_canJoin_7 : decode cX8_canJoin 7 = .ok (.iconst 4, 1) := by decide +kernel
theorem dX8_canJoin_8 : decode cX8_canJoin 8 = .ok (.if_icmp .ge 136, 3) := by decide +kernel
theorem dX8_canJoin_11 : decode cX8_canJoin 11 = .ok (.iload_n 3, 1) := by decide +kernel
theorem dX8_canJoin_12 : decode cX8_canJoin 12 = .ok (.ifCond .eq 132, 3) := by decide +kernel
theorem dX8_canJoin_15 : decode cX8_canJoin 15 = .ok (.bipush 32, 2) := by decide +kernel
theorem dX8_canJoin_17 : decode cX8_canJoin 17 = .ok (.iload_n 1, 1) := by decide +kernel
theorem dX8_canJoin_18 : decode cX8_canJoin 18 = .ok (.imul, 1) := by decide +kernel
theorem dX8_canJoin_19 : decode cX8_canJoin 19 = .ok (.iload_n 2, 1) := by decide +kernel
theorem dX8_canJoin_20 : decode cX8_canJoin 20 = .ok (.iadd, 1) := by decide +kernel
theorem dX8_canJoin_21 : decode cX8_canJoin 21 = .ok (.iload 4, 2) := by decide +kernel
theorem dX8_canJoin_23 : decode cX8_canJoin 23 = .ok (.iadd, 1) := by decide +kernel
theorem dX8_canJoin_24 : decode cX8_canJoin 24 = .ok (.istore 5, 2) := by decide +kernel
theorem dX8_canJoin_26 : decode cX8_canJoin 26 = .ok (.aload_n 0, 1) := by decide +kernel
theorem dX8_canJoin_27 : decode cX8_canJoin 27 = .ok (.getfield 26, 3) := by decide +kernel
theorem dX8_canJoin_30 : decode cX8_canJoin 30 = .ok (.iload 5, 2) := by decide +kernel
theorem dX8_canJoin_32 : decode cX8_canJoin 32 = .ok (.iaload, 1) := by decide +kernel
theorem dX8_canJoin_33 : decode cX8_canJoin 33 = .ok (.ifCond .le 103, 3) := by decide +kernel
theorem dX8_canJoin_36 : decode cX8_canJoin 36 = .ok (.aload_n 0, 1) := by decide +kernel
theorem dX8_canJoin_37 : decode cX8_canJoin 37 = .ok (.getfield 29, 3) := by decide +kernel
theorem dX8_canJoin_40 : decode cX8_canJoin 40 = .ok (.iload 5, 2) := by decide +kernel
theorem dX8_canJoin_42 : decode cX8_canJoin 42 = .ok (.iaload, 1) := by decide +kernel
theorem dX8_canJoin_43 : decode cX8_canJoin 43 = .ok (.iconst (-1), 1) := by decide +kernel
theorem dX8_canJoin_44 : decode cX8_canJoin 44 = .ok (.if_icmp .ne 92, 3) := by decide +kernel
theorem dX8_canJoin_47 : decode cX8_canJoin 47 = .ok (.aload_n 0, 1) := by decide +kernel
theorem dX8_canJoin_48 : decode cX8_canJoin 48 = .ok (.getfield 53, 3) := by decide +kernel
theorem dX8_canJoin_51 : decode cX8_canJoin 51 = .ok (.iload 5, 2) := by decide +kernel
theorem dX8_canJoin_53 : decode cX8_canJoin 53 = .ok (.baload, 1) := by decide +kernel
theorem dX8_canJoin_54 : decode cX8_canJoin 54 = .ok (.ifCond .ne 82, 3) := by decide +kernel
theorem dX8_canJoin_57 : decode cX8_canJoin 57 = .ok (.aload_n 0, 1) := by decide +kernel
theorem dX8_canJoin_58 : decode cX8_canJoin 58 = .ok (.getfield 41, 3) := by decide +kernel
theorem dX8_canJoin_61 : decode cX8_canJoin 61 = .ok (.iload 5, 2) := by decide +kernel
theorem dX8_canJoin_63 : decode cX8_canJoin 63 = .ok (.iaload, 1) := by decide +kernel
theorem dX8_canJoin_64 : decode cX8_canJoin 64 = .ok (.iconst 1, 1) := by decide +kernel
theorem dX8_canJoin_65 : decode cX8_canJoin 65 = .ok (.if_icmp .ne 71, 3) := by decide +kernel
theorem dX8_canJoin_68 : decode cX8_canJoin 68 = .ok (.aload_n 0, 1) := by decide +kernel
theorem dX8_canJoin_69 : decode cX8_canJoin 69 = .ok (.getfield 56, 3) := by decide +kernel
theorem dX8_canJoin_72 : decode cX8_canJoin 72 = .ok (.aload_n 0, 1) := by decide +kernel
theorem dX8_canJoin_73 : decode cX8_canJoin 73 = .ok (.getfield 44, 3) := by decide +kernel
theorem dX8_canJoin_76 : decode cX8_canJoin 76 = .ok (.iload 5, 2) := by decide +kernel
theorem dX8_canJoin_78 : decode cX8_canJoin 78 = .ok (.iaload, 1) := by decide +kernel
theorem dX8_canJoin_79 : decode cX8_canJoin 79 = .ok (.iaload, 1) := by decide +kernel
theorem dX8_canJoin_80 : decode cX8_canJoin 80 = .ok (.iconst 1, 1) := by decide +kernel
theorem dX8_canJoin_81 : decode cX8_canJoin 81 = .ok (.if_icmp .ne 55, 3) := by decide +kernel
theorem dX8_canJoin_84 : decode cX8_canJoin 84 = .ok (.aload_n 0, 1) := by decide +kernel
theorem dX8_canJoin_85 : decode cX8_canJoin 85 = .ok (.getfield 71, 3) := by decide +kernel
theorem dX8_canJoin_88 : decode cX8_canJoin 88 = .ok (.aload_n 0, 1) := by decide +kernel
theorem dX8_canJoin_89 : decode cX8_canJoin 89 = .ok (.getfield 44, 3) := by decide +kernel
theorem dX8_canJoin_92 : decode cX8_canJoin 92 = .ok (.iload 5, 2) := by decide +kernel
theorem dX8_canJoin_94 : decode cX8_canJoin 94 = .ok (.iaload, 1) := by decide +kernel
theorem dX8_canJoin_95 : decode cX8_canJoin 95 = .ok (.baload, 1) := by decide +kernel
theorem dX8_canJoin_96 : decode cX8_canJoin 96 = .ok (.ifCond .ne 40, 3) := by decide +kernel
theorem dX8_canJoin_99 : decode cX8_canJoin 99 = .ok (.aload_n 0, 1) := by decide +kernel
theorem dX8_canJoin_100 : decode cX8_canJoin 100 = .ok (.aload_n 0, 1) := by decide +kernel
theorem dX8_canJoin_101 : decode cX8_canJoin 101 = .ok (.getfield 44, 3) := by decide +kernel
theorem dX8_canJoin_104 : decode cX8_canJoin 104 = .ok (.iload 5, 2) := by decide +kernel
theorem dX8_canJoin_106 : decode cX8_canJoin 106 = .ok (.iaload, 1) := by decide +kernel
theorem dX8_canJoin_107 : decode cX8_canJoin 107 = .ok (.invokevirtual 155, 3) := by decide +kernel
theorem dX8_canJoin_110 : decode cX8_canJoin 110 = .ok (.iconst 1, 1) := by decide +kernel
theorem dX8_canJoin_111 : decode cX8_canJoin 111 = .ok (.if_icmp .ne 25, 3) := by decide +kernel
theorem dX8_canJoin_114 : decode cX8_canJoin 114 = .ok (.iload 4, 2) := by decide +kernel
theorem dX8_canJoin_116 : decode cX8_canJoin 116 = .ok (.ifCond .eq 16, 3) := by decide +kernel
theorem dX8_canJoin_119 : decode cX8_canJoin 119 = .ok (.aload_n 0, 1) := by decide +kernel
theorem dX8_canJoin_120 : decode cX8_canJoin 120 = .ok (.iload 5, 2) := by decide +kernel
theorem dX8_canJoin_122 : decode cX8_canJoin 122 = .ok (.iconst 1, 1) := by decide +kernel
theorem dX8_canJoin_123 : decode cX8_canJoin 123 = .ok (.isub, 1) := by decide +kernel
theorem dX8_canJoin_124 : decode cX8_canJoin 124 = .ok (.iload 5, 2) := by decide +kernel
theorem dX8_canJoin_126 : decode cX8_canJoin 126 = .ok (.invokevirtual 232, 3) := by decide +kernel
theorem dX8_canJoin_129 : decode cX8_canJoin 129 = .ok (.ifCond .eq 7, 3) := by decide +kernel
theorem dX8_canJoin_132 : decode cX8_canJoin 132 = .ok (.iconst 1, 1) := by decide +kernel
theorem dX8_canJoin_133 : decode cX8_canJoin 133 = .ok (.goto 4, 3) := by decide +kernel
theorem dX8_canJoin_136 : decode cX8_canJoin 136 = .ok (.iconst 0, 1) := by decide +kernel
theorem dX8_canJoin_137 : decode cX8_canJoin 137 = .ok (.istore_n 3, 1) := by decide +kernel
theorem dX8_canJoin_138 : decode cX8_canJoin 138 = .ok (.iinc 4 1, 3) := by decide +kernel
theorem dX8_canJoin_141 : decode cX8_canJoin 141 = .ok (.goto (-136), 3) := by decide +kernel
theorem dX8_canJoin_144 : decode cX8_canJoin 144 = .ok (.iload_n 3, 1) := by decide +kernel
theorem dX8_canJoin_145 : decode cX8_canJoin 145 = .ok (.ireturn, 1) := by decide +kernel
theorem dX8_join_0 : decode cX8_join 0 = .ok (.iload_n 2, 1) := by decide +kernel
theorem dX8_join_1 : decode cX8_join 1 = .ok (.iconst 0, 1) := by decide +kernel
theorem dX8_join_2 : decode cX8_join 2 = .ok (.bipush 28, 2) := by decide +kernel
theorem dX8_join_4 : decode cX8_join 4 = .ok (.invokestatic 126, 3) := by decide +kernel
theorem dX8_join_7 : decode cX8_join 7 = .ok (.ifCond .eq 13, 3) := by decide +kernel
theorem dX8_join_10 : decode cX8_join 10 = .ok (.iload_n 2, 1) := by decide +kernel
theorem dX8_join_11 : decode cX8_join 11 = .ok (.iconst 4, 1) := by decide +kernel
theorem dX8_join_12 : decode cX8_join 12 = .ok (.irem, 1) := by decide +kernel
theorem dX8_join_13 : decode cX8_join 13 = .ok (.ifCond .ne 7, 3) := by decide +kernel
theorem dX8_join_16 : decode cX8_join 16 = .ok (.iconst 1, 1) := by decide +kernel
theorem dX8_join_17 : decode cX8_join 17 = .ok (.goto 4, 3) := by decide +kernel
theorem dX8_join_20 : decode cX8_join 20 = .ok (.iconst 0, 1) := by decide +kernel
theorem dX8_join_21 : decode cX8_join 21 = .ok (.istore_n 3, 1) := by decide +kernel
theorem dX8_join_22 : decode cX8_join 22 = .ok (.aload_n 0, 1) := by decide +kernel
theorem dX8_join_23 : decode cX8_join 23 = .ok (.aload_n 0, 1) := by decide +kernel
theorem dX8_join_24 : decode cX8_join 24 = .ok (.iload_n 1, 1) := by decide +kernel
theorem dX8_join_25 : decode cX8_join 25 = .ok (.invokevirtual 130, 3) := by decide +kernel
theorem dX8_join_28 : decode cX8_join 28 = .ok (.iload_n 3, 1) := by decide +kernel
theorem dX8_join_29 : decode cX8_join 29 = .ok (.aload_n 0, 1) := by decide +kernel
theorem dX8_join_30 : decode cX8_join 30 = .ok (.iload_n 1, 1) := by decide +kernel
theorem dX8_join_31 : decode cX8_join 31 = .ok (.invokevirtual 130, 3) := by decide +kernel
theorem dX8_join_34 : decode cX8_join 34 = .ok (.ifCond .eq 20, 3) := by decide +kernel
theorem dX8_join_37 : decode cX8_join 37 = .ok (.iload_n 3, 1) := by decide +kernel
theorem dX8_join_38 : decode cX8_join 38 = .ok (.ifCond .eq 16, 3) := by decide +kernel
theorem dX8_join_41 : decode cX8_join 41 = .ok (.aload_n 0, 1) := by decide +kernel
theorem dX8_join_42 : decode cX8_join 42 = .ok (.iload_n 1, 1) := by decide +kernel
theorem dX8_join_43 : decode cX8_join 43 = .ok (.iload_n 2, 1) := by decide +kernel
theorem dX8_join_44 : decode cX8_join 44 = .ok (.invokevirtual 299, 3) := by decide +kernel
theorem dX8_join_47 : decode cX8_join 47 = .ok (.ifCond .eq 7, 3) := by decide +kernel
theorem dX8_join_50 : decode cX8_join 50 = .ok (.iconst 1, 1) := by decide +kernel
theorem dX8_join_51 : decode cX8_join 51 = .ok (.goto 4, 3) := by decide +kernel
theorem dX8_join_54 : decode cX8_join 54 = .ok (.iconst 0, 1) := by decide +kernel
theorem dX8_join_55 : decode cX8_join 55 = .ok (.invokevirtual 245, 3) := by decide +kernel
theorem dX8_join_58 : decode cX8_join 58 = .ok (.ifCond .ne 5, 3) := by decide +kernel
theorem dX8_join_61 : decode cX8_join 61 = .ok (.iconst 0, 1) := by decide +kernel
theorem dX8_join_62 : decode cX8_join 62 = .ok (.ireturn, 1) := by decide +kernel
theorem dX8_join_63 : decode cX8_join 63 = .ok (.iconst 0, 1) := by decide +kernel
theorem dX8_join_64 : decode cX8_join 64 = .ok (.istore 4, 2) := by decide +kernel
theorem dX8_join_66 : decode cX8_join 66 = .ok (.iload 4, 2) := by decide +kernel
theorem dX8_join_68 : decode cX8_join 68 = .ok (.iconst 4, 1) := by decide +kernel
theorem dX8_join_69 : decode cX8_join 69 = .ok (.if_icmp .ge 24, 3) := by decide +kernel
theorem dX8_join_72 : decode cX8_join 72 = .ok (.aload_n 0, 1) := by decide +kernel
theorem dX8_join_73 : decode cX8_join 73 = .ok (.getfield 53, 3) := by decide +kernel
theorem dX8_join_76 : decode cX8_join 76 = .ok (.bipush 32, 2) := by decide +kernel
theorem dX8_join_78 : decode cX8_join 78 = .ok (.iload_n 1, 1) := by decide +kernel
theorem dX8_join_79 : decode cX8_join 79 = .ok (.imul, 1) := by decide +kernel
theorem dX8_join_80 : decode cX8_join 80 = .ok (.iload_n 2, 1) := by decide +kernel
theorem dX8_join_81 : decode cX8_join 81 = .ok (.iadd, 1) := by decide +kernel
theorem dX8_join_82 : decode cX8_join 82 = .ok (.iload 4, 2) := by decide +kernel
theorem dX8_join_84 : decode cX8_join 84 = .ok (.iadd, 1) := by decide +kernel
theorem dX8_join_85 : decode cX8_join 85 = .ok (.iconst 1, 1) := by decide +kernel
theorem dX8_join_86 : decode cX8_join 86 = .ok (.bastore, 1) := by decide +kernel
theorem dX8_join_87 : decode cX8_join 87 = .ok (.iinc 4 1, 3) := by decide +kernel
theorem dX8_join_90 : decode cX8_join 90 = .ok (.goto (-24), 3) := by decide +kernel
theorem dX8_join_93 : decode cX8_join 93 = .ok (.aload_n 0, 1) := by decide +kernel
theorem dX8_join_94 : decode cX8_join 94 = .ok (.iload_n 1, 1) := by decide +kernel
theorem dX8_join_95 : decode cX8_join 95 = .ok (.invokevirtual 302, 3) := by decide +kernel
theorem dX8_join_98 : decode cX8_join 98 = .ok (.ireturn, 1) := by decide +kernel
theorem dX8_merge_0 : decode cX8_merge 0 = .ok (.aload_n 0, 1) := by decide +kernel
theorem dX8_merge_1 : decode cX8_merge 1 = .ok (.aload_n 0, 1) := by decide +kernel
theorem dX8_merge_2 : decode cX8_merge 2 = .ok (.iload_n 1, 1) := by decide +kernel
theorem dX8_merge_3 : decode cX8_merge 3 = .ok (.invokevirtual 130, 3) := by decide +kernel
theorem dX8_merge_6 : decode cX8_merge 6 = .ok (.invokevirtual 261, 3) := by decide +kernel
theorem dX8_merge_9 : decode cX8_merge 9 = .ok (.ifCond .eq 10, 3) := by decide +kernel
theorem dX8_merge_12 : decode cX8_merge 12 = .ok (.aload_n 0, 1) := by decide +kernel
theorem dX8_merge_13 : decode cX8_merge 13 = .ok (.getfield 20, 3) := by decide +kernel
theorem dX8_merge_16 : decode cX8_merge 16 = .ok (.iload_n 1, 1) := by decide +kernel
theorem dX8_merge_17 : decode cX8_merge 17 = .ok (.iload_n 2, 1) := by decide +kernel
theorem dX8_merge_18 : decode cX8_merge 18 = .ok (.bastore, 1) := by decide +kernel
theorem dX8_merge_19 : decode cX8_merge 19 = .ok (.return_, 1) := by decide +kernel
theorem dX8_isMerging_0 : decode cX8_isMerging 0 = .ok (.aload_n 0, 1) := by decide +kernel
theorem dX8_isMerging_1 : decode cX8_isMerging 1 = .ok (.iload_n 1, 1) := by decide +kernel
theorem dX8_isMerging_2 : decode cX8_isMerging 2 = .ok (.invokevirtual 238, 3) := by decide +kernel
theorem dX8_isMerging_5 : decode cX8_isMerging 5 = .ok (.ifCond .eq 16, 3) := by decide +kernel
theorem dX8_isMerging_8 : decode cX8_isMerging 8 = .ok (.aload_n 0, 1) := by decide +kernel
theorem dX8_isMerging_9 : decode cX8_isMerging 9 = .ok (.getfield 20, 3) := by decide +kernel
theorem dX8_isMerging_12 : decode cX8_isMerging 12 = .ok (.iload_n 1, 1) := by decide +kernel
theorem dX8_isMerging_13 : decode cX8_isMerging 13 = .ok (.baload, 1) := by decide +kernel
theorem dX8_isMerging_14 : decode cX8_isMerging 14 = .ok (.ifCond .eq 7, 3) := by decide +kernel
theorem dX8_isMerging_17 : decode cX8_isMerging 17 = .ok (.iconst 1, 1) := by decide +kernel
theorem dX8_isMerging_18 : decode cX8_isMerging 18 = .ok (.goto 4, 3) := by decide +kernel
theorem dX8_isMerging_21 : decode cX8_isMerging 21 = .ok (.iconst 0, 1) := by decide +kernel
theorem dX8_isMerging_22 : decode cX8_isMerging 22 = .ok (.ireturn, 1) := by decide +kernel
theorem dX8_isLoose_0 : decode cX8_isLoose 0 = .ok (.iload_n 1, 1) := by decide +kernel
theorem dX8_isLoose_1 : decode cX8_isLoose 1 = .ok (.iconst (-1), 1) := by decide +kernel
theorem dX8_isLoose_2 : decode cX8_isLoose 2 = .ok (.if_icmp .eq 55, 3) := by decide +kernel
theorem dX8_isLoose_5 : decode cX8_isLoose 5 = .ok (.aload_n 0, 1) := by decide +kernel
theorem dX8_isLoose_6 : decode cX8_isLoose 6 = .ok (.getfield 26, 3) := by decide +kernel
theorem dX8_isLoose_9 : decode cX8_isLoose 9 = .ok (.iload_n 1, 1) := by decide +kernel
theorem dX8_isLoose_10 : decode cX8_isLoose 10 = .ok (.iaload, 1) := by decide +kernel
theorem dX8_isLoose_11 : decode cX8_isLoose 11 = .ok (.ifCond .le 46, 3) := by decide +kernel
theorem dX8_isLoose_14 : decode cX8_isLoose 14 = .ok (.aload_n 0, 1) := by decide +kernel
theorem dX8_isLoose_15 : decode cX8_isLoose 15 = .ok (.getfield 41, 3) := by decide +kernel
theorem dX8_isLoose_18 : decode cX8_isLoose 18 = .ok (.iload_n 1, 1) := by decide +kernel
theorem dX8_isLoose_19 : decode cX8_isLoose 19 = .ok (.iaload, 1) := by decide +kernel
theorem dX8_isLoose_20 : decode cX8_isLoose 20 = .ok (.iconst 1, 1) := by decide +kernel
theorem dX8_isLoose_21 : decode cX8_isLoose 21 = .ok (.if_icmp .ne 36, 3) := by decide +kernel
theorem dX8_isLoose_24 : decode cX8_isLoose 24 = .ok (.aload_n 0, 1) := by decide +kernel
theorem dX8_isLoose_25 : decode cX8_isLoose 25 = .ok (.getfield 56, 3) := by decide +kernel
theorem dX8_isLoose_28 : decode cX8_isLoose 28 = .ok (.aload_n 0, 1) := by decide +kernel
theorem dX8_isLoose_29 : decode cX8_isLoose 29 = .ok (.getfield 44, 3) := by decide +kernel
theorem dX8_isLoose_32 : decode cX8_isLoose 32 = .ok (.iload_n 1, 1) := by decide +kernel
theorem dX8_isLoose_33 : decode cX8_isLoose 33 = .ok (.iaload, 1) := by decide +kernel
theorem dX8_isLoose_34 : decode cX8_isLoose 34 = .ok (.iaload, 1) := by decide +kernel
theorem dX8_isLoose_35 : decode cX8_isLoose 35 = .ok (.iconst 1, 1) := by decide +kernel
theorem dX8_isLoose_36 : decode cX8_isLoose 36 = .ok (.if_icmp .ne 21, 3) := by decide +kernel
theorem dX8_isLoose_39 : decode cX8_isLoose 39 = .ok (.aload_n 0, 1) := by decide +kernel
theorem dX8_isLoose_40 : decode cX8_isLoose 40 = .ok (.getfield 71, 3) := by decide +kernel
theorem dX8_isLoose_43 : decode cX8_isLoose 43 = .ok (.aload_n 0, 1) := by decide +kernel
theorem dX8_isLoose_44 : decode cX8_isLoose 44 = .ok (.getfield 44, 3) := by decide +kernel
theorem dX8_isLoose_47 : decode cX8_isLoose 47 = .ok (.iload_n 1, 1) := by decide +kernel
theorem dX8_isLoose_48 : decode cX8_isLoose 48 = .ok (.iaload, 1) := by decide +kernel
theorem dX8_isLoose_49 : decode cX8_isLoose 49 = .ok (.baload, 1) := by decide +kernel
theorem dX8_isLoose_50 : decode cX8_isLoose 50 = .ok (.ifCond .ne 7, 3) := by decide +kernel
theorem dX8_isLoose_53 : decode cX8_isLoose 53 = .ok (.iconst 1, 1) := by decide +kernel
theorem dX8_isLoose_54 : decode cX8_isLoose 54 = .ok (.goto 4, 3) := by decide +kernel
theorem dX8_isLoose_57 : decode cX8_isLoose 57 = .ok (.iconst 0, 1) := by decide +kernel
theorem dX8_isLoose_58 : decode cX8_isLoose 58 = .ok (.ireturn, 1) := by decide +kernel
theorem dX8_getsPage_0 : decode cX8_getsPage 0 = .ok (.aload_n 0, 1) := by decide +kernel
theorem dX8_getsPage_1 : decode cX8_getsPage 1 = .ok (.iload_n 1, 1) := by decide +kernel
theorem dX8_getsPage_2 : decode cX8_getsPage 2 = .ok (.invokevirtual 159, 3) := by decide +kernel
theorem dX8_getsPage_5 : decode cX8_getsPage 5 = .ok (.aload_n 0, 1) := by decide +kernel
theorem dX8_getsPage_6 : decode cX8_getsPage 6 = .ok (.getfield 41, 3) := by decide +kernel
theorem dX8_getsPage_9 : decode cX8_getsPage 9 = .ok (.iload_n 1, 1) := by decide +kernel
theorem dX8_getsPage_10 : decode cX8_getsPage 10 = .ok (.iconst 1, 1) := by decide +kernel
theorem dX8_getsPage_11 : decode cX8_getsPage 11 = .ok (.iastore, 1) := by decide +kernel
theorem dX8_getsPage_12 : decode cX8_getsPage 12 = .ok (.aload_n 0, 1) := by decide +kernel
theorem dX8_getsPage_13 : decode cX8_getsPage 13 = .ok (.getfield 44, 3) := by decide +kernel
theorem dX8_getsPage_16 : decode cX8_getsPage 16 = .ok (.iload_n 1, 1) := by decide +kernel
theorem dX8_getsPage_17 : decode cX8_getsPage 17 = .ok (.iload_n 2, 1) := by decide +kernel
theorem dX8_getsPage_18 : decode cX8_getsPage 18 = .ok (.iastore, 1) := by decide +kernel
theorem dX8_getsPage_19 : decode cX8_getsPage 19 = .ok (.aload_n 0, 1) := by decide +kernel
theorem dX8_getsPage_20 : decode cX8_getsPage 20 = .ok (.getfield 47, 3) := by decide +kernel
theorem dX8_getsPage_23 : decode cX8_getsPage 23 = .ok (.iload_n 1, 1) := by decide +kernel
theorem dX8_getsPage_24 : decode cX8_getsPage 24 = .ok (.iconst 0, 1) := by decide +kernel
theorem dX8_getsPage_25 : decode cX8_getsPage 25 = .ok (.bastore, 1) := by decide +kernel
theorem dX8_getsPage_26 : decode cX8_getsPage 26 = .ok (.return_, 1) := by decide +kernel
theorem dX8_scans_0 : decode cX8_scans 0 = .ok (.aload_n 0, 1) := by decide +kernel
theorem dX8_scans_1 : decode cX8_scans 1 = .ok (.iload_n 1, 1) := by decide +kernel
theorem dX8_scans_2 : decode cX8_scans 2 = .ok (.invokevirtual 305, 3) := by decide +kernel
theorem dX8_scans_5 : decode cX8_scans 5 = .ok (.ifCond .ne 5, 3) := by decide +kernel
theorem dX8_scans_8 : decode cX8_scans 8 = .ok (.iconst 0, 1) := by decide +kernel
theorem dX8_scans_9 : decode cX8_scans 9 = .ok (.ireturn, 1) := by decide +kernel
theorem dX8_scans_10 : decode cX8_scans 10 = .ok (.iconst 0, 1) := by decide +kernel
theorem dX8_scans_11 : decode cX8_scans 11 = .ok (.istore_n 2, 1) := by decide +kernel
theorem dX8_scans_12 : decode cX8_scans 12 = .ok (.iload_n 2, 1) := by decide +kernel
theorem dX8_scans_13 : decode cX8_scans 13 = .ok (.bipush 24, 2) := by decide +kernel
theorem dX8_scans_15 : decode cX8_scans 15 = .ok (.if_icmp .ge 56, 3) := by decide +kernel
theorem dX8_scans_18 : decode cX8_scans 18 = .ok (.aload_n 0, 1) := by decide +kernel
theorem dX8_scans_19 : decode cX8_scans 19 = .ok (.getfield 56, 3) := by decide +kernel
theorem dX8_scans_22 : decode cX8_scans 22 = .ok (.iload_n 2, 1) := by decide +kernel
theorem dX8_scans_23 : decode cX8_scans 23 = .ok (.iaload, 1) := by decide +kernel
theorem dX8_scans_24 : decode cX8_scans 24 = .ok (.iconst 1, 1) := by decide +kernel
theorem dX8_scans_25 : decode cX8_scans 25 = .ok (.if_icmp .ne 40, 3) := by decide +kernel
theorem dX8_scans_28 : decode cX8_scans 28 = .ok (.aload_n 0, 1) := by decide +kernel
theorem dX8_scans_29 : decode cX8_scans 29 = .ok (.getfield 71, 3) := by decide +kernel
theorem dX8_scans_32 : decode cX8_scans 32 = .ok (.iload_n 2, 1) := by decide +kernel
theorem dX8_scans_33 : decode cX8_scans 33 = .ok (.baload, 1) := by decide +kernel
theorem dX8_scans_34 : decode cX8_scans 34 = .ok (.ifCond .eq 31, 3) := by decide +kernel
theorem dX8_scans_37 : decode cX8_scans 37 = .ok (.aload_n 0, 1) := by decide +kernel
theorem dX8_scans_38 : decode cX8_scans 38 = .ok (.getfield 59, 3) := by decide +kernel
theorem dX8_scans_41 : decode cX8_scans 41 = .ok (.iload_n 2, 1) := by decide +kernel
theorem dX8_scans_42 : decode cX8_scans 42 = .ok (.iaload, 1) := by decide +kernel
theorem dX8_scans_43 : decode cX8_scans 43 = .ok (.aload_n 0, 1) := by decide +kernel
theorem dX8_scans_44 : decode cX8_scans 44 = .ok (.getfield 59, 3) := by decide +kernel
theorem dX8_scans_47 : decode cX8_scans 47 = .ok (.aload_n 0, 1) := by decide +kernel
theorem dX8_scans_48 : decode cX8_scans 48 = .ok (.getfield 44, 3) := by decide +kernel
theorem dX8_scans_51 : decode cX8_scans 51 = .ok (.iload_n 1, 1) := by decide +kernel
theorem dX8_scans_52 : decode cX8_scans 52 = .ok (.iaload, 1) := by decide +kernel
theorem dX8_scans_53 : decode cX8_scans 53 = .ok (.iaload, 1) := by decide +kernel
theorem dX8_scans_54 : decode cX8_scans 54 = .ok (.if_icmp .ne 11, 3) := by decide +kernel
theorem dX8_scans_57 : decode cX8_scans 57 = .ok (.aload_n 0, 1) := by decide +kernel
theorem dX8_scans_58 : decode cX8_scans 58 = .ok (.iload_n 1, 1) := by decide +kernel
theorem dX8_scans_59 : decode cX8_scans 59 = .ok (.iload_n 2, 1) := by decide +kernel
theorem dX8_scans_60 : decode cX8_scans 60 = .ok (.invokevirtual 308, 3) := by decide +kernel
theorem dX8_scans_63 : decode cX8_scans 63 = .ok (.iconst 1, 1) := by decide +kernel
theorem dX8_scans_64 : decode cX8_scans 64 = .ok (.ireturn, 1) := by decide +kernel
theorem dX8_scans_65 : decode cX8_scans 65 = .ok (.iinc 2 1, 3) := by decide +kernel
theorem dX8_scans_68 : decode cX8_scans 68 = .ok (.goto (-56), 3) := by decide +kernel
theorem dX8_scans_71 : decode cX8_scans 71 = .ok (.iconst 0, 1) := by decide +kernel
theorem dX8_scans_72 : decode cX8_scans 72 = .ok (.istore_n 2, 1) := by decide +kernel
theorem dX8_scans_73 : decode cX8_scans 73 = .ok (.iload_n 2, 1) := by decide +kernel
theorem dX8_scans_74 : decode cX8_scans 74 = .ok (.aload_n 0, 1) := by decide +kernel
theorem dX8_scans_75 : decode cX8_scans 75 = .ok (.getfield 165, 3) := by decide +kernel
theorem dX8_scans_78 : decode cX8_scans 78 = .ok (.if_icmp .ge 128, 3) := by decide +kernel
theorem dX8_scans_81 : decode cX8_scans 81 = .ok (.aload_n 0, 1) := by decide +kernel
theorem dX8_scans_82 : decode cX8_scans 82 = .ok (.getfield 116, 3) := by decide +kernel
theorem dX8_scans_85 : decode cX8_scans 85 = .ok (.iload_n 2, 1) := by decide +kernel
theorem dX8_scans_86 : decode cX8_scans 86 = .ok (.iaload, 1) := by decide +kernel
theorem dX8_scans_87 : decode cX8_scans 87 = .ok (.istore_n 3, 1) := by decide +kernel
theorem dX8_scans_88 : decode cX8_scans 88 = .ok (.aload_n 0, 1) := by decide +kernel
theorem dX8_scans_89 : decode cX8_scans 89 = .ok (.iload_n 3, 1) := by decide +kernel
theorem dX8_scans_90 : decode cX8_scans 90 = .ok (.invokevirtual 305, 3) := by decide +kernel
theorem dX8_scans_93 : decode cX8_scans 93 = .ok (.ifCond .eq 107, 3) := by decide +kernel
theorem dX8_scans_96 : decode cX8_scans 96 = .ok (.aload_n 0, 1) := by decide +kernel
theorem dX8_scans_97 : decode cX8_scans 97 = .ok (.getfield 44, 3) := by decide +kernel
theorem dX8_scans_100 : decode cX8_scans 100 = .ok (.iload_n 3, 1) := by decide +kernel
theorem dX8_scans_101 : decode cX8_scans 101 = .ok (.iaload, 1) := by decide +kernel
theorem dX8_scans_102 : decode cX8_scans 102 = .ok (.aload_n 0, 1) := by decide +kernel
theorem dX8_scans_103 : decode cX8_scans 103 = .ok (.getfield 44, 3) := by decide +kernel
theorem dX8_scans_106 : decode cX8_scans 106 = .ok (.iload_n 1, 1) := by decide +kernel
theorem dX8_scans_107 : decode cX8_scans 107 = .ok (.iaload, 1) := by decide +kernel
theorem dX8_scans_108 : decode cX8_scans 108 = .ok (.if_icmp .eq 92, 3) := by decide +kernel
theorem dX8_scans_111 : decode cX8_scans 111 = .ok (.aload_n 0, 1) := by decide +kernel
theorem dX8_scans_112 : decode cX8_scans 112 = .ok (.getfield 59, 3) := by decide +kernel
theorem dX8_scans_115 : decode cX8_scans 115 = .ok (.aload_n 0, 1) := by decide +kernel
theorem dX8_scans_116 : decode cX8_scans 116 = .ok (.getfield 44, 3) := by decide +kernel
theorem dX8_scans_119 : decode cX8_scans 119 = .ok (.iload_n 3, 1) := by decide +kernel
theorem dX8_scans_120 : decode cX8_scans 120 = .ok (.iaload, 1) := by decide +kernel
theorem dX8_scans_121 : decode cX8_scans 121 = .ok (.iaload, 1) := by decide +kernel
theorem dX8_scans_122 : decode cX8_scans 122 = .ok (.aload_n 0, 1) := by decide +kernel
theorem dX8_scans_123 : decode cX8_scans 123 = .ok (.getfield 59, 3) := by decide +kernel
theorem dX8_scans_126 : decode cX8_scans 126 = .ok (.aload_n 0, 1) := by decide +kernel
theorem dX8_scans_127 : decode cX8_scans 127 = .ok (.getfield 44, 3) := by decide +kernel
theorem dX8_scans_130 : decode cX8_scans 130 = .ok (.iload_n 1, 1) := by decide +kernel
theorem dX8_scans_131 : decode cX8_scans 131 = .ok (.iaload, 1) := by decide +kernel
theorem dX8_scans_132 : decode cX8_scans 132 = .ok (.iaload, 1) := by decide +kernel
theorem dX8_scans_133 : decode cX8_scans 133 = .ok (.if_icmp .ne 67, 3) := by decide +kernel
theorem dX8_scans_136 : decode cX8_scans 136 = .ok (.aload_n 0, 1) := by decide +kernel
theorem dX8_scans_137 : decode cX8_scans 137 = .ok (.getfield 44, 3) := by decide +kernel
theorem dX8_scans_140 : decode cX8_scans 140 = .ok (.iload_n 3, 1) := by decide +kernel
theorem dX8_scans_141 : decode cX8_scans 141 = .ok (.iaload, 1) := by decide +kernel
theorem dX8_scans_142 : decode cX8_scans 142 = .ok (.istore 4, 2) := by decide +kernel
theorem dX8_scans_144 : decode cX8_scans 144 = .ok (.aload_n 0, 1) := by decide +kernel
theorem dX8_scans_145 : decode cX8_scans 145 = .ok (.getfield 71, 3) := by decide +kernel
theorem dX8_scans_148 : decode cX8_scans 148 = .ok (.iload 4, 2) := by decide +kernel
theorem dX8_scans_150 : decode cX8_scans 150 = .ok (.iconst 1, 1) := by decide +kernel
theorem dX8_scans_151 : decode cX8_scans 151 = .ok (.bastore, 1) := by decide +kernel
theorem dX8_scans_152 : decode cX8_scans 152 = .ok (.aload_n 0, 1) := by decide +kernel
theorem dX8_scans_153 : decode cX8_scans 153 = .ok (.iload_n 3, 1) := by decide +kernel
theorem dX8_scans_154 : decode cX8_scans 154 = .ok (.invokevirtual 255, 3) := by decide +kernel
theorem dX8_scans_157 : decode cX8_scans 157 = .ok (.iconst 0, 1) := by decide +kernel
theorem dX8_scans_158 : decode cX8_scans 158 = .ok (.istore 5, 2) := by decide +kernel
theorem dX8_scans_160 : decode cX8_scans 160 = .ok (.iload 5, 2) := by decide +kernel
theorem dX8_scans_162 : decode cX8_scans 162 = .ok (.sipush 192, 3) := by decide +kernel
theorem dX8_scans_165 : decode cX8_scans 165 = .ok (.if_icmp .ge 26, 3) := by decide +kernel
theorem dX8_scans_168 : decode cX8_scans 168 = .ok (.aload_n 0, 1) := by decide +kernel
theorem dX8_scans_169 : decode cX8_scans 169 = .ok (.iload 5, 2) := by decide +kernel
theorem dX8_scans_171 : decode cX8_scans 171 = .ok (.iload 4, 2) := by decide +kernel
theorem dX8_scans_173 : decode cX8_scans 173 = .ok (.invokevirtual 142, 3) := by decide +kernel
theorem dX8_scans_176 : decode cX8_scans 176 = .ok (.ifCond .eq 9, 3) := by decide +kernel
theorem dX8_scans_179 : decode cX8_scans 179 = .ok (.aload_n 0, 1) := by decide +kernel
theorem dX8_scans_180 : decode cX8_scans 180 = .ok (.iload 5, 2) := by decide +kernel
theorem dX8_scans_182 : decode cX8_scans 182 = .ok (.invokevirtual 152, 3) := by decide +kernel
theorem dX8_scans_185 : decode cX8_scans 185 = .ok (.iinc 5 1, 3) := by decide +kernel
theorem dX8_scans_188 : decode cX8_scans 188 = .ok (.goto (-28), 3) := by decide +kernel
theorem dX8_scans_191 : decode cX8_scans 191 = .ok (.aload_n 0, 1) := by decide +kernel
theorem dX8_scans_192 : decode cX8_scans 192 = .ok (.iload_n 1, 1) := by decide +kernel
theorem dX8_scans_193 : decode cX8_scans 193 = .ok (.iload 4, 2) := by decide +kernel
theorem dX8_scans_195 : decode cX8_scans 195 = .ok (.invokevirtual 308, 3) := by decide +kernel
theorem dX8_scans_198 : decode cX8_scans 198 = .ok (.iconst 1, 1) := by decide +kernel
theorem dX8_scans_199 : decode cX8_scans 199 = .ok (.ireturn, 1) := by decide +kernel
theorem dX8_scans_200 : decode cX8_scans 200 = .ok (.iinc 2 1, 3) := by decide +kernel
theorem dX8_scans_203 : decode cX8_scans 203 = .ok (.goto (-130), 3) := by decide +kernel
theorem dX8_scans_206 : decode cX8_scans 206 = .ok (.aload_n 0, 1) := by decide +kernel
theorem dX8_scans_207 : decode cX8_scans 207 = .ok (.getfield 116, 3) := by decide +kernel
theorem dX8_scans_210 : decode cX8_scans 210 = .ok (.aload_n 0, 1) := by decide +kernel
theorem dX8_scans_211 : decode cX8_scans 211 = .ok (.getfield 165, 3) := by decide +kernel
theorem dX8_scans_214 : decode cX8_scans 214 = .ok (.iload_n 1, 1) := by decide +kernel
theorem dX8_scans_215 : decode cX8_scans 215 = .ok (.iastore, 1) := by decide +kernel
theorem dX8_scans_216 : decode cX8_scans 216 = .ok (.aload_n 0, 1) := by decide +kernel
theorem dX8_scans_217 : decode cX8_scans 217 = .ok (.dup, 1) := by decide +kernel
theorem dX8_scans_218 : decode cX8_scans 218 = .ok (.getfield 165, 3) := by decide +kernel
theorem dX8_scans_221 : decode cX8_scans 221 = .ok (.iconst 1, 1) := by decide +kernel
theorem dX8_scans_222 : decode cX8_scans 222 = .ok (.iadd, 1) := by decide +kernel
theorem dX8_scans_223 : decode cX8_scans 223 = .ok (.putfield 165, 3) := by decide +kernel
theorem dX8_scans_226 : decode cX8_scans 226 = .ok (.iconst 0, 1) := by decide +kernel
theorem dX8_scans_227 : decode cX8_scans 227 = .ok (.ireturn, 1) := by decide +kernel
theorem dX8_scan_0 : decode cX8_scan 0 = .ok (.aload_n 0, 1) := by decide +kernel
theorem dX8_scan_1 : decode cX8_scan 1 = .ok (.iload_n 1, 1) := by decide +kernel
theorem dX8_scan_2 : decode cX8_scan 2 = .ok (.iconst 1, 1) := by decide +kernel
theorem dX8_scan_3 : decode cX8_scan 3 = .ok (.sipush 192, 3) := by decide +kernel
theorem dX8_scan_6 : decode cX8_scan 6 = .ok (.invokestatic 126, 3) := by decide +kernel
theorem dX8_scan_9 : decode cX8_scan 9 = .ok (.invokevirtual 261, 3) := by decide +kernel
theorem dX8_scan_12 : decode cX8_scan 12 = .ok (.ifCond .ne 5, 3) := by decide +kernel
theorem dX8_scan_15 : decode cX8_scan 15 = .ok (.iconst 0, 1) := by decide +kernel
theorem dX8_scan_16 : decode cX8_scan 16 = .ok (.ireturn, 1) := by decide +kernel
theorem dX8_scan_17 : decode cX8_scan 17 = .ok (.iconst 0, 1) := by decide +kernel
theorem dX8_scan_18 : decode cX8_scan 18 = .ok (.istore_n 2, 1) := by decide +kernel
theorem dX8_scan_19 : decode cX8_scan 19 = .ok (.iconst 0, 1) := by decide +kernel
theorem dX8_scan_20 : decode cX8_scan 20 = .ok (.istore_n 3, 1) := by decide +kernel
theorem dX8_scan_21 : decode cX8_scan 21 = .ok (.iload_n 3, 1) := by decide +kernel
theorem dX8_scan_22 : decode cX8_scan 22 = .ok (.aload_n 0, 1) := by decide +kernel
theorem dX8_scan_23 : decode cX8_scan 23 = .ok (.getfield 123, 3) := by decide +kernel
theorem dX8_scan_26 : decode cX8_scan 26 = .ok (.if_icmp .ge 17, 3) := by decide +kernel
theorem dX8_scan_29 : decode cX8_scan 29 = .ok (.iload_n 2, 1) := by decide +kernel
theorem dX8_scan_30 : decode cX8_scan 30 = .ok (.aload_n 0, 1) := by decide +kernel
theorem dX8_scan_31 : decode cX8_scan 31 = .ok (.iload_n 3, 1) := by decide +kernel
theorem dX8_scan_32 : decode cX8_scan 32 = .ok (.invokevirtual 311, 3) := by decide +kernel
theorem dX8_scan_35 : decode cX8_scan 35 = .ok (.ior, 1) := by decide +kernel
theorem dX8_scan_36 : decode cX8_scan 36 = .ok (.istore_n 2, 1) := by decide +kernel
theorem dX8_scan_37 : decode cX8_scan 37 = .ok (.iinc 3 1, 3) := by decide +kernel
theorem dX8_scan_40 : decode cX8_scan 40 = .ok (.goto (-19), 3) := by decide +kernel
theorem dX8_scan_43 : decode cX8_scan 43 = .ok (.iconst 0, 1) := by decide +kernel
theorem dX8_scan_44 : decode cX8_scan 44 = .ok (.istore_n 3, 1) := by decide +kernel
theorem dX8_scan_45 : decode cX8_scan 45 = .ok (.iconst 0, 1) := by decide +kernel
theorem dX8_scan_46 : decode cX8_scan 46 = .ok (.istore 4, 2) := by decide +kernel
theorem dX8_scan_48 : decode cX8_scan 48 = .ok (.iload 4, 2) := by decide +kernel
theorem dX8_scan_50 : decode cX8_scan 50 = .ok (.iload_n 1, 1) := by decide +kernel
theorem dX8_scan_51 : decode cX8_scan 51 = .ok (.if_icmp .ge 60, 3) := by decide +kernel
theorem dX8_scan_54 : decode cX8_scan 54 = .ok (.iload_n 2, 1) := by decide +kernel
theorem dX8_scan_55 : decode cX8_scan 55 = .ok (.ifCond .eq 56, 3) := by decide +kernel
theorem dX8_scan_58 : decode cX8_scan 58 = .ok (.aload_n 0, 1) := by decide +kernel
theorem dX8_scan_59 : decode cX8_scan 59 = .ok (.aload_n 0, 1) := by decide +kernel
theorem dX8_scan_60 : decode cX8_scan 60 = .ok (.getfield 314, 3) := by decide +kernel
theorem dX8_scan_63 : decode cX8_scan 63 = .ok (.bipush 32, 2) := by decide +kernel
theorem dX8_scan_65 : decode cX8_scan 65 = .ok (.idiv, 1) := by decide +kernel
theorem dX8_scan_66 : decode cX8_scan 66 = .ok (.invokevirtual 311, 3) := by decide +kernel
theorem dX8_scan_69 : decode cX8_scan 69 = .ok (.ifCond .ne 20, 3) := by decide +kernel
theorem dX8_scan_72 : decode cX8_scan 72 = .ok (.aload_n 0, 1) := by decide +kernel
theorem dX8_scan_73 : decode cX8_scan 73 = .ok (.bipush 32, 2) := by decide +kernel
theorem dX8_scan_75 : decode cX8_scan 75 = .ok (.aload_n 0, 1) := by decide +kernel
theorem dX8_scan_76 : decode cX8_scan 76 = .ok (.getfield 314, 3) := by decide +kernel
theorem dX8_scan_79 : decode cX8_scan 79 = .ok (.bipush 32, 2) := by decide +kernel
theorem dX8_scan_81 : decode cX8_scan 81 = .ok (.irem, 1) := by decide +kernel
theorem dX8_scan_82 : decode cX8_scan 82 = .ok (.isub, 1) := by decide +kernel
theorem dX8_scan_83 : decode cX8_scan 83 = .ok (.invokevirtual 317, 3) := by decide +kernel
theorem dX8_scan_86 : decode cX8_scan 86 = .ok (.goto (-28), 3) := by decide +kernel
theorem dX8_scan_89 : decode cX8_scan 89 = .ok (.iload_n 3, 1) := by decide +kernel
theorem dX8_scan_90 : decode cX8_scan 90 = .ok (.aload_n 0, 1) := by decide +kernel
theorem dX8_scan_91 : decode cX8_scan 91 = .ok (.aload_n 0, 1) := by decide +kernel
theorem dX8_scan_92 : decode cX8_scan 92 = .ok (.getfield 314, 3) := by decide +kernel
theorem dX8_scan_95 : decode cX8_scan 95 = .ok (.invokevirtual 320, 3) := by decide +kernel
theorem dX8_scan_98 : decode cX8_scan 98 = .ok (.iadd, 1) := by decide +kernel
theorem dX8_scan_99 : decode cX8_scan 99 = .ok (.istore_n 3, 1) := by decide +kernel
theorem dX8_scan_100 : decode cX8_scan 100 = .ok (.aload_n 0, 1) := by decide +kernel
theorem dX8_scan_101 : decode cX8_scan 101 = .ok (.iconst 1, 1) := by decide +kernel
theorem dX8_scan_102 : decode cX8_scan 102 = .ok (.invokevirtual 317, 3) := by decide +kernel
theorem dX8_scan_105 : decode cX8_scan 105 = .ok (.iinc 4 1, 3) := by decide +kernel
theorem dX8_scan_108 : decode cX8_scan 108 = .ok (.goto (-60), 3) := by decide +kernel
theorem dX8_scan_111 : decode cX8_scan 111 = .ok (.iload_n 3, 1) := by decide +kernel
theorem dX8_scan_112 : decode cX8_scan 112 = .ok (.ireturn, 1) := by decide +kernel
theorem dX8_passes_0 : decode cX8_passes 0 = .ok (.aload_n 0, 1) := by decide +kernel
theorem dX8_passes_1 : decode cX8_passes 1 = .ok (.dup, 1) := by decide +kernel
theorem dX8_passes_2 : decode cX8_passes 2 = .ok (.getfield 314, 3) := by decide +kernel
theorem dX8_passes_5 : decode cX8_passes 5 = .ok (.iload_n 1, 1) := by decide +kernel
theorem dX8_passes_6 : decode cX8_passes 6 = .ok (.iadd, 1) := by decide +kernel
theorem dX8_passes_7 : decode cX8_passes 7 = .ok (.putfield 314, 3) := by decide +kernel
theorem dX8_passes_10 : decode cX8_passes 10 = .ok (.aload_n 0, 1) := by decide +kernel
theorem dX8_passes_11 : decode cX8_passes 11 = .ok (.getfield 314, 3) := by decide +kernel
theorem dX8_passes_14 : decode cX8_passes 14 = .ok (.sipush 192, 3) := by decide +kernel
theorem dX8_passes_17 : decode cX8_passes 17 = .ok (.if_icmp .ne 13, 3) := by decide +kernel
theorem dX8_passes_20 : decode cX8_passes 20 = .ok (.aload_n 0, 1) := by decide +kernel
theorem dX8_passes_21 : decode cX8_passes 21 = .ok (.iconst 0, 1) := by decide +kernel
theorem dX8_passes_22 : decode cX8_passes 22 = .ok (.putfield 314, 3) := by decide +kernel
theorem dX8_passes_25 : decode cX8_passes 25 = .ok (.aload_n 0, 1) := by decide +kernel
theorem dX8_passes_26 : decode cX8_passes 26 = .ok (.iconst 0, 1) := by decide +kernel
theorem dX8_passes_27 : decode cX8_passes 27 = .ok (.putfield 165, 3) := by decide +kernel
theorem dX8_passes_30 : decode cX8_passes 30 = .ok (.return_, 1) := by decide +kernel
theorem dX8_entry_0 : decode cX8_entry 0 = .ok (.aload_n 0, 1) := by decide +kernel
theorem dX8_entry_1 : decode cX8_entry 1 = .ok (.aload_n 0, 1) := by decide +kernel
theorem dX8_entry_2 : decode cX8_entry 2 = .ok (.iload_n 1, 1) := by decide +kernel
theorem dX8_entry_3 : decode cX8_entry 3 = .ok (.invokevirtual 130, 3) := by decide +kernel
theorem dX8_entry_6 : decode cX8_entry 6 = .ok (.iload_n 2, 1) := by decide +kernel
theorem dX8_entry_7 : decode cX8_entry 7 = .ok (.iconst 0, 1) := by decide +kernel
theorem dX8_entry_8 : decode cX8_entry 8 = .ok (.bipush 31, 2) := by decide +kernel
theorem dX8_entry_10 : decode cX8_entry 10 = .ok (.invokestatic 126, 3) := by decide +kernel
theorem dX8_entry_13 : decode cX8_entry 13 = .ok (.ifCond .eq 16, 3) := by decide +kernel
theorem dX8_entry_16 : decode cX8_entry 16 = .ok (.iload_n 3, 1) := by decide +kernel
theorem dX8_entry_17 : decode cX8_entry 17 = .ok (.iconst 0, 1) := by decide +kernel
theorem dX8_entry_18 : decode cX8_entry 18 = .ok (.iconst 5, 1) := by decide +kernel
theorem dX8_entry_19 : decode cX8_entry 19 = .ok (.invokestatic 126, 3) := by decide +kernel
theorem dX8_entry_22 : decode cX8_entry 22 = .ok (.ifCond .eq 7, 3) := by decide +kernel
theorem dX8_entry_25 : decode cX8_entry 25 = .ok (.iconst 1, 1) := by decide +kernel
theorem dX8_entry_26 : decode cX8_entry 26 = .ok (.goto 4, 3) := by decide +kernel
theorem dX8_entry_29 : decode cX8_entry 29 = .ok (.iconst 0, 1) := by decide +kernel
theorem dX8_entry_30 : decode cX8_entry 30 = .ok (.invokevirtual 228, 3) := by decide +kernel
theorem dX8_entry_33 : decode cX8_entry 33 = .ok (.ifCond .ne 5, 3) := by decide +kernel
theorem dX8_entry_36 : decode cX8_entry 36 = .ok (.iconst 0, 1) := by decide +kernel
theorem dX8_entry_37 : decode cX8_entry 37 = .ok (.ireturn, 1) := by decide +kernel
theorem dX8_entry_38 : decode cX8_entry 38 = .ok (.bipush 32, 2) := by decide +kernel
theorem dX8_entry_40 : decode cX8_entry 40 = .ok (.iload_n 1, 1) := by decide +kernel
theorem dX8_entry_41 : decode cX8_entry 41 = .ok (.imul, 1) := by decide +kernel
theorem dX8_entry_42 : decode cX8_entry 42 = .ok (.iload_n 2, 1) := by decide +kernel
theorem dX8_entry_43 : decode cX8_entry 43 = .ok (.iadd, 1) := by decide +kernel
theorem dX8_entry_44 : decode cX8_entry 44 = .ok (.istore 4, 2) := by decide +kernel
theorem dX8_entry_46 : decode cX8_entry 46 = .ok (.aload_n 0, 1) := by decide +kernel
theorem dX8_entry_47 : decode cX8_entry 47 = .ok (.getfield 26, 3) := by decide +kernel
theorem dX8_entry_50 : decode cX8_entry 50 = .ok (.iload 4, 2) := by decide +kernel
theorem dX8_entry_52 : decode cX8_entry 52 = .ok (.iaload, 1) := by decide +kernel
theorem dX8_entry_53 : decode cX8_entry 53 = .ok (.ifCond .le 7, 3) := by decide +kernel
theorem dX8_entry_56 : decode cX8_entry 56 = .ok (.iconst 1, 1) := by decide +kernel
theorem dX8_entry_57 : decode cX8_entry 57 = .ok (.goto 4, 3) := by decide +kernel
theorem dX8_entry_60 : decode cX8_entry 60 = .ok (.iconst 0, 1) := by decide +kernel
theorem dX8_entry_61 : decode cX8_entry 61 = .ok (.istore 5, 2) := by decide +kernel
theorem dX8_entry_63 : decode cX8_entry 63 = .ok (.iload 5, 2) := by decide +kernel
theorem dX8_entry_65 : decode cX8_entry 65 = .ok (.ifCond .eq 18, 3) := by decide +kernel
theorem dX8_entry_68 : decode cX8_entry 68 = .ok (.aload_n 0, 1) := by decide +kernel
theorem dX8_entry_69 : decode cX8_entry 69 = .ok (.getfield 41, 3) := by decide +kernel
theorem dX8_entry_72 : decode cX8_entry 72 = .ok (.iload 4, 2) := by decide +kernel
theorem dX8_entry_74 : decode cX8_entry 74 = .ok (.iaload, 1) := by decide +kernel
theorem dX8_entry_75 : decode cX8_entry 75 = .ok (.iconst 1, 1) := by decide +kernel
theorem dX8_entry_76 : decode cX8_entry 76 = .ok (.if_icmp .ne 7, 3) := by decide +kernel
theorem dX8_entry_79 : decode cX8_entry 79 = .ok (.iconst 1, 1) := by decide +kernel
theorem dX8_entry_80 : decode cX8_entry 80 = .ok (.goto 4, 3) := by decide +kernel
theorem dX8_entry_83 : decode cX8_entry 83 = .ok (.iconst 0, 1) := by decide +kernel
theorem dX8_entry_84 : decode cX8_entry 84 = .ok (.istore 6, 2) := by decide +kernel
theorem dX8_entry_86 : decode cX8_entry 86 = .ok (.iload_n 3, 1) := by decide +kernel
theorem dX8_entry_87 : decode cX8_entry 87 = .ok (.tableswitch 133 0 4 #[33, 41, 58, 75, 100], 33) := by decide +kernel
theorem dX8_entry_120 : decode cX8_entry 120 = .ok (.aload_n 0, 1) := by decide +kernel
theorem dX8_entry_121 : decode cX8_entry 121 = .ok (.getfield 26, 3) := by decide +kernel
theorem dX8_entry_124 : decode cX8_entry 124 = .ok (.iload 4, 2) := by decide +kernel
theorem dX8_entry_126 : decode cX8_entry 126 = .ok (.iaload, 1) := by decide +kernel
theorem dX8_entry_127 : decode cX8_entry 127 = .ok (.ireturn, 1) := by decide +kernel
theorem dX8_entry_128 : decode cX8_entry 128 = .ok (.iload 5, 2) := by decide +kernel
theorem dX8_entry_130 : decode cX8_entry 130 = .ok (.ifCond .eq 13, 3) := by decide +kernel
theorem dX8_entry_133 : decode cX8_entry 133 = .ok (.aload_n 0, 1) := by decide +kernel
theorem dX8_entry_134 : decode cX8_entry 134 = .ok (.getfield 41, 3) := by decide +kernel
theorem dX8_entry_137 : decode cX8_entry 137 = .ok (.iload 4, 2) := by decide +kernel
theorem dX8_entry_139 : decode cX8_entry 139 = .ok (.iaload, 1) := by decide +kernel
theorem dX8_entry_140 : decode cX8_entry 140 = .ok (.goto 4, 3) := by decide +kernel
theorem dX8_entry_143 : decode cX8_entry 143 = .ok (.iconst (-1), 1) := by decide +kernel
theorem dX8_entry_144 : decode cX8_entry 144 = .ok (.ireturn, 1) := by decide +kernel
theorem dX8_entry_145 : decode cX8_entry 145 = .ok (.iload 6, 2) := by decide +kernel
theorem dX8_entry_147 : decode cX8_entry 147 = .ok (.ifCond .eq 13, 3) := by decide +kernel
theorem dX8_entry_150 : decode cX8_entry 150 = .ok (.aload_n 0, 1) := by decide +kernel
theorem dX8_entry_151 : decode cX8_entry 151 = .ok (.getfield 44, 3) := by decide +kernel
theorem dX8_entry_154 : decode cX8_entry 154 = .ok (.iload 4, 2) := by decide +kernel
theorem dX8_entry_156 : decode cX8_entry 156 = .ok (.iaload, 1) := by decide +kernel
theorem dX8_entry_157 : decode cX8_entry 157 = .ok (.goto 4, 3) := by decide +kernel
theorem dX8_entry_160 : decode cX8_entry 160 = .ok (.iconst (-1), 1) := by decide +kernel
theorem dX8_entry_161 : decode cX8_entry 161 = .ok (.ireturn, 1) := by decide +kernel
theorem dX8_entry_162 : decode cX8_entry 162 = .ok (.iload 6, 2) := by decide +kernel
theorem dX8_entry_164 : decode cX8_entry 164 = .ok (.ifCond .ne 7, 3) := by decide +kernel
theorem dX8_entry_167 : decode cX8_entry 167 = .ok (.iconst (-1), 1) := by decide +kernel
theorem dX8_entry_168 : decode cX8_entry 168 = .ok (.goto 18, 3) := by decide +kernel
theorem dX8_entry_171 : decode cX8_entry 171 = .ok (.aload_n 0, 1) := by decide +kernel
theorem dX8_entry_172 : decode cX8_entry 172 = .ok (.getfield 47, 3) := by decide +kernel
theorem dX8_entry_175 : decode cX8_entry 175 = .ok (.iload 4, 2) := by decide +kernel
theorem dX8_entry_177 : decode cX8_entry 177 = .ok (.baload, 1) := by decide +kernel
theorem dX8_entry_178 : decode cX8_entry 178 = .ok (.ifCond .eq 7, 3) := by decide +kernel
theorem dX8_entry_181 : decode cX8_entry 181 = .ok (.iconst 1, 1) := by decide +kernel
theorem dX8_entry_182 : decode cX8_entry 182 = .ok (.goto 4, 3) := by decide +kernel
theorem dX8_entry_185 : decode cX8_entry 185 = .ok (.iconst 0, 1) := by decide +kernel
theorem dX8_entry_186 : decode cX8_entry 186 = .ok (.ireturn, 1) := by decide +kernel
theorem dX8_entry_187 : decode cX8_entry 187 = .ok (.iload 5, 2) := by decide +kernel
theorem dX8_entry_189 : decode cX8_entry 189 = .ok (.ifCond .eq 29, 3) := by decide +kernel
theorem dX8_entry_192 : decode cX8_entry 192 = .ok (.aload_n 0, 1) := by decide +kernel
theorem dX8_entry_193 : decode cX8_entry 193 = .ok (.getfield 41, 3) := by decide +kernel
theorem dX8_entry_196 : decode cX8_entry 196 = .ok (.iload 4, 2) := by decide +kernel
theorem dX8_entry_198 : decode cX8_entry 198 = .ok (.iaload, 1) := by decide +kernel
theorem dX8_entry_199 : decode cX8_entry 199 = .ok (.iconst 2, 1) := by decide +kernel
theorem dX8_entry_200 : decode cX8_entry 200 = .ok (.if_icmp .ne 18, 3) := by decide +kernel
theorem dX8_entry_203 : decode cX8_entry 203 = .ok (.aload_n 0, 1) := by decide +kernel
theorem dX8_entry_204 : decode cX8_entry 204 = .ok (.getfield 89, 3) := by decide +kernel
theorem dX8_entry_207 : decode cX8_entry 207 = .ok (.aload_n 0, 1) := by decide +kernel
theorem dX8_entry_208 : decode cX8_entry 208 = .ok (.getfield 50, 3) := by decide +kernel
theorem dX8_entry_211 : decode cX8_entry 211 = .ok (.iload 4, 2) := by decide +kernel
theorem dX8_entry_213 : decode cX8_entry 213 = .ok (.iaload, 1) := by decide +kernel
theorem dX8_entry_214 : decode cX8_entry 214 = .ok (.iaload, 1) := by decide +kernel
theorem dX8_entry_215 : decode cX8_entry 215 = .ok (.goto 4, 3) := by decide +kernel
theorem dX8_entry_218 : decode cX8_entry 218 = .ok (.iconst (-1), 1) := by decide +kernel
theorem dX8_entry_219 : decode cX8_entry 219 = .ok (.ireturn, 1) := by decide +kernel
theorem dX8_entry_220 : decode cX8_entry 220 = .ok (.iload 5, 2) := by decide +kernel
theorem dX8_entry_222 : decode cX8_entry 222 = .ok (.ifCond .eq 17, 3) := by decide +kernel
theorem dX8_entry_225 : decode cX8_entry 225 = .ok (.aload_n 0, 1) := by decide +kernel
theorem dX8_entry_226 : decode cX8_entry 226 = .ok (.getfield 53, 3) := by decide +kernel
theorem dX8_entry_229 : decode cX8_entry 229 = .ok (.iload 4, 2) := by decide +kernel
theorem dX8_entry_231 : decode cX8_entry 231 = .ok (.baload, 1) := by decide +kernel
theorem dX8_entry_232 : decode cX8_entry 232 = .ok (.ifCond .eq 7, 3) := by decide +kernel
theorem dX8_entry_235 : decode cX8_entry 235 = .ok (.iconst 1, 1) := by decide +kernel
theorem dX8_entry_236 : decode cX8_entry 236 = .ok (.goto 4, 3) := by decide +kernel
theorem dX8_entry_239 : decode cX8_entry 239 = .ok (.iconst 0, 1) := by decide +kernel
theorem dX8_entry_240 : decode cX8_entry 240 = .ok (.ireturn, 1) := by decide +kernel
theorem dX8_frame_0 : decode cX8_frame 0 = .ok (.aload_n 0, 1) := by decide +kernel
theorem dX8_frame_1 : decode cX8_frame 1 = .ok (.iload_n 1, 1) := by decide +kernel
theorem dX8_frame_2 : decode cX8_frame 2 = .ok (.iconst 0, 1) := by decide +kernel
theorem dX8_frame_3 : decode cX8_frame 3 = .ok (.bipush 23, 2) := by decide +kernel
theorem dX8_frame_5 : decode cX8_frame 5 = .ok (.invokestatic 126, 3) := by decide +kernel
theorem dX8_frame_8 : decode cX8_frame 8 = .ok (.ifCond .eq 17, 3) := by decide +kernel
theorem dX8_frame_11 : decode cX8_frame 11 = .ok (.iload_n 2, 1) := by decide +kernel
theorem dX8_frame_12 : decode cX8_frame 12 = .ok (.iconst 0, 1) := by decide +kernel
theorem dX8_frame_13 : decode cX8_frame 13 = .ok (.bipush 7, 2) := by decide +kernel
theorem dX8_frame_15 : decode cX8_frame 15 = .ok (.invokestatic 126, 3) := by decide +kernel
theorem dX8_frame_18 : decode cX8_frame 18 = .ok (.ifCond .eq 7, 3) := by decide +kernel
theorem dX8_frame_21 : decode cX8_frame 21 = .ok (.iconst 1, 1) := by decide +kernel
theorem dX8_frame_22 : decode cX8_frame 22 = .ok (.goto 4, 3) := by decide +kernel
theorem dX8_frame_25 : decode cX8_frame 25 = .ok (.iconst 0, 1) := by decide +kernel
theorem dX8_frame_26 : decode cX8_frame 26 = .ok (.invokevirtual 261, 3) := by decide +kernel
theorem dX8_frame_29 : decode cX8_frame 29 = .ok (.ifCond .ne 5, 3) := by decide +kernel
theorem dX8_frame_32 : decode cX8_frame 32 = .ok (.iconst 0, 1) := by decide +kernel
theorem dX8_frame_33 : decode cX8_frame 33 = .ok (.ireturn, 1) := by decide +kernel
theorem dX8_frame_34 : decode cX8_frame 34 = .ok (.iload_n 2, 1) := by decide +kernel
theorem dX8_frame_35 : decode cX8_frame 35 = .ok (.ifCond .ne 22, 3) := by decide +kernel
theorem dX8_frame_38 : decode cX8_frame 38 = .ok (.aload_n 0, 1) := by decide +kernel
theorem dX8_frame_39 : decode cX8_frame 39 = .ok (.iload_n 1, 1) := by decide +kernel
theorem dX8_frame_40 : decode cX8_frame 40 = .ok (.invokevirtual 215, 3) := by decide +kernel
theorem dX8_frame_43 : decode cX8_frame 43 = .ok (.ifCond .eq 7, 3) := by decide +kernel
theorem dX8_frame_46 : decode cX8_frame 46 = .ok (.iconst 3, 1) := by decide +kernel
theorem dX8_frame_47 : decode cX8_frame 47 = .ok (.goto 9, 3) := by decide +kernel
theorem dX8_frame_50 : decode cX8_frame 50 = .ok (.aload_n 0, 1) := by decide +kernel
theorem dX8_frame_51 : decode cX8_frame 51 = .ok (.getfield 56, 3) := by decide +kernel
theorem dX8_frame_54 : decode cX8_frame 54 = .ok (.iload_n 1, 1) := by decide +kernel
theorem dX8_frame_55 : decode cX8_frame 55 = .ok (.iaload, 1) := by decide +kernel
theorem dX8_frame_56 : decode cX8_frame 56 = .ok (.ireturn, 1) := by decide +kernel
theorem dX8_frame_57 : decode cX8_frame 57 = .ok (.aload_n 0, 1) := by decide +kernel
theorem dX8_frame_58 : decode cX8_frame 58 = .ok (.getfield 56, 3) := by decide +kernel
theorem dX8_frame_61 : decode cX8_frame 61 = .ok (.iload_n 1, 1) := by decide +kernel
theorem dX8_frame_62 : decode cX8_frame 62 = .ok (.iaload, 1) := by decide +kernel
theorem dX8_frame_63 : decode cX8_frame 63 = .ok (.ifCond .ne 5, 3) := by decide +kernel
theorem dX8_frame_66 : decode cX8_frame 66 = .ok (.iconst (-1), 1) := by decide +kernel
theorem dX8_frame_67 : decode cX8_frame 67 = .ok (.ireturn, 1) := by decide +kernel
theorem dX8_frame_68 : decode cX8_frame 68 = .ok (.iload_n 2, 1) := by decide +kernel
theorem dX8_frame_69 : decode cX8_frame 69 = .ok (.tableswitch 96 1 6 #[39, 46, 53, 68, 74, 81], 39) := by decide +kernel
theorem dX8_frame_108 : decode cX8_frame 108 = .ok (.aload_n 0, 1) := by decide +kernel
theorem dX8_frame_109 : decode cX8_frame 109 = .ok (.getfield 59, 3) := by decide +kernel
theorem dX8_frame_112 : decode cX8_frame 112 = .ok (.iload_n 1, 1) := by decide +kernel
theorem dX8_frame_113 : decode cX8_frame 113 = .ok (.iaload, 1) := by decide +kernel
theorem dX8_frame_114 : decode cX8_frame 114 = .ok (.ireturn, 1) := by decide +kernel
theorem dX8_frame_115 : decode cX8_frame 115 = .ok (.aload_n 0, 1) := by decide +kernel
theorem dX8_frame_116 : decode cX8_frame 116 = .ok (.getfield 62, 3) := by decide +kernel
theorem dX8_frame_119 : decode cX8_frame 119 = .ok (.iload_n 1, 1) := by decide +kernel
theorem dX8_frame_120 : decode cX8_frame 120 = .ok (.iaload, 1) := by decide +kernel
theorem dX8_frame_121 : decode cX8_frame 121 = .ok (.ireturn, 1) := by decide +kernel
theorem dX8_frame_122 : decode cX8_frame 122 = .ok (.aload_n 0, 1) := by decide +kernel
theorem dX8_frame_123 : decode cX8_frame 123 = .ok (.getfield 65, 3) := by decide +kernel
theorem dX8_frame_126 : decode cX8_frame 126 = .ok (.iload_n 1, 1) := by decide +kernel
theorem dX8_frame_127 : decode cX8_frame 127 = .ok (.baload, 1) := by decide +kernel
theorem dX8_frame_128 : decode cX8_frame 128 = .ok (.ifCond .eq 7, 3) := by decide +kernel
theorem dX8_frame_131 : decode cX8_frame 131 = .ok (.iconst 1, 1) := by decide +kernel
theorem dX8_frame_132 : decode cX8_frame 132 = .ok (.goto 4, 3) := by decide +kernel
theorem dX8_frame_135 : decode cX8_frame 135 = .ok (.iconst 0, 1) := by decide +kernel
theorem dX8_frame_136 : decode cX8_frame 136 = .ok (.ireturn, 1) := by decide +kernel
theorem dX8_frame_137 : decode cX8_frame 137 = .ok (.aload_n 0, 1) := by decide +kernel
theorem dX8_frame_138 : decode cX8_frame 138 = .ok (.iload_n 1, 1) := by decide +kernel
theorem dX8_frame_139 : decode cX8_frame 139 = .ok (.invokevirtual 155, 3) := by decide +kernel
theorem dX8_frame_142 : decode cX8_frame 142 = .ok (.ireturn, 1) := by decide +kernel
theorem dX8_frame_143 : decode cX8_frame 143 = .ok (.aload_n 0, 1) := by decide +kernel
theorem dX8_frame_144 : decode cX8_frame 144 = .ok (.getfield 68, 3) := by decide +kernel
theorem dX8_frame_147 : decode cX8_frame 147 = .ok (.iload_n 1, 1) := by decide +kernel
theorem dX8_frame_148 : decode cX8_frame 148 = .ok (.iaload, 1) := by decide +kernel
theorem dX8_frame_149 : decode cX8_frame 149 = .ok (.ireturn, 1) := by decide +kernel
theorem dX8_frame_150 : decode cX8_frame 150 = .ok (.aload_n 0, 1) := by decide +kernel
theorem dX8_frame_151 : decode cX8_frame 151 = .ok (.getfield 71, 3) := by decide +kernel
theorem dX8_frame_154 : decode cX8_frame 154 = .ok (.iload_n 1, 1) := by decide +kernel
theorem dX8_frame_155 : decode cX8_frame 155 = .ok (.baload, 1) := by decide +kernel
theorem dX8_frame_156 : decode cX8_frame 156 = .ok (.ifCond .eq 7, 3) := by decide +kernel
theorem dX8_frame_159 : decode cX8_frame 159 = .ok (.iconst 1, 1) := by decide +kernel
theorem dX8_frame_160 : decode cX8_frame 160 = .ok (.goto 4, 3) := by decide +kernel
theorem dX8_frame_163 : decode cX8_frame 163 = .ok (.iconst 0, 1) := by decide +kernel
theorem dX8_frame_164 : decode cX8_frame 164 = .ok (.ireturn, 1) := by decide +kernel
theorem dX8_frame_165 : decode cX8_frame 165 = .ok (.aload_n 0, 1) := by decide +kernel
theorem dX8_frame_166 : decode cX8_frame 166 = .ok (.getfield 56, 3) := by decide +kernel
theorem dX8_frame_169 : decode cX8_frame 169 = .ok (.iload_n 1, 1) := by decide +kernel
theorem dX8_frame_170 : decode cX8_frame 170 = .ok (.iaload, 1) := by decide +kernel
theorem dX8_frame_171 : decode cX8_frame 171 = .ok (.iconst 1, 1) := by decide +kernel
theorem dX8_frame_172 : decode cX8_frame 172 = .ok (.if_icmp .ne 7, 3) := by decide +kernel
theorem dX8_frame_175 : decode cX8_frame 175 = .ok (.iconst (-1), 1) := by decide +kernel
theorem dX8_frame_176 : decode cX8_frame 176 = .ok (.goto 25, 3) := by decide +kernel
theorem dX8_frame_179 : decode cX8_frame 179 = .ok (.bipush 10, 2) := by decide +kernel
theorem dX8_frame_181 : decode cX8_frame 181 = .ok (.aload_n 0, 1) := by decide +kernel
theorem dX8_frame_182 : decode cX8_frame 182 = .ok (.getfield 74, 3) := by decide +kernel
theorem dX8_frame_185 : decode cX8_frame 185 = .ok (.iload_n 1, 1) := by decide +kernel
theorem dX8_frame_186 : decode cX8_frame 186 = .ok (.iaload, 1) := by decide +kernel
theorem dX8_frame_187 : decode cX8_frame 187 = .ok (.bipush 8, 2) := by decide +kernel
theorem dX8_frame_189 : decode cX8_frame 189 = .ok (.idiv, 1) := by decide +kernel
theorem dX8_frame_190 : decode cX8_frame 190 = .ok (.imul, 1) := by decide +kernel
theorem dX8_frame_191 : decode cX8_frame 191 = .ok (.aload_n 0, 1) := by decide +kernel
theorem dX8_frame_192 : decode cX8_frame 192 = .ok (.getfield 74, 3) := by decide +kernel
theorem dX8_frame_195 : decode cX8_frame 195 = .ok (.iload_n 1, 1) := by decide +kernel
theorem dX8_frame_196 : decode cX8_frame 196 = .ok (.iaload, 1) := by decide +kernel
theorem dX8_frame_197 : decode cX8_frame 197 = .ok (.bipush 8, 2) := by decide +kernel
theorem dX8_frame_199 : decode cX8_frame 199 = .ok (.irem, 1) := by decide +kernel
theorem dX8_frame_200 : decode cX8_frame 200 = .ok (.iadd, 1) := by decide +kernel
theorem dX8_frame_201 : decode cX8_frame 201 = .ok (.ireturn, 1) := by decide +kernel
theorem dX8_list_0 : decode cX8_list 0 = .ok (.aload_n 0, 1) := by decide +kernel
theorem dX8_list_1 : decode cX8_list 1 = .ok (.iload_n 1, 1) := by decide +kernel
theorem dX8_list_2 : decode cX8_list 2 = .ok (.iconst 0, 1) := by decide +kernel
theorem dX8_list_3 : decode cX8_list 3 = .ok (.iconst 1, 1) := by decide +kernel
theorem dX8_list_4 : decode cX8_list 4 = .ok (.invokestatic 126, 3) := by decide +kernel
theorem dX8_list_7 : decode cX8_list 7 = .ok (.ifCond .eq 11, 3) := by decide +kernel
theorem dX8_list_10 : decode cX8_list 10 = .ok (.iload_n 2, 1) := by decide +kernel
theorem dX8_list_11 : decode cX8_list 11 = .ok (.ifCond .lt 7, 3) := by decide +kernel
theorem dX8_list_14 : decode cX8_list 14 = .ok (.iconst 1, 1) := by decide +kernel
theorem dX8_list_15 : decode cX8_list 15 = .ok (.goto 4, 3) := by decide +kernel
theorem dX8_list_18 : decode cX8_list 18 = .ok (.iconst 0, 1) := by decide +kernel
theorem dX8_list_19 : decode cX8_list 19 = .ok (.invokevirtual 261, 3) := by decide +kernel
theorem dX8_list_22 : decode cX8_list 22 = .ok (.ifCond .ne 5, 3) := by decide +kernel
theorem dX8_list_25 : decode cX8_list 25 = .ok (.iconst 0, 1) := by decide +kernel
theorem dX8_list_26 : decode cX8_list 26 = .ok (.ireturn, 1) := by decide +kernel
theorem dX8_list_27 : decode cX8_list 27 = .ok (.iload_n 2, 1) := by decide +kernel
theorem dX8_list_28 : decode cX8_list 28 = .ok (.aload_n 0, 1) := by decide +kernel
theorem dX8_list_29 : decode cX8_list 29 = .ok (.getfield 80, 3) := by decide +kernel
theorem dX8_list_32 : decode cX8_list 32 = .ok (.iload_n 1, 1) := by decide +kernel
theorem dX8_list_33 : decode cX8_list 33 = .ok (.iaload, 1) := by decide +kernel
theorem dX8_list_34 : decode cX8_list 34 = .ok (.if_icmp .ge 17, 3) := by decide +kernel
theorem dX8_list_37 : decode cX8_list 37 = .ok (.aload_n 0, 1) := by decide +kernel
theorem dX8_list_38 : decode cX8_list 38 = .ok (.getfield 77, 3) := by decide +kernel
theorem dX8_list_41 : decode cX8_list 41 = .ok (.bipush 24, 2) := by decide +kernel
theorem dX8_list_43 : decode cX8_list 43 = .ok (.iload_n 1, 1) := by decide +kernel
theorem dX8_list_44 : decode cX8_list 44 = .ok (.imul, 1) := by decide +kernel
theorem dX8_list_45 : decode cX8_list 45 = .ok (.iload_n 2, 1) := by decide +kernel
theorem dX8_list_46 : decode cX8_list 46 = .ok (.iadd, 1) := by decide +kernel
theorem dX8_list_47 : decode cX8_list 47 = .ok (.iaload, 1) := by decide +kernel
theorem dX8_list_48 : decode cX8_list 48 = .ok (.goto 4, 3) := by decide +kernel
theorem dX8_list_51 : decode cX8_list 51 = .ok (.iconst (-1), 1) := by decide +kernel
theorem dX8_list_52 : decode cX8_list 52 = .ok (.ireturn, 1) := by decide +kernel
theorem dX8_inState_0 : decode cX8_inState 0 = .ok (.iconst 0, 1) := by decide +kernel
theorem dX8_inState_1 : decode cX8_inState 1 = .ok (.istore_n 3, 1) := by decide +kernel
theorem dX8_inState_2 : decode cX8_inState 2 = .ok (.bipush 32, 2) := by decide +kernel
theorem dX8_inState_4 : decode cX8_inState 4 = .ok (.iload_n 1, 1) := by decide +kernel
theorem dX8_inState_5 : decode cX8_inState 5 = .ok (.imul, 1) := by decide +kernel
theorem dX8_inState_6 : decode cX8_inState 6 = .ok (.istore 4, 2) := by decide +kernel
theorem dX8_inState_8 : decode cX8_inState 8 = .ok (.iload 4, 2) := by decide +kernel
theorem dX8_inState_10 : decode cX8_inState 10 = .ok (.bipush 32, 2) := by decide +kernel
theorem dX8_inState_12 : decode cX8_inState 12 = .ok (.iload_n 1, 1) := by decide +kernel
theorem dX8_inState_13 : decode cX8_inState 13 = .ok (.imul, 1) := by decide +kernel
theorem dX8_inState_14 : decode cX8_inState 14 = .ok (.bipush 32, 2) := by decide +kernel
theorem dX8_inState_16 : decode cX8_inState 16 = .ok (.iadd, 1) := by decide +kernel
theorem dX8_inState_17 : decode cX8_inState 17 = .ok (.if_icmp .ge 38, 3) := by decide +kernel
theorem dX8_inState_20 : decode cX8_inState 20 = .ok (.iload_n 3, 1) := by decide +kernel
theorem dX8_inState_21 : decode cX8_inState 21 = .ok (.aload_n 0, 1) := by decide +kernel
theorem dX8_inState_22 : decode cX8_inState 22 = .ok (.getfield 26, 3) := by decide +kernel
theorem dX8_inState_25 : decode cX8_inState 25 = .ok (.iload 4, 2) := by decide +kernel
theorem dX8_inState_27 : decode cX8_inState 27 = .ok (.iaload, 1) := by decide +kernel
theorem dX8_inState_28 : decode cX8_inState 28 = .ok (.ifCond .le 18, 3) := by decide +kernel
theorem dX8_inState_31 : decode cX8_inState 31 = .ok (.aload_n 0, 1) := by decide +kernel
theorem dX8_inState_32 : decode cX8_inState 32 = .ok (.getfield 41, 3) := by decide +kernel
theorem dX8_inState_35 : decode cX8_inState 35 = .ok (.iload 4, 2) := by decide +kernel
theorem dX8_inState_37 : decode cX8_inState 37 = .ok (.iaload, 1) := by decide +kernel
theorem dX8_inState_38 : decode cX8_inState 38 = .ok (.iload_n 2, 1) := by decide +kernel
theorem dX8_inState_39 : decode cX8_inState 39 = .ok (.if_icmp .ne 7, 3) := by decide +kernel
theorem dX8_inState_42 : decode cX8_inState 42 = .ok (.iconst 1, 1) := by decide +kernel
theorem dX8_inState_43 : decode cX8_inState 43 = .ok (.goto 4, 3) := by decide +kernel
theorem dX8_inState_46 : decode cX8_inState 46 = .ok (.iconst 0, 1) := by decide +kernel
theorem dX8_inState_47 : decode cX8_inState 47 = .ok (.iadd, 1) := by decide +kernel
theorem dX8_inState_48 : decode cX8_inState 48 = .ok (.istore_n 3, 1) := by decide +kernel
theorem dX8_inState_49 : decode cX8_inState 49 = .ok (.iinc 4 1, 3) := by decide +kernel
theorem dX8_inState_52 : decode cX8_inState 52 = .ok (.goto (-44), 3) := by decide +kernel
theorem dX8_inState_55 : decode cX8_inState 55 = .ok (.iload_n 3, 1) := by decide +kernel
theorem dX8_inState_56 : decode cX8_inState 56 = .ok (.ireturn, 1) := by decide +kernel
theorem dX8_about_0 : decode cX8_about 0 = .ok (.aload_n 0, 1) := by decide +kernel
theorem dX8_about_1 : decode cX8_about 1 = .ok (.aload_n 0, 1) := by decide +kernel
theorem dX8_about_2 : decode cX8_about 2 = .ok (.iload_n 1, 1) := by decide +kernel
theorem dX8_about_3 : decode cX8_about 3 = .ok (.invokevirtual 130, 3) := by decide +kernel
theorem dX8_about_6 : decode cX8_about 6 = .ok (.iload_n 2, 1) := by decide +kernel
theorem dX8_about_7 : decode cX8_about 7 = .ok (.iconst 0, 1) := by decide +kernel
theorem dX8_about_8 : decode cX8_about 8 = .ok (.iconst 5, 1) := by decide +kernel
theorem dX8_about_9 : decode cX8_about 9 = .ok (.invokestatic 126, 3) := by decide +kernel
theorem dX8_about_12 : decode cX8_about 12 = .ok (.invokevirtual 228, 3) := by decide +kernel
theorem dX8_about_15 : decode cX8_about 15 = .ok (.ifCond .ne 5, 3) := by decide +kernel
theorem dX8_about_18 : decode cX8_about 18 = .ok (.iconst 0, 1) := by decide +kernel
theorem dX8_about_19 : decode cX8_about 19 = .ok (.ireturn, 1) := by decide +kernel
theorem dX8_about_20 : decode cX8_about 20 = .ok (.iload_n 2, 1) := by decide +kernel
theorem dX8_about_21 : decode cX8_about 21 = .ok (.ifCond .ne 20, 3) := by decide +kernel
theorem dX8_about_24 : decode cX8_about 24 = .ok (.aload_n 0, 1) := by decide +kernel
theorem dX8_about_25 : decode cX8_about 25 = .ok (.getfield 7, 3) := by decide +kernel
theorem dX8_about_28 : decode cX8_about 28 = .ok (.iload_n 1, 1) := by decide +kernel
theorem dX8_about_29 : decode cX8_about 29 = .ok (.baload, 1) := by decide +kernel
theorem dX8_about_30 : decode cX8_about 30 = .ok (.ifCond .eq 7, 3) := by decide +kernel
theorem dX8_about_33 : decode cX8_about 33 = .ok (.iconst 1, 1) := by decide +kernel
theorem dX8_about_34 : decode cX8_about 34 = .ok (.goto 54, 3) := by decide +kernel
theorem dX8_about_37 : decode cX8_about 37 = .ok (.iconst 0, 1) := by decide +kernel
theorem dX8_about_38 : decode cX8_about 38 = .ok (.goto 50, 3) := by decide +kernel
theorem dX8_about_41 : decode cX8_about 41 = .ok (.iload_n 2, 1) := by decide +kernel
theorem dX8_about_42 : decode cX8_about 42 = .ok (.iconst 1, 1) := by decide +kernel
theorem dX8_about_43 : decode cX8_about 43 = .ok (.if_icmp .ne 11, 3) := by decide +kernel
theorem dX8_about_46 : decode cX8_about 46 = .ok (.aload_n 0, 1) := by decide +kernel
theorem dX8_about_47 : decode cX8_about 47 = .ok (.iload_n 1, 1) := by decide +kernel
theorem dX8_about_48 : decode cX8_about 48 = .ok (.invokevirtual 252, 3) := by decide +kernel
theorem dX8_about_51 : decode cX8_about 51 = .ok (.goto 37, 3) := by decide +kernel
theorem dX8_about_54 : decode cX8_about 54 = .ok (.iload_n 2, 1) := by decide +kernel
theorem dX8_about_55 : decode cX8_about 55 = .ok (.iconst 4, 1) := by decide +kernel
theorem dX8_about_56 : decode cX8_about 56 = .ok (.if_icmp .ge 14, 3) := by decide +kernel
theorem dX8_about_59 : decode cX8_about 59 = .ok (.aload_n 0, 1) := by decide +kernel
theorem dX8_about_60 : decode cX8_about 60 = .ok (.iload_n 1, 1) := by decide +kernel
theorem dX8_about_61 : decode cX8_about 61 = .ok (.iload_n 2, 1) := by decide +kernel
theorem dX8_about_62 : decode cX8_about 62 = .ok (.iconst 1, 1) := by decide +kernel
theorem dX8_about_63 : decode cX8_about 63 = .ok (.isub, 1) := by decide +kernel
theorem dX8_about_64 : decode cX8_about 64 = .ok (.invokevirtual 323, 3) := by decide +kernel
theorem dX8_about_67 : decode cX8_about 67 = .ok (.goto 21, 3) := by decide +kernel
theorem dX8_about_70 : decode cX8_about 70 = .ok (.iload_n 2, 1) := by decide +kernel
theorem dX8_about_71 : decode cX8_about 71 = .ok (.iconst 4, 1) := by decide +kernel
theorem dX8_about_72 : decode cX8_about 72 = .ok (.if_icmp .ne 11, 3) := by decide +kernel
theorem dX8_about_75 : decode cX8_about 75 = .ok (.aload_n 0, 1) := by decide +kernel
theorem dX8_about_76 : decode cX8_about 76 = .ok (.iload_n 1, 1) := by decide +kernel
theorem dX8_about_77 : decode cX8_about 77 = .ok (.invokevirtual 302, 3) := by decide +kernel
theorem dX8_about_80 : decode cX8_about 80 = .ok (.goto 8, 3) := by decide +kernel
theorem dX8_about_83 : decode cX8_about 83 = .ok (.aload_n 0, 1) := by decide +kernel
theorem dX8_about_84 : decode cX8_about 84 = .ok (.iload_n 1, 1) := by decide +kernel
theorem dX8_about_85 : decode cX8_about 85 = .ok (.invokevirtual 203, 3) := by decide +kernel
theorem dX8_about_88 : decode cX8_about 88 = .ok (.ireturn, 1) := by decide +kernel
theorem dX8_count_0 : decode cX8_count 0 = .ok (.aload_n 0, 1) := by decide +kernel
theorem dX8_count_1 : decode cX8_count 1 = .ok (.iload_n 1, 1) := by decide +kernel
theorem dX8_count_2 : decode cX8_count 2 = .ok (.iconst 0, 1) := by decide +kernel
theorem dX8_count_3 : decode cX8_count 3 = .ok (.bipush 10, 2) := by decide +kernel
theorem dX8_count_5 : decode cX8_count 5 = .ok (.invokestatic 126, 3) := by decide +kernel
theorem dX8_count_8 : decode cX8_count 8 = .ok (.invokevirtual 261, 3) := by decide +kernel
theorem dX8_count_11 : decode cX8_count 11 = .ok (.ifCond .ne 5, 3) := by decide +kernel
theorem dX8_count_14 : decode cX8_count 14 = .ok (.iconst 0, 1) := by decide +kernel
theorem dX8_count_15 : decode cX8_count 15 = .ok (.ireturn, 1) := by decide +kernel
theorem dX8_count_16 : decode cX8_count 16 = .ok (.iload_n 1, 1) := by decide +kernel
theorem dX8_count_17 : decode cX8_count 17 = .ok (.bipush 8, 2) := by decide +kernel
theorem dX8_count_19 : decode cX8_count 19 = .ok (.if_icmp .ge 10, 3) := by decide +kernel
theorem dX8_count_22 : decode cX8_count 22 = .ok (.aload_n 0, 1) := by decide +kernel
theorem dX8_count_23 : decode cX8_count 23 = .ok (.getfield 113, 3) := by decide +kernel
theorem dX8_count_26 : decode cX8_count 26 = .ok (.iload_n 1, 1) := by decide +kernel
theorem dX8_count_27 : decode cX8_count 27 = .ok (.iaload, 1) := by decide +kernel
theorem dX8_count_28 : decode cX8_count 28 = .ok (.ireturn, 1) := by decide +kernel
theorem dX8_count_29 : decode cX8_count 29 = .ok (.iconst 0, 1) := by decide +kernel
theorem dX8_count_30 : decode cX8_count 30 = .ok (.istore_n 2, 1) := by decide +kernel
theorem dX8_count_31 : decode cX8_count 31 = .ok (.iconst 0, 1) := by decide +kernel
theorem dX8_count_32 : decode cX8_count 32 = .ok (.istore_n 3, 1) := by decide +kernel
theorem dX8_count_33 : decode cX8_count 33 = .ok (.iload_n 3, 1) := by decide +kernel
theorem dX8_count_34 : decode cX8_count 34 = .ok (.bipush 18, 2) := by decide +kernel
theorem dX8_count_36 : decode cX8_count 36 = .ok (.if_icmp .ge 32, 3) := by decide +kernel
theorem dX8_count_39 : decode cX8_count 39 = .ok (.iload_n 2, 1) := by decide +kernel
theorem dX8_count_40 : decode cX8_count 40 = .ok (.aload_n 0, 1) := by decide +kernel
theorem dX8_count_41 : decode cX8_count 41 = .ok (.getfield 89, 3) := by decide +kernel
theorem dX8_count_44 : decode cX8_count 44 = .ok (.iload_n 3, 1) := by decide +kernel
theorem dX8_count_45 : decode cX8_count 45 = .ok (.iaload, 1) := by decide +kernel
theorem dX8_count_46 : decode cX8_count 46 = .ok (.iconst 0, 1) := by decide +kernel
theorem dX8_count_47 : decode cX8_count 47 = .ok (.bipush 9, 2) := by decide +kernel
theorem dX8_count_49 : decode cX8_count 49 = .ok (.invokestatic 126, 3) := by decide +kernel
theorem dX8_count_52 : decode cX8_count 52 = .ok (.ifCond .eq 7, 3) := by decide +kernel
theorem dX8_count_55 : decode cX8_count 55 = .ok (.iconst 1, 1) := by decide +kernel
theorem dX8_count_56 : decode cX8_count 56 = .ok (.goto 4, 3) := by decide +kernel
theorem dX8_count_59 : decode cX8_count 59 = .ok (.iconst 0, 1) := by decide +kernel
theorem dX8_count_60 : decode cX8_count 60 = .ok (.iadd, 1) := by decide +kernel
theorem dX8_count_61 : decode cX8_count 61 = .ok (.istore_n 2, 1) := by decide +kernel
theorem dX8_count_62 : decode cX8_count 62 = .ok (.iinc 3 1, 3) := by decide +kernel
theorem dX8_count_65 : decode cX8_count 65 = .ok (.goto (-32), 3) := by decide +kernel
theorem dX8_count_68 : decode cX8_count 68 = .ok (.iconst 0, 1) := by decide +kernel
theorem dX8_count_69 : decode cX8_count 69 = .ok (.istore_n 3, 1) := by decide +kernel
theorem dX8_count_70 : decode cX8_count 70 = .ok (.iconst 0, 1) := by decide +kernel
theorem dX8_count_71 : decode cX8_count 71 = .ok (.istore 4, 2) := by decide +kernel
theorem dX8_count_73 : decode cX8_count 73 = .ok (.iload 4, 2) := by decide +kernel
theorem dX8_count_75 : decode cX8_count 75 = .ok (.bipush 8, 2) := by decide +kernel
theorem dX8_count_77 : decode cX8_count 77 = .ok (.if_icmp .ge 43, 3) := by decide +kernel
theorem dX8_count_80 : decode cX8_count 80 = .ok (.iload_n 3, 1) := by decide +kernel
theorem dX8_count_81 : decode cX8_count 81 = .ok (.iload 4, 2) := by decide +kernel
theorem dX8_count_83 : decode cX8_count 83 = .ok (.iconst 4, 1) := by decide +kernel
theorem dX8_count_84 : decode cX8_count 84 = .ok (.irem, 1) := by decide +kernel
theorem dX8_count_85 : decode cX8_count 85 = .ok (.aload_n 0, 1) := by decide +kernel
theorem dX8_count_86 : decode cX8_count 86 = .ok (.getfield 98, 3) := by decide +kernel
theorem dX8_count_89 : decode cX8_count 89 = .ok (.iload 4, 2) := by decide +kernel
theorem dX8_count_91 : decode cX8_count 91 = .ok (.iconst 4, 1) := by decide +kernel
theorem dX8_count_92 : decode cX8_count 92 = .ok (.idiv, 1) := by decide +kernel
theorem dX8_count_93 : decode cX8_count 93 = .ok (.iaload, 1) := by decide +kernel
theorem dX8_count_94 : decode cX8_count 94 = .ok (.if_icmp .ge 17, 3) := by decide +kernel
theorem dX8_count_97 : decode cX8_count 97 = .ok (.aload_n 0, 1) := by decide +kernel
theorem dX8_count_98 : decode cX8_count 98 = .ok (.getfield 110, 3) := by decide +kernel
theorem dX8_count_101 : decode cX8_count 101 = .ok (.iload 4, 2) := by decide +kernel
theorem dX8_count_103 : decode cX8_count 103 = .ok (.baload, 1) := by decide +kernel
theorem dX8_count_104 : decode cX8_count 104 = .ok (.ifCond .eq 7, 3) := by decide +kernel
theorem dX8_count_107 : decode cX8_count 107 = .ok (.iconst 1, 1) := by decide +kernel
theorem dX8_count_108 : decode cX8_count 108 = .ok (.goto 4, 3) := by decide +kernel
theorem dX8_count_111 : decode cX8_count 111 = .ok (.iconst 0, 1) := by decide +kernel
theorem dX8_count_112 : decode cX8_count 112 = .ok (.iadd, 1) := by decide +kernel
theorem dX8_count_113 : decode cX8_count 113 = .ok (.istore_n 3, 1) := by decide +kernel
theorem dX8_count_114 : decode cX8_count 114 = .ok (.iinc 4 1, 3) := by decide +kernel
theorem dX8_count_117 : decode cX8_count 117 = .ok (.goto (-44), 3) := by decide +kernel
theorem dX8_count_120 : decode cX8_count 120 = .ok (.iload_n 1, 1) := by decide +kernel
theorem dX8_count_121 : decode cX8_count 121 = .ok (.bipush 8, 2) := by decide +kernel
theorem dX8_count_123 : decode cX8_count 123 = .ok (.if_icmp .ne 10, 3) := by decide +kernel
theorem dX8_count_126 : decode cX8_count 126 = .ok (.aload_n 0, 1) := by decide +kernel
theorem dX8_count_127 : decode cX8_count 127 = .ok (.invokevirtual 168, 3) := by decide +kernel
theorem dX8_count_130 : decode cX8_count 130 = .ok (.goto 14, 3) := by decide +kernel
theorem dX8_count_133 : decode cX8_count 133 = .ok (.iload_n 1, 1) := by decide +kernel
theorem dX8_count_134 : decode cX8_count 134 = .ok (.bipush 9, 2) := by decide +kernel
theorem dX8_count_136 : decode cX8_count 136 = .ok (.if_icmp .ne 7, 3) := by decide +kernel
theorem dX8_count_139 : decode cX8_count 139 = .ok (.iload_n 2, 1) := by decide +kernel
theorem dX8_count_140 : decode cX8_count 140 = .ok (.goto 4, 3) := by decide +kernel
theorem dX8_count_143 : decode cX8_count 143 = .ok (.iload_n 3, 1) := by decide +kernel
theorem dX8_count_144 : decode cX8_count 144 = .ok (.ireturn, 1) := by decide +kernel
