theorem dX9_init_0 : decode cX9_init 0 = .ok (.aload_n 0, 1) := by decide +kernel
theorem dX9_init_1 : decode cX9_init 1 = .ok (.invokespecial 3, 3) := by decide +kernel
theorem dX9_init_4 : decode cX9_init 4 = .ok (.aload_n 0, 1) := by decide +kernel
theorem dX9_init_5 : decode cX9_init 5 = .ok (.bipush 10, 2) := by decide +kernel
theorem dX9_init_7 : decode cX9_init 7 = .ok (.newarray .int, 2) := by decide +kernel
theorem dX9_init_9 : decode cX9_init 9 = .ok (.putfield 9, 3) := by decide +kernel
theorem dX9_init_12 : decode cX9_init 12 = .ok (.aload_n 0, 1) := by decide +kernel
theorem dX9_init_13 : decode cX9_init 13 = .ok (.bipush 80, 2) := by decide +kernel
theorem dX9_init_15 : decode cX9_init 15 = .ok (.newarray .int, 2) := by decide +kernel
theorem dX9_init_17 : decode cX9_init 17 = .ok (.putfield 13, 3) := by decide +kernel
theorem dX9_init_20 : decode cX9_init 20 = .ok (.aload_n 0, 1) := by decide +kernel
theorem dX9_init_21 : decode cX9_init 21 = .ok (.bipush 80, 2) := by decide +kernel
theorem dX9_init_23 : decode cX9_init 23 = .ok (.newarray .int, 2) := by decide +kernel
theorem dX9_init_25 : decode cX9_init 25 = .ok (.putfield 16, 3) := by decide +kernel
theorem dX9_init_28 : decode cX9_init 28 = .ok (.aload_n 0, 1) := by decide +kernel
theorem dX9_init_29 : decode cX9_init 29 = .ok (.bipush 80, 2) := by decide +kernel
theorem dX9_init_31 : decode cX9_init 31 = .ok (.newarray .int, 2) := by decide +kernel
theorem dX9_init_33 : decode cX9_init 33 = .ok (.putfield 19, 3) := by decide +kernel
theorem dX9_init_36 : decode cX9_init 36 = .ok (.aload_n 0, 1) := by decide +kernel
theorem dX9_init_37 : decode cX9_init 37 = .ok (.bipush 80, 2) := by decide +kernel
theorem dX9_init_39 : decode cX9_init 39 = .ok (.newarray .int, 2) := by decide +kernel
theorem dX9_init_41 : decode cX9_init 41 = .ok (.putfield 22, 3) := by decide +kernel
theorem dX9_init_44 : decode cX9_init 44 = .ok (.aload_n 0, 1) := by decide +kernel
theorem dX9_init_45 : decode cX9_init 45 = .ok (.bipush 9, 2) := by decide +kernel
theorem dX9_init_47 : decode cX9_init 47 = .ok (.putfield 25, 3) := by decide +kernel
theorem dX9_init_50 : decode cX9_init 50 = .ok (.aload_n 0, 1) := by decide +kernel
theorem dX9_init_51 : decode cX9_init 51 = .ok (.bipush 80, 2) := by decide +kernel
theorem dX9_init_53 : decode cX9_init 53 = .ok (.newarray .boolean, 2) := by decide +kernel
theorem dX9_init_55 : decode cX9_init 55 = .ok (.putfield 29, 3) := by decide +kernel
theorem dX9_init_58 : decode cX9_init 58 = .ok (.aload_n 0, 1) := by decide +kernel
theorem dX9_init_59 : decode cX9_init 59 = .ok (.sipush 720, 3) := by decide +kernel
theorem dX9_init_62 : decode cX9_init 62 = .ok (.newarray .long, 2) := by decide +kernel
theorem dX9_init_64 : decode cX9_init 64 = .ok (.putfield 33, 3) := by decide +kernel
theorem dX9_init_67 : decode cX9_init 67 = .ok (.aload_n 0, 1) := by decide +kernel
theorem dX9_init_68 : decode cX9_init 68 = .ok (.sipush 720, 3) := by decide +kernel
theorem dX9_init_71 : decode cX9_init 71 = .ok (.newarray .int, 2) := by decide +kernel
theorem dX9_init_73 : decode cX9_init 73 = .ok (.putfield 37, 3) := by decide +kernel
theorem dX9_init_76 : decode cX9_init 76 = .ok (.aload_n 0, 1) := by decide +kernel
theorem dX9_init_77 : decode cX9_init 77 = .ok (.bipush 6, 2) := by decide +kernel
theorem dX9_init_79 : decode cX9_init 79 = .ok (.newarray .int, 2) := by decide +kernel
theorem dX9_init_81 : decode cX9_init 81 = .ok (.putfield 40, 3) := by decide +kernel
theorem dX9_init_84 : decode cX9_init 84 = .ok (.aload_n 0, 1) := by decide +kernel
theorem dX9_init_85 : decode cX9_init 85 = .ok (.bipush 6, 2) := by decide +kernel
theorem dX9_init_87 : decode cX9_init 87 = .ok (.newarray .long, 2) := by decide +kernel
theorem dX9_init_89 : decode cX9_init 89 = .ok (.putfield 43, 3) := by decide +kernel
theorem dX9_init_92 : decode cX9_init 92 = .ok (.aload_n 0, 1) := by decide +kernel
theorem dX9_init_93 : decode cX9_init 93 = .ok (.bipush 6, 2) := by decide +kernel
theorem dX9_init_95 : decode cX9_init 95 = .ok (.newarray .long, 2) := by decide +kernel
theorem dX9_init_97 : decode cX9_init 97 = .ok (.putfield 46, 3) := by decide +kernel
theorem dX9_init_100 : decode cX9_init 100 = .ok (.aload_n 0, 1) := by decide +kernel
theorem dX9_init_101 : decode cX9_init 101 = .ok (.bipush 6, 2) := by decide +kernel
theorem dX9_init_103 : decode cX9_init 103 = .ok (.newarray .long, 2) := by decide +kernel
theorem dX9_init_105 : decode cX9_init 105 = .ok (.putfield 49, 3) := by decide +kernel
theorem dX9_init_108 : decode cX9_init 108 = .ok (.aload_n 0, 1) := by decide +kernel
theorem dX9_init_109 : decode cX9_init 109 = .ok (.sipush 576, 3) := by decide +kernel
theorem dX9_init_112 : decode cX9_init 112 = .ok (.newarray .long, 2) := by decide +kernel
theorem dX9_init_114 : decode cX9_init 114 = .ok (.putfield 52, 3) := by decide +kernel
theorem dX9_init_117 : decode cX9_init 117 = .ok (.aload_n 0, 1) := by decide +kernel
theorem dX9_init_118 : decode cX9_init 118 = .ok (.bipush 48, 2) := by decide +kernel
theorem dX9_init_120 : decode cX9_init 120 = .ok (.newarray .boolean, 2) := by decide +kernel
theorem dX9_init_122 : decode cX9_init 122 = .ok (.putfield 55, 3) := by decide +kernel
theorem dX9_init_125 : decode cX9_init 125 = .ok (.aload_n 0, 1) := by decide +kernel
theorem dX9_init_126 : decode cX9_init 126 = .ok (.sipush 576, 3) := by decide +kernel
theorem dX9_init_129 : decode cX9_init 129 = .ok (.newarray .long, 2) := by decide +kernel
theorem dX9_init_131 : decode cX9_init 131 = .ok (.putfield 58, 3) := by decide +kernel
theorem dX9_init_134 : decode cX9_init 134 = .ok (.aload_n 0, 1) := by decide +kernel
theorem dX9_init_135 : decode cX9_init 135 = .ok (.bipush 96, 2) := by decide +kernel
theorem dX9_init_137 : decode cX9_init 137 = .ok (.newarray .long, 2) := by decide +kernel
theorem dX9_init_139 : decode cX9_init 139 = .ok (.putfield 61, 3) := by decide +kernel
theorem dX9_init_142 : decode cX9_init 142 = .ok (.aload_n 0, 1) := by decide +kernel
theorem dX9_init_143 : decode cX9_init 143 = .ok (.bipush 96, 2) := by decide +kernel
theorem dX9_init_145 : decode cX9_init 145 = .ok (.newarray .boolean, 2) := by decide +kernel
theorem dX9_init_147 : decode cX9_init 147 = .ok (.putfield 64, 3) := by decide +kernel
theorem dX9_init_150 : decode cX9_init 150 = .ok (.aload_n 0, 1) := by decide +kernel
theorem dX9_init_151 : decode cX9_init 151 = .ok (.bipush 48, 2) := by decide +kernel
theorem dX9_init_153 : decode cX9_init 153 = .ok (.newarray .int, 2) := by decide +kernel
theorem dX9_init_155 : decode cX9_init 155 = .ok (.putfield 67, 3) := by decide +kernel
theorem dX9_init_158 : decode cX9_init 158 = .ok (.aload_n 0, 1) := by decide +kernel
theorem dX9_init_159 : decode cX9_init 159 = .ok (.sipush 192, 3) := by decide +kernel
theorem dX9_init_162 : decode cX9_init 162 = .ok (.newarray .int, 2) := by decide +kernel
theorem dX9_init_164 : decode cX9_init 164 = .ok (.putfield 70, 3) := by decide +kernel
theorem dX9_init_167 : decode cX9_init 167 = .ok (.aload_n 0, 1) := by decide +kernel
theorem dX9_init_168 : decode cX9_init 168 = .ok (.iconst 2, 1) := by decide +kernel
theorem dX9_init_169 : decode cX9_init 169 = .ok (.newarray .int, 2) := by decide +kernel
theorem dX9_init_171 : decode cX9_init 171 = .ok (.putfield 73, 3) := by decide +kernel
theorem dX9_init_174 : decode cX9_init 174 = .ok (.aload_n 0, 1) := by decide +kernel
theorem dX9_init_175 : decode cX9_init 175 = .ok (.sipush 432, 3) := by decide +kernel
theorem dX9_init_178 : decode cX9_init 178 = .ok (.newarray .long, 2) := by decide +kernel
theorem dX9_init_180 : decode cX9_init 180 = .ok (.putfield 76, 3) := by decide +kernel
theorem dX9_init_183 : decode cX9_init 183 = .ok (.aload_n 0, 1) := by decide +kernel
theorem dX9_init_184 : decode cX9_init 184 = .ok (.bipush 72, 2) := by decide +kernel
theorem dX9_init_186 : decode cX9_init 186 = .ok (.newarray .boolean, 2) := by decide +kernel
theorem dX9_init_188 : decode cX9_init 188 = .ok (.putfield 79, 3) := by decide +kernel
theorem dX9_init_191 : decode cX9_init 191 = .ok (.aload_n 0, 1) := by decide +kernel
theorem dX9_init_192 : decode cX9_init 192 = .ok (.bipush 72, 2) := by decide +kernel
theorem dX9_init_194 : decode cX9_init 194 = .ok (.newarray .int, 2) := by decide +kernel
theorem dX9_init_196 : decode cX9_init 196 = .ok (.putfield 82, 3) := by decide +kernel
theorem dX9_init_199 : decode cX9_init 199 = .ok (.aload_n 0, 1) := by decide +kernel
theorem dX9_init_200 : decode cX9_init 200 = .ok (.iconst 4, 1) := by decide +kernel
theorem dX9_init_201 : decode cX9_init 201 = .ok (.newarray .int, 2) := by decide +kernel
theorem dX9_init_203 : decode cX9_init 203 = .ok (.putfield 85, 3) := by decide +kernel
theorem dX9_init_206 : decode cX9_init 206 = .ok (.aload_n 0, 1) := by decide +kernel
theorem dX9_init_207 : decode cX9_init 207 = .ok (.sipush 240, 3) := by decide +kernel
theorem dX9_init_210 : decode cX9_init 210 = .ok (.newarray .int, 2) := by decide +kernel
theorem dX9_init_212 : decode cX9_init 212 = .ok (.putfield 88, 3) := by decide +kernel
theorem dX9_init_215 : decode cX9_init 215 = .ok (.aload_n 0, 1) := by decide +kernel
theorem dX9_init_216 : decode cX9_init 216 = .ok (.iconst 4, 1) := by decide +kernel
theorem dX9_init_217 : decode cX9_init 217 = .ok (.newarray .boolean, 2) := by decide +kernel
theorem dX9_init_219 : decode cX9_init 219 = .ok (.putfield 91, 3) := by decide +kernel
theorem dX9_init_222 : decode cX9_init 222 = .ok (.aload_n 0, 1) := by decide +kernel
theorem dX9_init_223 : decode cX9_init 223 = .ok (.iconst 4, 1) := by decide +kernel
theorem dX9_init_224 : decode cX9_init 224 = .ok (.newarray .int, 2) := by decide +kernel
theorem dX9_init_226 : decode cX9_init 226 = .ok (.putfield 94, 3) := by decide +kernel
theorem dX9_init_229 : decode cX9_init 229 = .ok (.aload_n 0, 1) := by decide +kernel
theorem dX9_init_230 : decode cX9_init 230 = .ok (.iconst 4, 1) := by decide +kernel
theorem dX9_init_231 : decode cX9_init 231 = .ok (.newarray .int, 2) := by decide +kernel
theorem dX9_init_233 : decode cX9_init 233 = .ok (.putfield 97, 3) := by decide +kernel
theorem dX9_init_236 : decode cX9_init 236 = .ok (.aload_n 0, 1) := by decide +kernel
theorem dX9_init_237 : decode cX9_init 237 = .ok (.sipush 240, 3) := by decide +kernel
theorem dX9_init_240 : decode cX9_init 240 = .ok (.newarray .int, 2) := by decide +kernel
theorem dX9_init_242 : decode cX9_init 242 = .ok (.putfield 100, 3) := by decide +kernel
theorem dX9_init_245 : decode cX9_init 245 = .ok (.aload_n 0, 1) := by decide +kernel
theorem dX9_init_246 : decode cX9_init 246 = .ok (.bipush 60, 2) := by decide +kernel
theorem dX9_init_248 : decode cX9_init 248 = .ok (.newarray .int, 2) := by decide +kernel
theorem dX9_init_250 : decode cX9_init 250 = .ok (.putfield 103, 3) := by decide +kernel
theorem dX9_init_253 : decode cX9_init 253 = .ok (.iconst 0, 1) := by decide +kernel
theorem dX9_init_254 : decode cX9_init 254 = .ok (.istore_n 1, 1) := by decide +kernel
theorem dX9_init_255 : decode cX9_init 255 = .ok (.iload_n 1, 1) := by decide +kernel
theorem dX9_init_256 : decode cX9_init 256 = .ok (.bipush 10, 2) := by decide +kernel
theorem dX9_init_258 : decode cX9_init 258 = .ok (.if_icmp .ge 16, 3) := by decide +kernel
theorem dX9_init_261 : decode cX9_init 261 = .ok (.aload_n 0, 1) := by decide +kernel
theorem dX9_init_262 : decode cX9_init 262 = .ok (.getfield 9, 3) := by decide +kernel
theorem dX9_init_265 : decode cX9_init 265 = .ok (.iload_n 1, 1) := by decide +kernel
theorem dX9_init_266 : decode cX9_init 266 = .ok (.iconst 1, 1) := by decide +kernel
theorem dX9_init_267 : decode cX9_init 267 = .ok (.iastore, 1) := by decide +kernel
theorem dX9_init_268 : decode cX9_init 268 = .ok (.iinc 1 1, 3) := by decide +kernel
theorem dX9_init_271 : decode cX9_init 271 = .ok (.goto (-16), 3) := by decide +kernel
theorem dX9_init_274 : decode cX9_init 274 = .ok (.iconst 0, 1) := by decide +kernel
theorem dX9_init_275 : decode cX9_init 275 = .ok (.istore_n 1, 1) := by decide +kernel
theorem dX9_init_276 : decode cX9_init 276 = .ok (.iload_n 1, 1) := by decide +kernel
theorem dX9_init_277 : decode cX9_init 277 = .ok (.bipush 6, 2) := by decide +kernel
theorem dX9_init_279 : decode cX9_init 279 = .ok (.if_icmp .ge 25, 3) := by decide +kernel
theorem dX9_init_282 : decode cX9_init 282 = .ok (.aload_n 0, 1) := by decide +kernel
theorem dX9_init_283 : decode cX9_init 283 = .ok (.getfield 40, 3) := by decide +kernel
theorem dX9_init_286 : decode cX9_init 286 = .ok (.iload_n 1, 1) := by decide +kernel
theorem dX9_init_287 : decode cX9_init 287 = .ok (.iload_n 1, 1) := by decide +kernel
theorem dX9_init_288 : decode cX9_init 288 = .ok (.iconst 3, 1) := by decide +kernel
theorem dX9_init_289 : decode cX9_init 289 = .ok (.if_icmp .ge 7, 3) := by decide +kernel
theorem dX9_init_292 : decode cX9_init 292 = .ok (.iconst 1, 1) := by decide +kernel
theorem dX9_init_293 : decode cX9_init 293 = .ok (.goto 4, 3) := by decide +kernel
theorem dX9_init_296 : decode cX9_init 296 = .ok (.iconst 0, 1) := by decide +kernel
theorem dX9_init_297 : decode cX9_init 297 = .ok (.iastore, 1) := by decide +kernel
theorem dX9_init_298 : decode cX9_init 298 = .ok (.iinc 1 1, 3) := by decide +kernel
theorem dX9_init_301 : decode cX9_init 301 = .ok (.goto (-25), 3) := by decide +kernel
theorem dX9_init_304 : decode cX9_init 304 = .ok (.iconst 0, 1) := by decide +kernel
theorem dX9_init_305 : decode cX9_init 305 = .ok (.istore_n 1, 1) := by decide +kernel
theorem dX9_init_306 : decode cX9_init 306 = .ok (.iload_n 1, 1) := by decide +kernel
theorem dX9_init_307 : decode cX9_init 307 = .ok (.bipush 48, 2) := by decide +kernel
theorem dX9_init_309 : decode cX9_init 309 = .ok (.if_icmp .ge 17, 3) := by decide +kernel
theorem dX9_init_312 : decode cX9_init 312 = .ok (.aload_n 0, 1) := by decide +kernel
theorem dX9_init_313 : decode cX9_init 313 = .ok (.getfield 67, 3) := by decide +kernel
theorem dX9_init_316 : decode cX9_init 316 = .ok (.iload_n 1, 1) := by decide +kernel
theorem dX9_init_317 : decode cX9_init 317 = .ok (.bipush 100, 2) := by decide +kernel
theorem dX9_init_319 : decode cX9_init 319 = .ok (.iastore, 1) := by decide +kernel
theorem dX9_init_320 : decode cX9_init 320 = .ok (.iinc 1 1, 3) := by decide +kernel
theorem dX9_init_323 : decode cX9_init 323 = .ok (.goto (-17), 3) := by decide +kernel
theorem dX9_init_326 : decode cX9_init 326 = .ok (.iconst 0, 1) := by decide +kernel
theorem dX9_init_327 : decode cX9_init 327 = .ok (.istore_n 1, 1) := by decide +kernel
theorem dX9_init_328 : decode cX9_init 328 = .ok (.iload_n 1, 1) := by decide +kernel
theorem dX9_init_329 : decode cX9_init 329 = .ok (.sipush 192, 3) := by decide +kernel
theorem dX9_init_332 : decode cX9_init 332 = .ok (.if_icmp .ge 16, 3) := by decide +kernel
theorem dX9_init_335 : decode cX9_init 335 = .ok (.aload_n 0, 1) := by decide +kernel
theorem dX9_init_336 : decode cX9_init 336 = .ok (.getfield 70, 3) := by decide +kernel
theorem dX9_init_339 : decode cX9_init 339 = .ok (.iload_n 1, 1) := by decide +kernel
theorem dX9_init_340 : decode cX9_init 340 = .ok (.iconst (-1), 1) := by decide +kernel
theorem dX9_init_341 : decode cX9_init 341 = .ok (.iastore, 1) := by decide +kernel
theorem dX9_init_342 : decode cX9_init 342 = .ok (.iinc 1 1, 3) := by decide +kernel
theorem dX9_init_345 : decode cX9_init 345 = .ok (.goto (-17), 3) := by decide +kernel
theorem dX9_init_348 : decode cX9_init 348 = .ok (.aload_n 0, 1) := by decide +kernel
theorem dX9_init_349 : decode cX9_init 349 = .ok (.getfield 73, 3) := by decide +kernel
theorem dX9_init_352 : decode cX9_init 352 = .ok (.iconst 0, 1) := by decide +kernel
theorem dX9_init_353 : decode cX9_init 353 = .ok (.iconst 1, 1) := by decide +kernel
theorem dX9_init_354 : decode cX9_init 354 = .ok (.iastore, 1) := by decide +kernel
theorem dX9_init_355 : decode cX9_init 355 = .ok (.aload_n 0, 1) := by decide +kernel
theorem dX9_init_356 : decode cX9_init 356 = .ok (.getfield 73, 3) := by decide +kernel
theorem dX9_init_359 : decode cX9_init 359 = .ok (.iconst 1, 1) := by decide +kernel
theorem dX9_init_360 : decode cX9_init 360 = .ok (.iconst 1, 1) := by decide +kernel
theorem dX9_init_361 : decode cX9_init 361 = .ok (.iastore, 1) := by decide +kernel
theorem dX9_init_362 : decode cX9_init 362 = .ok (.return_, 1) := by decide +kernel
theorem dX9_in_0 : decode cX9_in 0 = .ok (.lload_n 0, 1) := by decide +kernel
theorem dX9_in_1 : decode cX9_in 1 = .ok (.lload_n 2, 1) := by decide +kernel
theorem dX9_in_2 : decode cX9_in 2 = .ok (.lcmp, 1) := by decide +kernel
theorem dX9_in_3 : decode cX9_in 3 = .ok (.ifCond .lt 14, 3) := by decide +kernel
theorem dX9_in_6 : decode cX9_in 6 = .ok (.lload_n 0, 1) := by decide +kernel
theorem dX9_in_7 : decode cX9_in 7 = .ok (.lload 4, 2) := by decide +kernel
theorem dX9_in_9 : decode cX9_in 9 = .ok (.lcmp, 1) := by decide +kernel
theorem dX9_in_10 : decode cX9_in 10 = .ok (.ifCond .gt 7, 3) := by decide +kernel
theorem dX9_in_13 : decode cX9_in 13 = .ok (.iconst 1, 1) := by decide +kernel
theorem dX9_in_14 : decode cX9_in 14 = .ok (.goto 4, 3) := by decide +kernel
theorem dX9_in_17 : decode cX9_in 17 = .ok (.iconst 0, 1) := by decide +kernel
theorem dX9_in_18 : decode cX9_in 18 = .ok (.ireturn, 1) := by decide +kernel
theorem dX9_floor_0 : decode cX9_floor 0 = .ok (.lload_n 0, 1) := by decide +kernel
theorem dX9_floor_1 : decode cX9_floor 1 = .ok (.lload_n 2, 1) := by decide +kernel
theorem dX9_floor_2 : decode cX9_floor 2 = .ok (.ldiv, 1) := by decide +kernel
theorem dX9_floor_3 : decode cX9_floor 3 = .ok (.lstore 4, 2) := by decide +kernel
theorem dX9_floor_5 : decode cX9_floor 5 = .ok (.lload_n 0, 1) := by decide +kernel
theorem dX9_floor_6 : decode cX9_floor 6 = .ok (.lload_n 2, 1) := by decide +kernel
theorem dX9_floor_7 : decode cX9_floor 7 = .ok (.lrem, 1) := by decide +kernel
theorem dX9_floor_8 : decode cX9_floor 8 = .ok (.lconst 0, 1) := by decide +kernel
theorem dX9_floor_9 : decode cX9_floor 9 = .ok (.lcmp, 1) := by decide +kernel
theorem dX9_floor_10 : decode cX9_floor 10 = .ok (.ifCond .ge 10, 3) := by decide +kernel
theorem dX9_floor_13 : decode cX9_floor 13 = .ok (.lload 4, 2) := by decide +kernel
theorem dX9_floor_15 : decode cX9_floor 15 = .ok (.lconst 1, 1) := by decide +kernel
theorem dX9_floor_16 : decode cX9_floor 16 = .ok (.lsub, 1) := by decide +kernel
theorem dX9_floor_17 : decode cX9_floor 17 = .ok (.goto 5, 3) := by decide +kernel
theorem dX9_floor_20 : decode cX9_floor 20 = .ok (.lload 4, 2) := by decide +kernel
theorem dX9_floor_22 : decode cX9_floor 22 = .ok (.lreturn, 1) := by decide +kernel
theorem dX9_areThere_0 : decode cX9_areThere 0 = .ok (.iload_n 0, 1) := by decide +kernel
theorem dX9_areThere_1 : decode cX9_areThere 1 = .ok (.i2l, 1) := by decide +kernel
theorem dX9_areThere_2 : decode cX9_areThere 2 = .ok (.lconst 0, 1) := by decide +kernel
theorem dX9_areThere_3 : decode cX9_areThere 3 = .ok (.lconst 1, 1) := by decide +kernel
theorem dX9_areThere_4 : decode cX9_areThere 4 = .ok (.invokestatic 106, 3) := by decide +kernel
theorem dX9_areThere_7 : decode cX9_areThere 7 = .ok (.ifCond .eq 31, 3) := by decide +kernel
theorem dX9_areThere_10 : decode cX9_areThere 10 = .ok (.iload_n 1, 1) := by decide +kernel
theorem dX9_areThere_11 : decode cX9_areThere 11 = .ok (.i2l, 1) := by decide +kernel
theorem dX9_areThere_12 : decode cX9_areThere 12 = .ok (.lconst 0, 1) := by decide +kernel
theorem dX9_areThere_13 : decode cX9_areThere 13 = .ok (.ldc2_w 110, 3) := by decide +kernel
theorem dX9_areThere_16 : decode cX9_areThere 16 = .ok (.invokestatic 106, 3) := by decide +kernel
theorem dX9_areThere_19 : decode cX9_areThere 19 = .ok (.ifCond .eq 19, 3) := by decide +kernel
theorem dX9_areThere_22 : decode cX9_areThere 22 = .ok (.iload_n 2, 1) := by decide +kernel
theorem dX9_areThere_23 : decode cX9_areThere 23 = .ok (.i2l, 1) := by decide +kernel
theorem dX9_areThere_24 : decode cX9_areThere 24 = .ok (.lconst 0, 1) := by decide +kernel
theorem dX9_areThere_25 : decode cX9_areThere 25 = .ok (.ldc2_w 112, 3) := by decide +kernel
theorem dX9_areThere_28 : decode cX9_areThere 28 = .ok (.invokestatic 106, 3) := by decide +kernel
theorem dX9_areThere_31 : decode cX9_areThere 31 = .ok (.ifCond .eq 7, 3) := by decide +kernel
theorem dX9_areThere_34 : decode cX9_areThere 34 = .ok (.iconst 1, 1) := by decide +kernel
theorem dX9_areThere_35 : decode cX9_areThere 35 = .ok (.goto 4, 3) := by decide +kernel
theorem dX9_areThere_38 : decode cX9_areThere 38 = .ok (.iconst 0, 1) := by decide +kernel
theorem dX9_areThere_39 : decode cX9_areThere 39 = .ok (.ireturn, 1) := by decide +kernel
theorem dX9_cellOf_0 : decode cX9_cellOf 0 = .ok (.sipush 288, 3) := by decide +kernel
theorem dX9_cellOf_3 : decode cX9_cellOf 3 = .ok (.iload_n 0, 1) := by decide +kernel
theorem dX9_cellOf_4 : decode cX9_cellOf 4 = .ok (.imul, 1) := by decide +kernel
theorem dX9_cellOf_5 : decode cX9_cellOf 5 = .ok (.bipush 72, 2) := by decide +kernel
theorem dX9_cellOf_7 : decode cX9_cellOf 7 = .ok (.iload_n 1, 1) := by decide +kernel
theorem dX9_cellOf_8 : decode cX9_cellOf 8 = .ok (.imul, 1) := by decide +kernel
theorem dX9_cellOf_9 : decode cX9_cellOf 9 = .ok (.iadd, 1) := by decide +kernel
theorem dX9_cellOf_10 : decode cX9_cellOf 10 = .ok (.bipush 12, 2) := by decide +kernel
theorem dX9_cellOf_12 : decode cX9_cellOf 12 = .ok (.iload_n 2, 1) := by decide +kernel
theorem dX9_cellOf_13 : decode cX9_cellOf 13 = .ok (.imul, 1) := by decide +kernel
theorem dX9_cellOf_14 : decode cX9_cellOf 14 = .ok (.iadd, 1) := by decide +kernel
theorem dX9_cellOf_15 : decode cX9_cellOf 15 = .ok (.iload_n 3, 1) := by decide +kernel
theorem dX9_cellOf_16 : decode cX9_cellOf 16 = .ok (.iadd, 1) := by decide +kernel
theorem dX9_cellOf_17 : decode cX9_cellOf 17 = .ok (.ireturn, 1) := by decide +kernel
theorem dX9_annualOf_0 : decode cX9_annualOf 0 = .ok (.sipush 576, 3) := by decide +kernel
theorem dX9_annualOf_3 : decode cX9_annualOf 3 = .ok (.bipush 72, 2) := by decide +kernel
theorem dX9_annualOf_5 : decode cX9_annualOf 5 = .ok (.iload_n 0, 1) := by decide +kernel
theorem dX9_annualOf_6 : decode cX9_annualOf 6 = .ok (.imul, 1) := by decide +kernel
theorem dX9_annualOf_7 : decode cX9_annualOf 7 = .ok (.iadd, 1) := by decide +kernel
theorem dX9_annualOf_8 : decode cX9_annualOf 8 = .ok (.bipush 18, 2) := by decide +kernel
theorem dX9_annualOf_10 : decode cX9_annualOf 10 = .ok (.iload_n 1, 1) := by decide +kernel
theorem dX9_annualOf_11 : decode cX9_annualOf 11 = .ok (.imul, 1) := by decide +kernel
theorem dX9_annualOf_12 : decode cX9_annualOf 12 = .ok (.iadd, 1) := by decide +kernel
theorem dX9_annualOf_13 : decode cX9_annualOf 13 = .ok (.iconst 3, 1) := by decide +kernel
theorem dX9_annualOf_14 : decode cX9_annualOf 14 = .ok (.iload_n 2, 1) := by decide +kernel
theorem dX9_annualOf_15 : decode cX9_annualOf 15 = .ok (.imul, 1) := by decide +kernel
theorem dX9_annualOf_16 : decode cX9_annualOf 16 = .ok (.iadd, 1) := by decide +kernel
theorem dX9_annualOf_17 : decode cX9_annualOf 17 = .ok (.iload_n 3, 1) := by decide +kernel
theorem dX9_annualOf_18 : decode cX9_annualOf 18 = .ok (.iadd, 1) := by decide +kernel
theorem dX9_annualOf_19 : decode cX9_annualOf 19 = .ok (.ireturn, 1) := by decide +kernel
theorem dX9_isCell_0 : decode cX9_isCell 0 = .ok (.iload_n 0, 1) := by decide +kernel
theorem dX9_isCell_1 : decode cX9_isCell 1 = .ok (.i2l, 1) := by decide +kernel
theorem dX9_isCell_2 : decode cX9_isCell 2 = .ok (.lconst 0, 1) := by decide +kernel
theorem dX9_isCell_3 : decode cX9_isCell 3 = .ok (.ldc2_w 114, 3) := by decide +kernel
theorem dX9_isCell_6 : decode cX9_isCell 6 = .ok (.invokestatic 106, 3) := by decide +kernel
theorem dX9_isCell_9 : decode cX9_isCell 9 = .ok (.ireturn, 1) := by decide +kernel
theorem dX9_isCode_0 : decode cX9_isCode 0 = .ok (.iload_n 0, 1) := by decide +kernel
theorem dX9_isCode_1 : decode cX9_isCode 1 = .ok (.i2l, 1) := by decide +kernel
theorem dX9_isCode_2 : decode cX9_isCode 2 = .ok (.lconst 0, 1) := by decide +kernel
theorem dX9_isCode_3 : decode cX9_isCode 3 = .ok (.ldc2_w 116, 3) := by decide +kernel
theorem dX9_isCode_6 : decode cX9_isCode 6 = .ok (.invokestatic 106, 3) := by decide +kernel
theorem dX9_isCode_9 : decode cX9_isCode 9 = .ok (.ireturn, 1) := by decide +kernel
theorem dX9_landOf_0 : decode cX9_landOf 0 = .ok (.iload_n 0, 1) := by decide +kernel
theorem dX9_landOf_1 : decode cX9_landOf 1 = .ok (.sipush 576, 3) := by decide +kernel
theorem dX9_landOf_4 : decode cX9_landOf 4 = .ok (.if_icmp .ge 11, 3) := by decide +kernel
theorem dX9_landOf_7 : decode cX9_landOf 7 = .ok (.iload_n 0, 1) := by decide +kernel
theorem dX9_landOf_8 : decode cX9_landOf 8 = .ok (.sipush 288, 3) := by decide +kernel
theorem dX9_landOf_11 : decode cX9_landOf 11 = .ok (.idiv, 1) := by decide +kernel
theorem dX9_landOf_12 : decode cX9_landOf 12 = .ok (.goto 11, 3) := by decide +kernel
theorem dX9_landOf_15 : decode cX9_landOf 15 = .ok (.iload_n 0, 1) := by decide +kernel
theorem dX9_landOf_16 : decode cX9_landOf 16 = .ok (.sipush 576, 3) := by decide +kernel
theorem dX9_landOf_19 : decode cX9_landOf 19 = .ok (.isub, 1) := by decide +kernel
theorem dX9_landOf_20 : decode cX9_landOf 20 = .ok (.bipush 72, 2) := by decide +kernel
theorem dX9_landOf_22 : decode cX9_landOf 22 = .ok (.idiv, 1) := by decide +kernel
theorem dX9_landOf_23 : decode cX9_landOf 23 = .ok (.ireturn, 1) := by decide +kernel
theorem dX9_productOf_0 : decode cX9_productOf 0 = .ok (.iload_n 0, 1) := by decide +kernel
theorem dX9_productOf_1 : decode cX9_productOf 1 = .ok (.sipush 576, 3) := by decide +kernel
theorem dX9_productOf_4 : decode cX9_productOf 4 = .ok (.if_icmp .ge 12, 3) := by decide +kernel
theorem dX9_productOf_7 : decode cX9_productOf 7 = .ok (.iload_n 0, 1) := by decide +kernel
theorem dX9_productOf_8 : decode cX9_productOf 8 = .ok (.bipush 72, 2) := by decide +kernel
theorem dX9_productOf_10 : decode cX9_productOf 10 = .ok (.idiv, 1) := by decide +kernel
theorem dX9_productOf_11 : decode cX9_productOf 11 = .ok (.iconst 4, 1) := by decide +kernel
theorem dX9_productOf_12 : decode cX9_productOf 12 = .ok (.irem, 1) := by decide +kernel
theorem dX9_productOf_13 : decode cX9_productOf 13 = .ok (.goto 13, 3) := by decide +kernel
theorem dX9_productOf_16 : decode cX9_productOf 16 = .ok (.iload_n 0, 1) := by decide +kernel
theorem dX9_productOf_17 : decode cX9_productOf 17 = .ok (.sipush 576, 3) := by decide +kernel
theorem dX9_productOf_20 : decode cX9_productOf 20 = .ok (.isub, 1) := by decide +kernel
theorem dX9_productOf_21 : decode cX9_productOf 21 = .ok (.bipush 18, 2) := by decide +kernel
theorem dX9_productOf_23 : decode cX9_productOf 23 = .ok (.idiv, 1) := by decide +kernel
theorem dX9_productOf_24 : decode cX9_productOf 24 = .ok (.iconst 4, 1) := by decide +kernel
theorem dX9_productOf_25 : decode cX9_productOf 25 = .ok (.irem, 1) := by decide +kernel
theorem dX9_productOf_26 : decode cX9_productOf 26 = .ok (.ireturn, 1) := by decide +kernel
theorem dX9_columnOf_0 : decode cX9_columnOf 0 = .ok (.iload_n 0, 1) := by decide +kernel
theorem dX9_columnOf_1 : decode cX9_columnOf 1 = .ok (.sipush 576, 3) := by decide +kernel
theorem dX9_columnOf_4 : decode cX9_columnOf 4 = .ok (.if_icmp .ge 13, 3) := by decide +kernel
theorem dX9_columnOf_7 : decode cX9_columnOf 7 = .ok (.iload_n 0, 1) := by decide +kernel
theorem dX9_columnOf_8 : decode cX9_columnOf 8 = .ok (.bipush 12, 2) := by decide +kernel
theorem dX9_columnOf_10 : decode cX9_columnOf 10 = .ok (.idiv, 1) := by decide +kernel
theorem dX9_columnOf_11 : decode cX9_columnOf 11 = .ok (.bipush 6, 2) := by decide +kernel
theorem dX9_columnOf_13 : decode cX9_columnOf 13 = .ok (.irem, 1) := by decide +kernel
theorem dX9_columnOf_14 : decode cX9_columnOf 14 = .ok (.goto 13, 3) := by decide +kernel
theorem dX9_columnOf_17 : decode cX9_columnOf 17 = .ok (.iload_n 0, 1) := by decide +kernel
theorem dX9_columnOf_18 : decode cX9_columnOf 18 = .ok (.sipush 576, 3) := by decide +kernel
theorem dX9_columnOf_21 : decode cX9_columnOf 21 = .ok (.isub, 1) := by decide +kernel
theorem dX9_columnOf_22 : decode cX9_columnOf 22 = .ok (.iconst 3, 1) := by decide +kernel
theorem dX9_columnOf_23 : decode cX9_columnOf 23 = .ok (.idiv, 1) := by decide +kernel
theorem dX9_columnOf_24 : decode cX9_columnOf 24 = .ok (.bipush 6, 2) := by decide +kernel
theorem dX9_columnOf_26 : decode cX9_columnOf 26 = .ok (.irem, 1) := by decide +kernel
theorem dX9_columnOf_27 : decode cX9_columnOf 27 = .ok (.ireturn, 1) := by decide +kernel
theorem dX9_timeOf_0 : decode cX9_timeOf 0 = .ok (.iload_n 0, 1) := by decide +kernel
theorem dX9_timeOf_1 : decode cX9_timeOf 1 = .ok (.sipush 576, 3) := by decide +kernel
theorem dX9_timeOf_4 : decode cX9_timeOf 4 = .ok (.if_icmp .ge 10, 3) := by decide +kernel
theorem dX9_timeOf_7 : decode cX9_timeOf 7 = .ok (.iload_n 0, 1) := by decide +kernel
theorem dX9_timeOf_8 : decode cX9_timeOf 8 = .ok (.bipush 12, 2) := by decide +kernel
theorem dX9_timeOf_10 : decode cX9_timeOf 10 = .ok (.irem, 1) := by decide +kernel
theorem dX9_timeOf_11 : decode cX9_timeOf 11 = .ok (.goto 10, 3) := by decide +kernel
theorem dX9_timeOf_14 : decode cX9_timeOf 14 = .ok (.iload_n 0, 1) := by decide +kernel
theorem dX9_timeOf_15 : decode cX9_timeOf 15 = .ok (.sipush 576, 3) := by decide +kernel
theorem dX9_timeOf_18 : decode cX9_timeOf 18 = .ok (.isub, 1) := by decide +kernel
theorem dX9_timeOf_19 : decode cX9_timeOf 19 = .ok (.iconst 3, 1) := by decide +kernel
theorem dX9_timeOf_20 : decode cX9_timeOf 20 = .ok (.irem, 1) := by decide +kernel
theorem dX9_timeOf_21 : decode cX9_timeOf 21 = .ok (.ireturn, 1) := by decide +kernel
theorem dX9_code_0 : decode cX9_code 0 = .ok (.iload_n 1, 1) := by decide +kernel
theorem dX9_code_1 : decode cX9_code 1 = .ok (.iload_n 2, 1) := by decide +kernel
theorem dX9_code_2 : decode cX9_code 2 = .ok (.iload_n 3, 1) := by decide +kernel
theorem dX9_code_3 : decode cX9_code 3 = .ok (.invokestatic 118, 3) := by decide +kernel
theorem dX9_code_6 : decode cX9_code 6 = .ok (.ifCond .eq 27, 3) := by decide +kernel
theorem dX9_code_9 : decode cX9_code 9 = .ok (.iload 4, 2) := by decide +kernel
theorem dX9_code_11 : decode cX9_code 11 = .ok (.i2l, 1) := by decide +kernel
theorem dX9_code_12 : decode cX9_code 12 = .ok (.lconst 0, 1) := by decide +kernel
theorem dX9_code_13 : decode cX9_code 13 = .ok (.ldc2_w 122, 3) := by decide +kernel
theorem dX9_code_16 : decode cX9_code 16 = .ok (.invokestatic 106, 3) := by decide +kernel
theorem dX9_code_19 : decode cX9_code 19 = .ok (.ifCond .eq 14, 3) := by decide +kernel
theorem dX9_code_22 : decode cX9_code 22 = .ok (.iload_n 1, 1) := by decide +kernel
theorem dX9_code_23 : decode cX9_code 23 = .ok (.iload_n 2, 1) := by decide +kernel
theorem dX9_code_24 : decode cX9_code 24 = .ok (.iload_n 3, 1) := by decide +kernel
theorem dX9_code_25 : decode cX9_code 25 = .ok (.iload 4, 2) := by decide +kernel
theorem dX9_code_27 : decode cX9_code 27 = .ok (.invokestatic 124, 3) := by decide +kernel
theorem dX9_code_30 : decode cX9_code 30 = .ok (.goto 5, 3) := by decide +kernel
theorem dX9_code_33 : decode cX9_code 33 = .ok (.bipush (-2), 2) := by decide +kernel
theorem dX9_code_35 : decode cX9_code 35 = .ok (.ireturn, 1) := by decide +kernel
theorem dX9_annual_0 : decode cX9_annual 0 = .ok (.iload_n 1, 1) := by decide +kernel
theorem dX9_annual_1 : decode cX9_annual 1 = .ok (.iload_n 2, 1) := by decide +kernel
theorem dX9_annual_2 : decode cX9_annual 2 = .ok (.iload_n 3, 1) := by decide +kernel
theorem dX9_annual_3 : decode cX9_annual 3 = .ok (.invokestatic 118, 3) := by decide +kernel
theorem dX9_annual_6 : decode cX9_annual 6 = .ok (.ifCond .eq 27, 3) := by decide +kernel
theorem dX9_annual_9 : decode cX9_annual 9 = .ok (.iload 4, 2) := by decide +kernel
theorem dX9_annual_11 : decode cX9_annual 11 = .ok (.i2l, 1) := by decide +kernel
theorem dX9_annual_12 : decode cX9_annual 12 = .ok (.lconst 0, 1) := by decide +kernel
theorem dX9_annual_13 : decode cX9_annual 13 = .ok (.ldc2_w 128, 3) := by decide +kernel
theorem dX9_annual_16 : decode cX9_annual 16 = .ok (.invokestatic 106, 3) := by decide +kernel
theorem dX9_annual_19 : decode cX9_annual 19 = .ok (.ifCond .eq 14, 3) := by decide +kernel
theorem dX9_annual_22 : decode cX9_annual 22 = .ok (.iload_n 1, 1) := by decide +kernel
theorem dX9_annual_23 : decode cX9_annual 23 = .ok (.iload_n 2, 1) := by decide +kernel
theorem dX9_annual_24 : decode cX9_annual 24 = .ok (.iload_n 3, 1) := by decide +kernel
theorem dX9_annual_25 : decode cX9_annual 25 = .ok (.iload 4, 2) := by decide +kernel
theorem dX9_annual_27 : decode cX9_annual 27 = .ok (.invokestatic 130, 3) := by decide +kernel
theorem dX9_annual_30 : decode cX9_annual 30 = .ok (.goto 5, 3) := by decide +kernel
theorem dX9_annual_33 : decode cX9_annual 33 = .ok (.bipush (-2), 2) := by decide +kernel
theorem dX9_annual_35 : decode cX9_annual 35 = .ok (.ireturn, 1) := by decide +kernel
theorem dX9_decode_0 : decode cX9_decode 0 = .ok (.iload_n 1, 1) := by decide +kernel
theorem dX9_decode_1 : decode cX9_decode 1 = .ok (.invokestatic 133, 3) := by decide +kernel
theorem dX9_decode_4 : decode cX9_decode 4 = .ok (.ifCond .ne 6, 3) := by decide +kernel
theorem dX9_decode_7 : decode cX9_decode 7 = .ok (.bipush (-2), 2) := by decide +kernel
theorem dX9_decode_9 : decode cX9_decode 9 = .ok (.ireturn, 1) := by decide +kernel
theorem dX9_decode_10 : decode cX9_decode 10 = .ok (.iload_n 2, 1) := by decide +kernel
theorem dX9_decode_11 : decode cX9_decode 11 = .ok (.tableswitch 66 0 4 #[33, 38, 43, 48, 53], 33) := by decide +kernel
theorem dX9_decode_44 : decode cX9_decode 44 = .ok (.iload_n 1, 1) := by decide +kernel
theorem dX9_decode_45 : decode cX9_decode 45 = .ok (.invokestatic 137, 3) := by decide +kernel
theorem dX9_decode_48 : decode cX9_decode 48 = .ok (.ireturn, 1) := by decide +kernel
theorem dX9_decode_49 : decode cX9_decode 49 = .ok (.iload_n 1, 1) := by decide +kernel
theorem dX9_decode_50 : decode cX9_decode 50 = .ok (.invokestatic 141, 3) := by decide +kernel
theorem dX9_decode_53 : decode cX9_decode 53 = .ok (.ireturn, 1) := by decide +kernel
theorem dX9_decode_54 : decode cX9_decode 54 = .ok (.iload_n 1, 1) := by decide +kernel
theorem dX9_decode_55 : decode cX9_decode 55 = .ok (.invokestatic 144, 3) := by decide +kernel
theorem dX9_decode_58 : decode cX9_decode 58 = .ok (.ireturn, 1) := by decide +kernel
theorem dX9_decode_59 : decode cX9_decode 59 = .ok (.iload_n 1, 1) := by decide +kernel
theorem dX9_decode_60 : decode cX9_decode 60 = .ok (.invokestatic 147, 3) := by decide +kernel
theorem dX9_decode_63 : decode cX9_decode 63 = .ok (.ireturn, 1) := by decide +kernel
theorem dX9_decode_64 : decode cX9_decode 64 = .ok (.iload_n 1, 1) := by decide +kernel
theorem dX9_decode_65 : decode cX9_decode 65 = .ok (.invokestatic 150, 3) := by decide +kernel
theorem dX9_decode_68 : decode cX9_decode 68 = .ok (.ifCond .eq 7, 3) := by decide +kernel
theorem dX9_decode_71 : decode cX9_decode 71 = .ok (.iconst 0, 1) := by decide +kernel
theorem dX9_decode_72 : decode cX9_decode 72 = .ok (.goto 4, 3) := by decide +kernel
theorem dX9_decode_75 : decode cX9_decode 75 = .ok (.iconst 1, 1) := by decide +kernel
theorem dX9_decode_76 : decode cX9_decode 76 = .ok (.ireturn, 1) := by decide +kernel
theorem dX9_decode_77 : decode cX9_decode 77 = .ok (.bipush (-2), 2) := by decide +kernel
theorem dX9_decode_79 : decode cX9_decode 79 = .ok (.ireturn, 1) := by decide +kernel
theorem dX9_trust_0 : decode cX9_trust 0 = .ok (.iload_n 1, 1) := by decide +kernel
theorem dX9_trust_1 : decode cX9_trust 1 = .ok (.i2l, 1) := by decide +kernel
theorem dX9_trust_2 : decode cX9_trust 2 = .ok (.lconst 0, 1) := by decide +kernel
theorem dX9_trust_3 : decode cX9_trust 3 = .ok (.ldc2_w 153, 3) := by decide +kernel
theorem dX9_trust_6 : decode cX9_trust 6 = .ok (.invokestatic 106, 3) := by decide +kernel
theorem dX9_trust_9 : decode cX9_trust 9 = .ok (.ifCond .eq 15, 3) := by decide +kernel
theorem dX9_trust_12 : decode cX9_trust 12 = .ok (.iload_n 2, 1) := by decide +kernel
theorem dX9_trust_13 : decode cX9_trust 13 = .ok (.i2l, 1) := by decide +kernel
theorem dX9_trust_14 : decode cX9_trust 14 = .ok (.lconst 1, 1) := by decide +kernel
theorem dX9_trust_15 : decode cX9_trust 15 = .ok (.ldc2_w 153, 3) := by decide +kernel
theorem dX9_trust_18 : decode cX9_trust 18 = .ok (.invokestatic 106, 3) := by decide +kernel
theorem dX9_trust_21 : decode cX9_trust 21 = .ok (.ifCond .ne 6, 3) := by decide +kernel
theorem dX9_trust_24 : decode cX9_trust 24 = .ok (.bipush (-2), 2) := by decide +kernel
theorem dX9_trust_26 : decode cX9_trust 26 = .ok (.ireturn, 1) := by decide +kernel
theorem dX9_trust_27 : decode cX9_trust 27 = .ok (.aload_n 0, 1) := by decide +kernel
theorem dX9_trust_28 : decode cX9_trust 28 = .ok (.getfield 9, 3) := by decide +kernel
theorem dX9_trust_31 : decode cX9_trust 31 = .ok (.iload_n 1, 1) := by decide +kernel
theorem dX9_trust_32 : decode cX9_trust 32 = .ok (.iaload, 1) := by decide +kernel
theorem dX9_trust_33 : decode cX9_trust 33 = .ok (.istore_n 3, 1) := by decide +kernel
theorem dX9_trust_34 : decode cX9_trust 34 = .ok (.aload_n 0, 1) := by decide +kernel
theorem dX9_trust_35 : decode cX9_trust 35 = .ok (.getfield 9, 3) := by decide +kernel
theorem dX9_trust_38 : decode cX9_trust 38 = .ok (.iload_n 1, 1) := by decide +kernel
theorem dX9_trust_39 : decode cX9_trust 39 = .ok (.iload_n 2, 1) := by decide +kernel
theorem dX9_trust_40 : decode cX9_trust 40 = .ok (.iastore, 1) := by decide +kernel
theorem dX9_trust_41 : decode cX9_trust 41 = .ok (.aload_n 0, 1) := by decide +kernel
theorem dX9_trust_42 : decode cX9_trust 42 = .ok (.iconst 0, 1) := by decide +kernel
theorem dX9_trust_43 : decode cX9_trust 43 = .ok (.putfield 155, 3) := by decide +kernel
theorem dX9_trust_46 : decode cX9_trust 46 = .ok (.iload_n 3, 1) := by decide +kernel
theorem dX9_trust_47 : decode cX9_trust 47 = .ok (.ireturn, 1) := by decide +kernel
theorem dX9_rowMore_0 : decode cX9_rowMore 0 = .ok (.iload_n 1, 1) := by decide +kernel
theorem dX9_rowMore_1 : decode cX9_rowMore 1 = .ok (.i2l, 1) := by decide +kernel
theorem dX9_rowMore_2 : decode cX9_rowMore 2 = .ok (.lconst 0, 1) := by decide +kernel
theorem dX9_rowMore_3 : decode cX9_rowMore 3 = .ok (.ldc2_w 153, 3) := by decide +kernel
theorem dX9_rowMore_6 : decode cX9_rowMore 6 = .ok (.invokestatic 106, 3) := by decide +kernel
theorem dX9_rowMore_9 : decode cX9_rowMore 9 = .ok (.ifCond .eq 35, 3) := by decide +kernel
theorem dX9_rowMore_12 : decode cX9_rowMore 12 = .ok (.iload_n 2, 1) := by decide +kernel
theorem dX9_rowMore_13 : decode cX9_rowMore 13 = .ok (.invokestatic 133, 3) := by decide +kernel
theorem dX9_rowMore_16 : decode cX9_rowMore 16 = .ok (.ifCond .eq 28, 3) := by decide +kernel
theorem dX9_rowMore_19 : decode cX9_rowMore 19 = .ok (.iload_n 3, 1) := by decide +kernel
theorem dX9_rowMore_20 : decode cX9_rowMore 20 = .ok (.i2l, 1) := by decide +kernel
theorem dX9_rowMore_21 : decode cX9_rowMore 21 = .ok (.lconst 0, 1) := by decide +kernel
theorem dX9_rowMore_22 : decode cX9_rowMore 22 = .ok (.ldc2_w 159, 3) := by decide +kernel
theorem dX9_rowMore_25 : decode cX9_rowMore 25 = .ok (.invokestatic 106, 3) := by decide +kernel
theorem dX9_rowMore_28 : decode cX9_rowMore 28 = .ok (.ifCond .eq 16, 3) := by decide +kernel
theorem dX9_rowMore_31 : decode cX9_rowMore 31 = .ok (.iload 4, 2) := by decide +kernel
theorem dX9_rowMore_33 : decode cX9_rowMore 33 = .ok (.i2l, 1) := by decide +kernel
theorem dX9_rowMore_34 : decode cX9_rowMore 34 = .ok (.lconst 0, 1) := by decide +kernel
theorem dX9_rowMore_35 : decode cX9_rowMore 35 = .ok (.ldc2_w 153, 3) := by decide +kernel
theorem dX9_rowMore_38 : decode cX9_rowMore 38 = .ok (.invokestatic 106, 3) := by decide +kernel
theorem dX9_rowMore_41 : decode cX9_rowMore 41 = .ok (.ifCond .ne 6, 3) := by decide +kernel
theorem dX9_rowMore_44 : decode cX9_rowMore 44 = .ok (.bipush (-2), 2) := by decide +kernel
theorem dX9_rowMore_46 : decode cX9_rowMore 46 = .ok (.ireturn, 1) := by decide +kernel
theorem dX9_rowMore_47 : decode cX9_rowMore 47 = .ok (.aload_n 0, 1) := by decide +kernel
theorem dX9_rowMore_48 : decode cX9_rowMore 48 = .ok (.getfield 161, 3) := by decide +kernel
theorem dX9_rowMore_51 : decode cX9_rowMore 51 = .ok (.bipush 80, 2) := by decide +kernel
theorem dX9_rowMore_53 : decode cX9_rowMore 53 = .ok (.if_icmp .ne 6, 3) := by decide +kernel
theorem dX9_rowMore_56 : decode cX9_rowMore 56 = .ok (.bipush (-4), 2) := by decide +kernel
theorem dX9_rowMore_58 : decode cX9_rowMore 58 = .ok (.ireturn, 1) := by decide +kernel
theorem dX9_rowMore_59 : decode cX9_rowMore 59 = .ok (.aload_n 0, 1) := by decide +kernel
theorem dX9_rowMore_60 : decode cX9_rowMore 60 = .ok (.getfield 13, 3) := by decide +kernel
theorem dX9_rowMore_63 : decode cX9_rowMore 63 = .ok (.aload_n 0, 1) := by decide +kernel
theorem dX9_rowMore_64 : decode cX9_rowMore 64 = .ok (.getfield 161, 3) := by decide +kernel
theorem dX9_rowMore_67 : decode cX9_rowMore 67 = .ok (.iload_n 1, 1) := by decide +kernel
theorem dX9_rowMore_68 : decode cX9_rowMore 68 = .ok (.iastore, 1) := by decide +kernel
theorem dX9_rowMore_69 : decode cX9_rowMore 69 = .ok (.aload_n 0, 1) := by decide +kernel
theorem dX9_rowMore_70 : decode cX9_rowMore 70 = .ok (.getfield 16, 3) := by decide +kernel
theorem dX9_rowMore_73 : decode cX9_rowMore 73 = .ok (.aload_n 0, 1) := by decide +kernel
theorem dX9_rowMore_74 : decode cX9_rowMore 74 = .ok (.getfield 161, 3) := by decide +kernel
theorem dX9_rowMore_77 : decode cX9_rowMore 77 = .ok (.iload_n 2, 1) := by decide +kernel
theorem dX9_rowMore_78 : decode cX9_rowMore 78 = .ok (.iastore, 1) := by decide +kernel
theorem dX9_rowMore_79 : decode cX9_rowMore 79 = .ok (.aload_n 0, 1) := by decide +kernel
theorem dX9_rowMore_80 : decode cX9_rowMore 80 = .ok (.getfield 19, 3) := by decide +kernel
theorem dX9_rowMore_83 : decode cX9_rowMore 83 = .ok (.aload_n 0, 1) := by decide +kernel
theorem dX9_rowMore_84 : decode cX9_rowMore 84 = .ok (.getfield 161, 3) := by decide +kernel
theorem dX9_rowMore_87 : decode cX9_rowMore 87 = .ok (.iload_n 3, 1) := by decide +kernel
theorem dX9_rowMore_88 : decode cX9_rowMore 88 = .ok (.iastore, 1) := by decide +kernel
theorem dX9_rowMore_89 : decode cX9_rowMore 89 = .ok (.aload_n 0, 1) := by decide +kernel
theorem dX9_rowMore_90 : decode cX9_rowMore 90 = .ok (.getfield 22, 3) := by decide +kernel
theorem dX9_rowMore_93 : decode cX9_rowMore 93 = .ok (.aload_n 0, 1) := by decide +kernel
theorem dX9_rowMore_94 : decode cX9_rowMore 94 = .ok (.getfield 161, 3) := by decide +kernel
theorem dX9_rowMore_97 : decode cX9_rowMore 97 = .ok (.iload 4, 2) := by decide +kernel
theorem dX9_rowMore_99 : decode cX9_rowMore 99 = .ok (.iastore, 1) := by decide +kernel
theorem dX9_rowMore_100 : decode cX9_rowMore 100 = .ok (.aload_n 0, 1) := by decide +kernel
theorem dX9_rowMore_101 : decode cX9_rowMore 101 = .ok (.dup, 1) := by decide +kernel
theorem dX9_rowMore_102 : decode cX9_rowMore 102 = .ok (.getfield 161, 3) := by decide +kernel
theorem dX9_rowMore_105 : decode cX9_rowMore 105 = .ok (.iconst 1, 1) := by decide +kernel
theorem dX9_rowMore_106 : decode cX9_rowMore 106 = .ok (.iadd, 1) := by decide +kernel
theorem dX9_rowMore_107 : decode cX9_rowMore 107 = .ok (.putfield 161, 3) := by decide +kernel
theorem dX9_rowMore_110 : decode cX9_rowMore 110 = .ok (.aload_n 0, 1) := by decide +kernel
theorem dX9_rowMore_111 : decode cX9_rowMore 111 = .ok (.iconst 0, 1) := by decide +kernel
theorem dX9_rowMore_112 : decode cX9_rowMore 112 = .ok (.putfield 155, 3) := by decide +kernel
theorem dX9_rowMore_115 : decode cX9_rowMore 115 = .ok (.aload_n 0, 1) := by decide +kernel
theorem dX9_rowMore_116 : decode cX9_rowMore 116 = .ok (.getfield 161, 3) := by decide +kernel
theorem dX9_rowMore_119 : decode cX9_rowMore 119 = .ok (.iconst 1, 1) := by decide +kernel
theorem dX9_rowMore_120 : decode cX9_rowMore 120 = .ok (.isub, 1) := by decide +kernel
theorem dX9_rowMore_121 : decode cX9_rowMore 121 = .ok (.ireturn, 1) := by decide +kernel
theorem dX9_row_0 : decode cX9_row 0 = .ok (.aload_n 0, 1) := by decide +kernel
theorem dX9_row_1 : decode cX9_row 1 = .ok (.iload_n 1, 1) := by decide +kernel
theorem dX9_row_2 : decode cX9_row 2 = .ok (.iload_n 2, 1) := by decide +kernel
theorem dX9_row_3 : decode cX9_row 3 = .ok (.iload_n 3, 1) := by decide +kernel
theorem dX9_row_4 : decode cX9_row 4 = .ok (.iload 4, 2) := by decide +kernel
theorem dX9_row_6 : decode cX9_row 6 = .ok (.invokevirtual 164, 3) := by decide +kernel
theorem dX9_row_9 : decode cX9_row 9 = .ok (.ireturn, 1) := by decide +kernel
theorem dX9_countingRow_0 : decode cX9_countingRow 0 = .ok (.iconst (-1), 1) := by decide +kernel
theorem dX9_countingRow_1 : decode cX9_countingRow 1 = .ok (.istore 5, 2) := by decide +kernel
theorem dX9_countingRow_3 : decode cX9_countingRow 3 = .ok (.iconst 0, 1) := by decide +kernel
theorem dX9_countingRow_4 : decode cX9_countingRow 4 = .ok (.istore 6, 2) := by decide +kernel
theorem dX9_countingRow_6 : decode cX9_countingRow 6 = .ok (.iload 6, 2) := by decide +kernel
theorem dX9_countingRow_8 : decode cX9_countingRow 8 = .ok (.aload_n 0, 1) := by decide +kernel
theorem dX9_countingRow_9 : decode cX9_countingRow 9 = .ok (.getfield 161, 3) := by decide +kernel
theorem dX9_countingRow_12 : decode cX9_countingRow 12 = .ok (.if_icmp .ge 103, 3) := by decide +kernel
theorem dX9_countingRow_15 : decode cX9_countingRow 15 = .ok (.aload_n 0, 1) := by decide +kernel
theorem dX9_countingRow_16 : decode cX9_countingRow 16 = .ok (.getfield 16, 3) := by decide +kernel
theorem dX9_countingRow_19 : decode cX9_countingRow 19 = .ok (.iload 6, 2) := by decide +kernel
theorem dX9_countingRow_21 : decode cX9_countingRow 21 = .ok (.iaload, 1) := by decide +kernel
theorem dX9_countingRow_22 : decode cX9_countingRow 22 = .ok (.iload_n 1, 1) := by decide +kernel
theorem dX9_countingRow_23 : decode cX9_countingRow 23 = .ok (.if_icmp .ne 46, 3) := by decide +kernel
theorem dX9_countingRow_26 : decode cX9_countingRow 26 = .ok (.aload_n 0, 1) := by decide +kernel
theorem dX9_countingRow_27 : decode cX9_countingRow 27 = .ok (.getfield 13, 3) := by decide +kernel
theorem dX9_countingRow_30 : decode cX9_countingRow 30 = .ok (.iload 6, 2) := by decide +kernel
theorem dX9_countingRow_32 : decode cX9_countingRow 32 = .ok (.iaload, 1) := by decide +kernel
theorem dX9_countingRow_33 : decode cX9_countingRow 33 = .ok (.iload_n 2, 1) := by decide +kernel
theorem dX9_countingRow_34 : decode cX9_countingRow 34 = .ok (.if_icmp .ne 35, 3) := by decide +kernel
theorem dX9_countingRow_37 : decode cX9_countingRow 37 = .ok (.aload_n 0, 1) := by decide +kernel
theorem dX9_countingRow_38 : decode cX9_countingRow 38 = .ok (.getfield 22, 3) := by decide +kernel
theorem dX9_countingRow_41 : decode cX9_countingRow 41 = .ok (.iload 6, 2) := by decide +kernel
theorem dX9_countingRow_43 : decode cX9_countingRow 43 = .ok (.iaload, 1) := by decide +kernel
theorem dX9_countingRow_44 : decode cX9_countingRow 44 = .ok (.iload_n 3, 1) := by decide +kernel
theorem dX9_countingRow_45 : decode cX9_countingRow 45 = .ok (.if_icmp .lt 20, 3) := by decide +kernel
theorem dX9_countingRow_48 : decode cX9_countingRow 48 = .ok (.aload_n 0, 1) := by decide +kernel
theorem dX9_countingRow_49 : decode cX9_countingRow 49 = .ok (.getfield 22, 3) := by decide +kernel
theorem dX9_countingRow_52 : decode cX9_countingRow 52 = .ok (.iload 6, 2) := by decide +kernel
theorem dX9_countingRow_54 : decode cX9_countingRow 54 = .ok (.iaload, 1) := by decide +kernel
theorem dX9_countingRow_55 : decode cX9_countingRow 55 = .ok (.iload_n 3, 1) := by decide +kernel
theorem dX9_countingRow_56 : decode cX9_countingRow 56 = .ok (.if_icmp .ne 13, 3) := by decide +kernel
theorem dX9_countingRow_59 : decode cX9_countingRow 59 = .ok (.iload_n 2, 1) := by decide +kernel
theorem dX9_countingRow_60 : decode cX9_countingRow 60 = .ok (.iload 4, 2) := by decide +kernel
theorem dX9_countingRow_62 : decode cX9_countingRow 62 = .ok (.if_icmp .gt 7, 3) := by decide +kernel
theorem dX9_countingRow_65 : decode cX9_countingRow 65 = .ok (.iconst 1, 1) := by decide +kernel
theorem dX9_countingRow_66 : decode cX9_countingRow 66 = .ok (.goto 4, 3) := by decide +kernel
theorem dX9_countingRow_69 : decode cX9_countingRow 69 = .ok (.iconst 0, 1) := by decide +kernel
theorem dX9_countingRow_70 : decode cX9_countingRow 70 = .ok (.istore 7, 2) := by decide +kernel
theorem dX9_countingRow_72 : decode cX9_countingRow 72 = .ok (.iload 7, 2) := by decide +kernel
theorem dX9_countingRow_74 : decode cX9_countingRow 74 = .ok (.ifCond .eq 31, 3) := by decide +kernel
theorem dX9_countingRow_77 : decode cX9_countingRow 77 = .ok (.iload 5, 2) := by decide +kernel
theorem dX9_countingRow_79 : decode cX9_countingRow 79 = .ok (.iconst (-1), 1) := by decide +kernel
theorem dX9_countingRow_80 : decode cX9_countingRow 80 = .ok (.if_icmp .eq 20, 3) := by decide +kernel
theorem dX9_countingRow_83 : decode cX9_countingRow 83 = .ok (.aload_n 0, 1) := by decide +kernel
theorem dX9_countingRow_84 : decode cX9_countingRow 84 = .ok (.getfield 22, 3) := by decide +kernel
theorem dX9_countingRow_87 : decode cX9_countingRow 87 = .ok (.iload 6, 2) := by decide +kernel
theorem dX9_countingRow_89 : decode cX9_countingRow 89 = .ok (.iaload, 1) := by decide +kernel
theorem dX9_countingRow_90 : decode cX9_countingRow 90 = .ok (.aload_n 0, 1) := by decide +kernel
theorem dX9_countingRow_91 : decode cX9_countingRow 91 = .ok (.getfield 22, 3) := by decide +kernel
theorem dX9_countingRow_94 : decode cX9_countingRow 94 = .ok (.iload 5, 2) := by decide +kernel
theorem dX9_countingRow_96 : decode cX9_countingRow 96 = .ok (.iaload, 1) := by decide +kernel
theorem dX9_countingRow_97 : decode cX9_countingRow 97 = .ok (.if_icmp .lt 8, 3) := by decide +kernel
theorem dX9_countingRow_100 : decode cX9_countingRow 100 = .ok (.iload 6, 2) := by decide +kernel
theorem dX9_countingRow_102 : decode cX9_countingRow 102 = .ok (.goto 5, 3) := by decide +kernel
theorem dX9_countingRow_105 : decode cX9_countingRow 105 = .ok (.iload 5, 2) := by decide +kernel
theorem dX9_countingRow_107 : decode cX9_countingRow 107 = .ok (.istore 5, 2) := by decide +kernel
theorem dX9_countingRow_109 : decode cX9_countingRow 109 = .ok (.iinc 6 1, 3) := by decide +kernel
theorem dX9_countingRow_112 : decode cX9_countingRow 112 = .ok (.goto (-106), 3) := by decide +kernel
theorem dX9_countingRow_115 : decode cX9_countingRow 115 = .ok (.iload 5, 2) := by decide +kernel
theorem dX9_countingRow_117 : decode cX9_countingRow 117 = .ok (.ireturn, 1) := by decide +kernel
theorem dX9_saidBy_0 : decode cX9_saidBy 0 = .ok (.lconst 0, 1) := by decide +kernel
theorem dX9_saidBy_1 : decode cX9_saidBy 1 = .ok (.lstore 4, 2) := by decide +kernel
theorem dX9_saidBy_3 : decode cX9_saidBy 3 = .ok (.aload_n 0, 1) := by decide +kernel
theorem dX9_saidBy_4 : decode cX9_saidBy 4 = .ok (.iconst 0, 1) := by decide +kernel
theorem dX9_saidBy_5 : decode cX9_saidBy 5 = .ok (.putfield 167, 3) := by decide +kernel
theorem dX9_saidBy_8 : decode cX9_saidBy 8 = .ok (.iconst 0, 1) := by decide +kernel
theorem dX9_saidBy_9 : decode cX9_saidBy 9 = .ok (.istore 6, 2) := by decide +kernel
theorem dX9_saidBy_11 : decode cX9_saidBy 11 = .ok (.iload 6, 2) := by decide +kernel
theorem dX9_saidBy_13 : decode cX9_saidBy 13 = .ok (.bipush 10, 2) := by decide +kernel
theorem dX9_saidBy_15 : decode cX9_saidBy 15 = .ok (.if_icmp .ge 64, 3) := by decide +kernel
theorem dX9_saidBy_18 : decode cX9_saidBy 18 = .ok (.aload_n 0, 1) := by decide +kernel
theorem dX9_saidBy_19 : decode cX9_saidBy 19 = .ok (.iload_n 1, 1) := by decide +kernel
theorem dX9_saidBy_20 : decode cX9_saidBy 20 = .ok (.iload 6, 2) := by decide +kernel
theorem dX9_saidBy_22 : decode cX9_saidBy 22 = .ok (.iload_n 2, 1) := by decide +kernel
theorem dX9_saidBy_23 : decode cX9_saidBy 23 = .ok (.iload_n 3, 1) := by decide +kernel
theorem dX9_saidBy_24 : decode cX9_saidBy 24 = .ok (.invokevirtual 170, 3) := by decide +kernel
theorem dX9_saidBy_27 : decode cX9_saidBy 27 = .ok (.istore 7, 2) := by decide +kernel
theorem dX9_saidBy_29 : decode cX9_saidBy 29 = .ok (.iload 7, 2) := by decide +kernel
theorem dX9_saidBy_31 : decode cX9_saidBy 31 = .ok (.iconst (-1), 1) := by decide +kernel
theorem dX9_saidBy_32 : decode cX9_saidBy 32 = .ok (.if_icmp .eq 41, 3) := by decide +kernel
theorem dX9_saidBy_35 : decode cX9_saidBy 35 = .ok (.lload 4, 2) := by decide +kernel
theorem dX9_saidBy_37 : decode cX9_saidBy 37 = .ok (.aload_n 0, 1) := by decide +kernel
theorem dX9_saidBy_38 : decode cX9_saidBy 38 = .ok (.getfield 9, 3) := by decide +kernel
theorem dX9_saidBy_41 : decode cX9_saidBy 41 = .ok (.iload 6, 2) := by decide +kernel
theorem dX9_saidBy_43 : decode cX9_saidBy 43 = .ok (.iaload, 1) := by decide +kernel
theorem dX9_saidBy_44 : decode cX9_saidBy 44 = .ok (.i2l, 1) := by decide +kernel
theorem dX9_saidBy_45 : decode cX9_saidBy 45 = .ok (.aload_n 0, 1) := by decide +kernel
theorem dX9_saidBy_46 : decode cX9_saidBy 46 = .ok (.getfield 19, 3) := by decide +kernel
theorem dX9_saidBy_49 : decode cX9_saidBy 49 = .ok (.iload 7, 2) := by decide +kernel
theorem dX9_saidBy_51 : decode cX9_saidBy 51 = .ok (.iaload, 1) := by decide +kernel
theorem dX9_saidBy_52 : decode cX9_saidBy 52 = .ok (.i2l, 1) := by decide +kernel
theorem dX9_saidBy_53 : decode cX9_saidBy 53 = .ok (.lmul, 1) := by decide +kernel
theorem dX9_saidBy_54 : decode cX9_saidBy 54 = .ok (.ladd, 1) := by decide +kernel
theorem dX9_saidBy_55 : decode cX9_saidBy 55 = .ok (.lstore 4, 2) := by decide +kernel
theorem dX9_saidBy_57 : decode cX9_saidBy 57 = .ok (.aload_n 0, 1) := by decide +kernel
theorem dX9_saidBy_58 : decode cX9_saidBy 58 = .ok (.dup, 1) := by decide +kernel
theorem dX9_saidBy_59 : decode cX9_saidBy 59 = .ok (.getfield 167, 3) := by decide +kernel
theorem dX9_saidBy_62 : decode cX9_saidBy 62 = .ok (.aload_n 0, 1) := by decide +kernel
theorem dX9_saidBy_63 : decode cX9_saidBy 63 = .ok (.getfield 9, 3) := by decide +kernel
theorem dX9_saidBy_66 : decode cX9_saidBy 66 = .ok (.iload 6, 2) := by decide +kernel
theorem dX9_saidBy_68 : decode cX9_saidBy 68 = .ok (.iaload, 1) := by decide +kernel
theorem dX9_saidBy_69 : decode cX9_saidBy 69 = .ok (.iadd, 1) := by decide +kernel
theorem dX9_saidBy_70 : decode cX9_saidBy 70 = .ok (.putfield 167, 3) := by decide +kernel
theorem dX9_saidBy_73 : decode cX9_saidBy 73 = .ok (.iinc 6 1, 3) := by decide +kernel
theorem dX9_saidBy_76 : decode cX9_saidBy 76 = .ok (.goto (-65), 3) := by decide +kernel
theorem dX9_saidBy_79 : decode cX9_saidBy 79 = .ok (.aload_n 0, 1) := by decide +kernel
theorem dX9_saidBy_80 : decode cX9_saidBy 80 = .ok (.getfield 167, 3) := by decide +kernel
theorem dX9_saidBy_83 : decode cX9_saidBy 83 = .ok (.ifCond .ne 7, 3) := by decide +kernel
theorem dX9_saidBy_86 : decode cX9_saidBy 86 = .ok (.lconst 0, 1) := by decide +kernel
theorem dX9_saidBy_87 : decode cX9_saidBy 87 = .ok (.goto 25, 3) := by decide +kernel
theorem dX9_saidBy_90 : decode cX9_saidBy 90 = .ok (.ldc2_w 128, 3) := by decide +kernel
theorem dX9_saidBy_93 : decode cX9_saidBy 93 = .ok (.lload 4, 2) := by decide +kernel
theorem dX9_saidBy_95 : decode cX9_saidBy 95 = .ok (.lmul, 1) := by decide +kernel
theorem dX9_saidBy_96 : decode cX9_saidBy 96 = .ok (.aload_n 0, 1) := by decide +kernel
theorem dX9_saidBy_97 : decode cX9_saidBy 97 = .ok (.getfield 167, 3) := by decide +kernel
theorem dX9_saidBy_100 : decode cX9_saidBy 100 = .ok (.i2l, 1) := by decide +kernel
theorem dX9_saidBy_101 : decode cX9_saidBy 101 = .ok (.ladd, 1) := by decide +kernel
theorem dX9_saidBy_102 : decode cX9_saidBy 102 = .ok (.ldc2_w 128, 3) := by decide +kernel
theorem dX9_saidBy_105 : decode cX9_saidBy 105 = .ok (.aload_n 0, 1) := by decide +kernel
theorem dX9_saidBy_106 : decode cX9_saidBy 106 = .ok (.getfield 167, 3) := by decide +kernel
theorem dX9_saidBy_109 : decode cX9_saidBy 109 = .ok (.i2l, 1) := by decide +kernel
theorem dX9_saidBy_110 : decode cX9_saidBy 110 = .ok (.lmul, 1) := by decide +kernel
theorem dX9_saidBy_111 : decode cX9_saidBy 111 = .ok (.ldiv, 1) := by decide +kernel
theorem dX9_saidBy_112 : decode cX9_saidBy 112 = .ok (.lreturn, 1) := by decide +kernel
theorem dX9_looks_0 : decode cX9_looks 0 = .ok (.aload_n 0, 1) := by decide +kernel
theorem dX9_looks_1 : decode cX9_looks 1 = .ok (.getfield 155, 3) := by decide +kernel
theorem dX9_looks_4 : decode cX9_looks 4 = .ok (.ifCond .eq 4, 3) := by decide +kernel
theorem dX9_looks_7 : decode cX9_looks 7 = .ok (.return_, 1) := by decide +kernel
theorem dX9_looks_8 : decode cX9_looks 8 = .ok (.iconst 0, 1) := by decide +kernel
theorem dX9_looks_9 : decode cX9_looks 9 = .ok (.istore_n 1, 1) := by decide +kernel
theorem dX9_looks_10 : decode cX9_looks 10 = .ok (.iload_n 1, 1) := by decide +kernel
theorem dX9_looks_11 : decode cX9_looks 11 = .ok (.bipush 80, 2) := by decide +kernel
theorem dX9_looks_13 : decode cX9_looks 13 = .ok (.if_icmp .ge 16, 3) := by decide +kernel
theorem dX9_looks_16 : decode cX9_looks 16 = .ok (.aload_n 0, 1) := by decide +kernel
theorem dX9_looks_17 : decode cX9_looks 17 = .ok (.getfield 29, 3) := by decide +kernel
theorem dX9_looks_20 : decode cX9_looks 20 = .ok (.iload_n 1, 1) := by decide +kernel
theorem dX9_looks_21 : decode cX9_looks 21 = .ok (.iconst 0, 1) := by decide +kernel
theorem dX9_looks_22 : decode cX9_looks 22 = .ok (.bastore, 1) := by decide +kernel
theorem dX9_looks_23 : decode cX9_looks 23 = .ok (.iinc 1 1, 3) := by decide +kernel
theorem dX9_looks_26 : decode cX9_looks 26 = .ok (.goto (-16), 3) := by decide +kernel
theorem dX9_looks_29 : decode cX9_looks 29 = .ok (.iconst 0, 1) := by decide +kernel
theorem dX9_looks_30 : decode cX9_looks 30 = .ok (.istore_n 1, 1) := by decide +kernel
theorem dX9_looks_31 : decode cX9_looks 31 = .ok (.iload_n 1, 1) := by decide +kernel
theorem dX9_looks_32 : decode cX9_looks 32 = .ok (.sipush 720, 3) := by decide +kernel
theorem dX9_looks_35 : decode cX9_looks 35 = .ok (.if_icmp .ge 23, 3) := by decide +kernel
theorem dX9_looks_38 : decode cX9_looks 38 = .ok (.aload_n 0, 1) := by decide +kernel
theorem dX9_looks_39 : decode cX9_looks 39 = .ok (.getfield 33, 3) := by decide +kernel
theorem dX9_looks_42 : decode cX9_looks 42 = .ok (.iload_n 1, 1) := by decide +kernel
theorem dX9_looks_43 : decode cX9_looks 43 = .ok (.lconst 0, 1) := by decide +kernel
theorem dX9_looks_44 : decode cX9_looks 44 = .ok (.lastore, 1) := by decide +kernel
theorem dX9_looks_45 : decode cX9_looks 45 = .ok (.aload_n 0, 1) := by decide +kernel
theorem dX9_looks_46 : decode cX9_looks 46 = .ok (.getfield 37, 3) := by decide +kernel
theorem dX9_looks_49 : decode cX9_looks 49 = .ok (.iload_n 1, 1) := by decide +kernel
theorem dX9_looks_50 : decode cX9_looks 50 = .ok (.iconst 0, 1) := by decide +kernel
theorem dX9_looks_51 : decode cX9_looks 51 = .ok (.iastore, 1) := by decide +kernel
theorem dX9_looks_52 : decode cX9_looks 52 = .ok (.iinc 1 1, 3) := by decide +kernel
theorem dX9_looks_55 : decode cX9_looks 55 = .ok (.goto (-24), 3) := by decide +kernel
theorem dX9_looks_58 : decode cX9_looks 58 = .ok (.iconst 0, 1) := by decide +kernel
theorem dX9_looks_59 : decode cX9_looks 59 = .ok (.istore_n 1, 1) := by decide +kernel
theorem dX9_looks_60 : decode cX9_looks 60 = .ok (.iload_n 1, 1) := by decide +kernel
theorem dX9_looks_61 : decode cX9_looks 61 = .ok (.aload_n 0, 1) := by decide +kernel
theorem dX9_looks_62 : decode cX9_looks 62 = .ok (.getfield 161, 3) := by decide +kernel
theorem dX9_looks_65 : decode cX9_looks 65 = .ok (.if_icmp .ge 102, 3) := by decide +kernel
theorem dX9_looks_68 : decode cX9_looks 68 = .ok (.aload_n 0, 1) := by decide +kernel
theorem dX9_looks_69 : decode cX9_looks 69 = .ok (.getfield 29, 3) := by decide +kernel
theorem dX9_looks_72 : decode cX9_looks 72 = .ok (.iload_n 1, 1) := by decide +kernel
theorem dX9_looks_73 : decode cX9_looks 73 = .ok (.aload_n 0, 1) := by decide +kernel
theorem dX9_looks_74 : decode cX9_looks 74 = .ok (.aload_n 0, 1) := by decide +kernel
theorem dX9_looks_75 : decode cX9_looks 75 = .ok (.getfield 16, 3) := by decide +kernel
theorem dX9_looks_78 : decode cX9_looks 78 = .ok (.iload_n 1, 1) := by decide +kernel
theorem dX9_looks_79 : decode cX9_looks 79 = .ok (.iaload, 1) := by decide +kernel
theorem dX9_looks_80 : decode cX9_looks 80 = .ok (.aload_n 0, 1) := by decide +kernel
theorem dX9_looks_81 : decode cX9_looks 81 = .ok (.getfield 13, 3) := by decide +kernel
theorem dX9_looks_84 : decode cX9_looks 84 = .ok (.iload_n 1, 1) := by decide +kernel
theorem dX9_looks_85 : decode cX9_looks 85 = .ok (.iaload, 1) := by decide +kernel
theorem dX9_looks_86 : decode cX9_looks 86 = .ok (.aload_n 0, 1) := by decide +kernel
theorem dX9_looks_87 : decode cX9_looks 87 = .ok (.getfield 25, 3) := by decide +kernel
theorem dX9_looks_90 : decode cX9_looks 90 = .ok (.bipush 9, 2) := by decide +kernel
theorem dX9_looks_92 : decode cX9_looks 92 = .ok (.invokevirtual 170, 3) := by decide +kernel
theorem dX9_looks_95 : decode cX9_looks 95 = .ok (.iload_n 1, 1) := by decide +kernel
theorem dX9_looks_96 : decode cX9_looks 96 = .ok (.if_icmp .ne 7, 3) := by decide +kernel
theorem dX9_looks_99 : decode cX9_looks 99 = .ok (.iconst 1, 1) := by decide +kernel
theorem dX9_looks_100 : decode cX9_looks 100 = .ok (.goto 4, 3) := by decide +kernel
theorem dX9_looks_103 : decode cX9_looks 103 = .ok (.iconst 0, 1) := by decide +kernel
theorem dX9_looks_104 : decode cX9_looks 104 = .ok (.bastore, 1) := by decide +kernel
theorem dX9_looks_105 : decode cX9_looks 105 = .ok (.aload_n 0, 1) := by decide +kernel
theorem dX9_looks_106 : decode cX9_looks 106 = .ok (.getfield 37, 3) := by decide +kernel
theorem dX9_looks_109 : decode cX9_looks 109 = .ok (.aload_n 0, 1) := by decide +kernel
theorem dX9_looks_110 : decode cX9_looks 110 = .ok (.getfield 16, 3) := by decide +kernel
theorem dX9_looks_113 : decode cX9_looks 113 = .ok (.iload_n 1, 1) := by decide +kernel
theorem dX9_looks_114 : decode cX9_looks 114 = .ok (.iaload, 1) := by decide +kernel
theorem dX9_looks_115 : decode cX9_looks 115 = .ok (.iaload, 1) := by decide +kernel
theorem dX9_looks_116 : decode cX9_looks 116 = .ok (.ifCond .ne 45, 3) := by decide +kernel
theorem dX9_looks_119 : decode cX9_looks 119 = .ok (.aload_n 0, 1) := by decide +kernel
theorem dX9_looks_120 : decode cX9_looks 120 = .ok (.getfield 33, 3) := by decide +kernel
theorem dX9_looks_123 : decode cX9_looks 123 = .ok (.aload_n 0, 1) := by decide +kernel
theorem dX9_looks_124 : decode cX9_looks 124 = .ok (.getfield 16, 3) := by decide +kernel
theorem dX9_looks_127 : decode cX9_looks 127 = .ok (.iload_n 1, 1) := by decide +kernel
theorem dX9_looks_128 : decode cX9_looks 128 = .ok (.iaload, 1) := by decide +kernel
theorem dX9_looks_129 : decode cX9_looks 129 = .ok (.aload_n 0, 1) := by decide +kernel
theorem dX9_looks_130 : decode cX9_looks 130 = .ok (.aload_n 0, 1) := by decide +kernel
theorem dX9_looks_131 : decode cX9_looks 131 = .ok (.getfield 16, 3) := by decide +kernel
theorem dX9_looks_134 : decode cX9_looks 134 = .ok (.iload_n 1, 1) := by decide +kernel
theorem dX9_looks_135 : decode cX9_looks 135 = .ok (.iaload, 1) := by decide +kernel
theorem dX9_looks_136 : decode cX9_looks 136 = .ok (.aload_n 0, 1) := by decide +kernel
theorem dX9_looks_137 : decode cX9_looks 137 = .ok (.getfield 25, 3) := by decide +kernel
theorem dX9_looks_140 : decode cX9_looks 140 = .ok (.bipush 9, 2) := by decide +kernel
theorem dX9_looks_142 : decode cX9_looks 142 = .ok (.invokevirtual 173, 3) := by decide +kernel
theorem dX9_looks_145 : decode cX9_looks 145 = .ok (.lastore, 1) := by decide +kernel
theorem dX9_looks_146 : decode cX9_looks 146 = .ok (.aload_n 0, 1) := by decide +kernel
theorem dX9_looks_147 : decode cX9_looks 147 = .ok (.getfield 37, 3) := by decide +kernel
theorem dX9_looks_150 : decode cX9_looks 150 = .ok (.aload_n 0, 1) := by decide +kernel
theorem dX9_looks_151 : decode cX9_looks 151 = .ok (.getfield 16, 3) := by decide +kernel
theorem dX9_looks_154 : decode cX9_looks 154 = .ok (.iload_n 1, 1) := by decide +kernel
theorem dX9_looks_155 : decode cX9_looks 155 = .ok (.iaload, 1) := by decide +kernel
theorem dX9_looks_156 : decode cX9_looks 156 = .ok (.aload_n 0, 1) := by decide +kernel
theorem dX9_looks_157 : decode cX9_looks 157 = .ok (.getfield 167, 3) := by decide +kernel
theorem dX9_looks_160 : decode cX9_looks 160 = .ok (.iastore, 1) := by decide +kernel
theorem dX9_looks_161 : decode cX9_looks 161 = .ok (.iinc 1 1, 3) := by decide +kernel
theorem dX9_looks_164 : decode cX9_looks 164 = .ok (.goto (-104), 3) := by decide +kernel
theorem dX9_looks_167 : decode cX9_looks 167 = .ok (.iconst 0, 1) := by decide +kernel
theorem dX9_looks_168 : decode cX9_looks 168 = .ok (.istore_n 1, 1) := by decide +kernel
theorem dX9_looks_169 : decode cX9_looks 169 = .ok (.iload_n 1, 1) := by decide +kernel
theorem dX9_looks_170 : decode cX9_looks 170 = .ok (.sipush 144, 3) := by decide +kernel
theorem dX9_looks_173 : decode cX9_looks 173 = .ok (.if_icmp .ge 32, 3) := by decide +kernel
theorem dX9_looks_176 : decode cX9_looks 176 = .ok (.aload_n 0, 1) := by decide +kernel
theorem dX9_looks_177 : decode cX9_looks 177 = .ok (.iload_n 1, 1) := by decide +kernel
theorem dX9_looks_178 : decode cX9_looks 178 = .ok (.bipush 72, 2) := by decide +kernel
theorem dX9_looks_180 : decode cX9_looks 180 = .ok (.idiv, 1) := by decide +kernel
theorem dX9_looks_181 : decode cX9_looks 181 = .ok (.iload_n 1, 1) := by decide +kernel
theorem dX9_looks_182 : decode cX9_looks 182 = .ok (.bipush 18, 2) := by decide +kernel
theorem dX9_looks_184 : decode cX9_looks 184 = .ok (.idiv, 1) := by decide +kernel
theorem dX9_looks_185 : decode cX9_looks 185 = .ok (.iconst 4, 1) := by decide +kernel
theorem dX9_looks_186 : decode cX9_looks 186 = .ok (.irem, 1) := by decide +kernel
theorem dX9_looks_187 : decode cX9_looks 187 = .ok (.iload_n 1, 1) := by decide +kernel
theorem dX9_looks_188 : decode cX9_looks 188 = .ok (.iconst 3, 1) := by decide +kernel
theorem dX9_looks_189 : decode cX9_looks 189 = .ok (.idiv, 1) := by decide +kernel
theorem dX9_looks_190 : decode cX9_looks 190 = .ok (.bipush 6, 2) := by decide +kernel
theorem dX9_looks_192 : decode cX9_looks 192 = .ok (.irem, 1) := by decide +kernel
theorem dX9_looks_193 : decode cX9_looks 193 = .ok (.iload_n 1, 1) := by decide +kernel
theorem dX9_looks_194 : decode cX9_looks 194 = .ok (.iconst 3, 1) := by decide +kernel
theorem dX9_looks_195 : decode cX9_looks 195 = .ok (.irem, 1) := by decide +kernel
theorem dX9_looks_196 : decode cX9_looks 196 = .ok (.invokevirtual 177, 3) := by decide +kernel
theorem dX9_looks_199 : decode cX9_looks 199 = .ok (.iinc 1 1, 3) := by decide +kernel
theorem dX9_looks_202 : decode cX9_looks 202 = .ok (.goto (-33), 3) := by decide +kernel
theorem dX9_looks_205 : decode cX9_looks 205 = .ok (.iconst 0, 1) := by decide +kernel
theorem dX9_looks_206 : decode cX9_looks 206 = .ok (.istore_n 1, 1) := by decide +kernel
theorem dX9_looks_207 : decode cX9_looks 207 = .ok (.iload_n 1, 1) := by decide +kernel
theorem dX9_looks_208 : decode cX9_looks 208 = .ok (.bipush 96, 2) := by decide +kernel
theorem dX9_looks_210 : decode cX9_looks 210 = .ok (.if_icmp .ge 27, 3) := by decide +kernel
theorem dX9_looks_213 : decode cX9_looks 213 = .ok (.aload_n 0, 1) := by decide +kernel
theorem dX9_looks_214 : decode cX9_looks 214 = .ok (.iload_n 1, 1) := by decide +kernel
theorem dX9_looks_215 : decode cX9_looks 215 = .ok (.bipush 48, 2) := by decide +kernel
theorem dX9_looks_217 : decode cX9_looks 217 = .ok (.idiv, 1) := by decide +kernel
theorem dX9_looks_218 : decode cX9_looks 218 = .ok (.iload_n 1, 1) := by decide +kernel
theorem dX9_looks_219 : decode cX9_looks 219 = .ok (.bipush 12, 2) := by decide +kernel
theorem dX9_looks_221 : decode cX9_looks 221 = .ok (.idiv, 1) := by decide +kernel
theorem dX9_looks_222 : decode cX9_looks 222 = .ok (.iconst 4, 1) := by decide +kernel
theorem dX9_looks_223 : decode cX9_looks 223 = .ok (.irem, 1) := by decide +kernel
theorem dX9_looks_224 : decode cX9_looks 224 = .ok (.iload_n 1, 1) := by decide +kernel
theorem dX9_looks_225 : decode cX9_looks 225 = .ok (.bipush 12, 2) := by decide +kernel
theorem dX9_looks_227 : decode cX9_looks 227 = .ok (.irem, 1) := by decide +kernel
theorem dX9_looks_228 : decode cX9_looks 228 = .ok (.invokevirtual 181, 3) := by decide +kernel
theorem dX9_looks_231 : decode cX9_looks 231 = .ok (.iinc 1 1, 3) := by decide +kernel
theorem dX9_looks_234 : decode cX9_looks 234 = .ok (.goto (-27), 3) := by decide +kernel
theorem dX9_looks_237 : decode cX9_looks 237 = .ok (.aload_n 0, 1) := by decide +kernel
theorem dX9_looks_238 : decode cX9_looks 238 = .ok (.iconst 1, 1) := by decide +kernel
theorem dX9_looks_239 : decode cX9_looks 239 = .ok (.putfield 155, 3) := by decide +kernel
theorem dX9_looks_242 : decode cX9_looks 242 = .ok (.return_, 1) := by decide +kernel
theorem dX9_rowIs_0 : decode cX9_rowIs 0 = .ok (.iload_n 1, 1) := by decide +kernel
theorem dX9_rowIs_1 : decode cX9_rowIs 1 = .ok (.i2l, 1) := by decide +kernel
theorem dX9_rowIs_2 : decode cX9_rowIs 2 = .ok (.lconst 0, 1) := by decide +kernel
theorem dX9_rowIs_3 : decode cX9_rowIs 3 = .ok (.aload_n 0, 1) := by decide +kernel
theorem dX9_rowIs_4 : decode cX9_rowIs 4 = .ok (.getfield 161, 3) := by decide +kernel
theorem dX9_rowIs_7 : decode cX9_rowIs 7 = .ok (.iconst 1, 1) := by decide +kernel
theorem dX9_rowIs_8 : decode cX9_rowIs 8 = .ok (.isub, 1) := by decide +kernel
theorem dX9_rowIs_9 : decode cX9_rowIs 9 = .ok (.i2l, 1) := by decide +kernel
theorem dX9_rowIs_10 : decode cX9_rowIs 10 = .ok (.invokestatic 106, 3) := by decide +kernel
theorem dX9_rowIs_13 : decode cX9_rowIs 13 = .ok (.ifCond .ne 6, 3) := by decide +kernel
theorem dX9_rowIs_16 : decode cX9_rowIs 16 = .ok (.ldc 185, 2) := by decide +kernel
theorem dX9_rowIs_18 : decode cX9_rowIs 18 = .ok (.ireturn, 1) := by decide +kernel
theorem dX9_rowIs_19 : decode cX9_rowIs 19 = .ok (.aload_n 0, 1) := by decide +kernel
theorem dX9_rowIs_20 : decode cX9_rowIs 20 = .ok (.invokevirtual 186, 3) := by decide +kernel
theorem dX9_rowIs_23 : decode cX9_rowIs 23 = .ok (.iload_n 2, 1) := by decide +kernel
theorem dX9_rowIs_24 : decode cX9_rowIs 24 = .ok (.tableswitch 79 0 4 #[36, 43, 50, 57, 64], 36) := by decide +kernel
theorem dX9_rowIs_60 : decode cX9_rowIs 60 = .ok (.aload_n 0, 1) := by decide +kernel
theorem dX9_rowIs_61 : decode cX9_rowIs 61 = .ok (.getfield 13, 3) := by decide +kernel
theorem dX9_rowIs_64 : decode cX9_rowIs 64 = .ok (.iload_n 1, 1) := by decide +kernel
theorem dX9_rowIs_65 : decode cX9_rowIs 65 = .ok (.iaload, 1) := by decide +kernel
theorem dX9_rowIs_66 : decode cX9_rowIs 66 = .ok (.ireturn, 1) := by decide +kernel
theorem dX9_rowIs_67 : decode cX9_rowIs 67 = .ok (.aload_n 0, 1) := by decide +kernel
theorem dX9_rowIs_68 : decode cX9_rowIs 68 = .ok (.getfield 16, 3) := by decide +kernel
theorem dX9_rowIs_71 : decode cX9_rowIs 71 = .ok (.iload_n 1, 1) := by decide +kernel
theorem dX9_rowIs_72 : decode cX9_rowIs 72 = .ok (.iaload, 1) := by decide +kernel
theorem dX9_rowIs_73 : decode cX9_rowIs 73 = .ok (.ireturn, 1) := by decide +kernel
theorem dX9_rowIs_74 : decode cX9_rowIs 74 = .ok (.aload_n 0, 1) := by decide +kernel
theorem dX9_rowIs_75 : decode cX9_rowIs 75 = .ok (.getfield 19, 3) := by decide +kernel
theorem dX9_rowIs_78 : decode cX9_rowIs 78 = .ok (.iload_n 1, 1) := by decide +kernel
theorem dX9_rowIs_79 : decode cX9_rowIs 79 = .ok (.iaload, 1) := by decide +kernel
theorem dX9_rowIs_80 : decode cX9_rowIs 80 = .ok (.ireturn, 1) := by decide +kernel
theorem dX9_rowIs_81 : decode cX9_rowIs 81 = .ok (.aload_n 0, 1) := by decide +kernel
theorem dX9_rowIs_82 : decode cX9_rowIs 82 = .ok (.getfield 22, 3) := by decide +kernel
theorem dX9_rowIs_85 : decode cX9_rowIs 85 = .ok (.iload_n 1, 1) := by decide +kernel
theorem dX9_rowIs_86 : decode cX9_rowIs 86 = .ok (.iaload, 1) := by decide +kernel
theorem dX9_rowIs_87 : decode cX9_rowIs 87 = .ok (.ireturn, 1) := by decide +kernel
theorem dX9_rowIs_88 : decode cX9_rowIs 88 = .ok (.aload_n 0, 1) := by decide +kernel
theorem dX9_rowIs_89 : decode cX9_rowIs 89 = .ok (.getfield 29, 3) := by decide +kernel
theorem dX9_rowIs_92 : decode cX9_rowIs 92 = .ok (.iload_n 1, 1) := by decide +kernel
theorem dX9_rowIs_93 : decode cX9_rowIs 93 = .ok (.baload, 1) := by decide +kernel
theorem dX9_rowIs_94 : decode cX9_rowIs 94 = .ok (.ifCond .eq 7, 3) := by decide +kernel
theorem dX9_rowIs_97 : decode cX9_rowIs 97 = .ok (.iconst 1, 1) := by decide +kernel
theorem dX9_rowIs_98 : decode cX9_rowIs 98 = .ok (.goto 4, 3) := by decide +kernel
theorem dX9_rowIs_101 : decode cX9_rowIs 101 = .ok (.iconst 0, 1) := by decide +kernel
theorem dX9_rowIs_102 : decode cX9_rowIs 102 = .ok (.ireturn, 1) := by decide +kernel
theorem dX9_rowIs_103 : decode cX9_rowIs 103 = .ok (.ldc 185, 2) := by decide +kernel
theorem dX9_rowIs_105 : decode cX9_rowIs 105 = .ok (.ireturn, 1) := by decide +kernel
theorem dX9_asOf_0 : decode cX9_asOf 0 = .ok (.iload_n 1, 1) := by decide +kernel
theorem dX9_asOf_1 : decode cX9_asOf 1 = .ok (.i2l, 1) := by decide +kernel
theorem dX9_asOf_2 : decode cX9_asOf 2 = .ok (.lconst 0, 1) := by decide +kernel
theorem dX9_asOf_3 : decode cX9_asOf 3 = .ok (.ldc2_w 153, 3) := by decide +kernel
theorem dX9_asOf_6 : decode cX9_asOf 6 = .ok (.invokestatic 106, 3) := by decide +kernel
theorem dX9_asOf_9 : decode cX9_asOf 9 = .ok (.ifCond .ne 6, 3) := by decide +kernel
theorem dX9_asOf_12 : decode cX9_asOf 12 = .ok (.bipush (-2), 2) := by decide +kernel
theorem dX9_asOf_14 : decode cX9_asOf 14 = .ok (.ireturn, 1) := by decide +kernel
theorem dX9_asOf_15 : decode cX9_asOf 15 = .ok (.aload_n 0, 1) := by decide +kernel
theorem dX9_asOf_16 : decode cX9_asOf 16 = .ok (.getfield 25, 3) := by decide +kernel
theorem dX9_asOf_19 : decode cX9_asOf 19 = .ok (.istore_n 2, 1) := by decide +kernel
theorem dX9_asOf_20 : decode cX9_asOf 20 = .ok (.aload_n 0, 1) := by decide +kernel
theorem dX9_asOf_21 : decode cX9_asOf 21 = .ok (.iload_n 1, 1) := by decide +kernel
theorem dX9_asOf_22 : decode cX9_asOf 22 = .ok (.putfield 25, 3) := by decide +kernel
theorem dX9_asOf_25 : decode cX9_asOf 25 = .ok (.aload_n 0, 1) := by decide +kernel
theorem dX9_asOf_26 : decode cX9_asOf 26 = .ok (.iconst 0, 1) := by decide +kernel
theorem dX9_asOf_27 : decode cX9_asOf 27 = .ok (.putfield 155, 3) := by decide +kernel
theorem dX9_asOf_30 : decode cX9_asOf 30 = .ok (.iload_n 2, 1) := by decide +kernel
theorem dX9_asOf_31 : decode cX9_asOf 31 = .ok (.ireturn, 1) := by decide +kernel
theorem dX9_column_0 : decode cX9_column 0 = .ok (.iload_n 1, 1) := by decide +kernel
theorem dX9_column_1 : decode cX9_column 1 = .ok (.i2l, 1) := by decide +kernel
theorem dX9_column_2 : decode cX9_column 2 = .ok (.lconst 0, 1) := by decide +kernel
theorem dX9_column_3 : decode cX9_column 3 = .ok (.ldc2_w 112, 3) := by decide +kernel
theorem dX9_column_6 : decode cX9_column 6 = .ok (.invokestatic 106, 3) := by decide +kernel
theorem dX9_column_9 : decode cX9_column 9 = .ok (.ifCond .eq 13, 3) := by decide +kernel
theorem dX9_column_12 : decode cX9_column 12 = .ok (.iload_n 2, 1) := by decide +kernel
theorem dX9_column_13 : decode cX9_column 13 = .ok (.i2l, 1) := by decide +kernel
theorem dX9_column_14 : decode cX9_column 14 = .ok (.lconst 0, 1) := by decide +kernel
theorem dX9_column_15 : decode cX9_column 15 = .ok (.lconst 1, 1) := by decide +kernel
theorem dX9_column_16 : decode cX9_column 16 = .ok (.invokestatic 106, 3) := by decide +kernel
theorem dX9_column_19 : decode cX9_column 19 = .ok (.ifCond .ne 6, 3) := by decide +kernel
theorem dX9_column_22 : decode cX9_column 22 = .ok (.bipush (-2), 2) := by decide +kernel
theorem dX9_column_24 : decode cX9_column 24 = .ok (.ireturn, 1) := by decide +kernel
theorem dX9_column_25 : decode cX9_column 25 = .ok (.aload_n 0, 1) := by decide +kernel
theorem dX9_column_26 : decode cX9_column 26 = .ok (.getfield 40, 3) := by decide +kernel
theorem dX9_column_29 : decode cX9_column 29 = .ok (.iload_n 1, 1) := by decide +kernel
theorem dX9_column_30 : decode cX9_column 30 = .ok (.iaload, 1) := by decide +kernel
theorem dX9_column_31 : decode cX9_column 31 = .ok (.istore_n 3, 1) := by decide +kernel
theorem dX9_column_32 : decode cX9_column 32 = .ok (.aload_n 0, 1) := by decide +kernel
theorem dX9_column_33 : decode cX9_column 33 = .ok (.getfield 40, 3) := by decide +kernel
theorem dX9_column_36 : decode cX9_column 36 = .ok (.iload_n 1, 1) := by decide +kernel
theorem dX9_column_37 : decode cX9_column 37 = .ok (.iload_n 2, 1) := by decide +kernel
theorem dX9_column_38 : decode cX9_column 38 = .ok (.iastore, 1) := by decide +kernel
theorem dX9_column_39 : decode cX9_column 39 = .ok (.aload_n 0, 1) := by decide +kernel
theorem dX9_column_40 : decode cX9_column 40 = .ok (.iconst 0, 1) := by decide +kernel
theorem dX9_column_41 : decode cX9_column 41 = .ok (.putfield 155, 3) := by decide +kernel
theorem dX9_column_44 : decode cX9_column 44 = .ok (.iload_n 3, 1) := by decide +kernel
theorem dX9_column_45 : decode cX9_column 45 = .ok (.ireturn, 1) := by decide +kernel
theorem dX9_said_0 : decode cX9_said 0 = .ok (.iload_n 1, 1) := by decide +kernel
theorem dX9_said_1 : decode cX9_said 1 = .ok (.invokestatic 133, 3) := by decide +kernel
theorem dX9_said_4 : decode cX9_said 4 = .ok (.ifCond .ne 7, 3) := by decide +kernel
theorem dX9_said_7 : decode cX9_said 7 = .ok (.ldc2_w 189, 3) := by decide +kernel
theorem dX9_said_10 : decode cX9_said 10 = .ok (.lreturn, 1) := by decide +kernel
theorem dX9_said_11 : decode cX9_said 11 = .ok (.aload_n 0, 1) := by decide +kernel
theorem dX9_said_12 : decode cX9_said 12 = .ok (.invokevirtual 186, 3) := by decide +kernel
theorem dX9_said_15 : decode cX9_said 15 = .ok (.aload_n 0, 1) := by decide +kernel
theorem dX9_said_16 : decode cX9_said 16 = .ok (.getfield 37, 3) := by decide +kernel
theorem dX9_said_19 : decode cX9_said 19 = .ok (.iload_n 1, 1) := by decide +kernel
theorem dX9_said_20 : decode cX9_said 20 = .ok (.iaload, 1) := by decide +kernel
theorem dX9_said_21 : decode cX9_said 21 = .ok (.ifCond .ne 9, 3) := by decide +kernel
theorem dX9_said_24 : decode cX9_said 24 = .ok (.ldc2_w 191, 3) := by decide +kernel
theorem dX9_said_27 : decode cX9_said 27 = .ok (.goto 9, 3) := by decide +kernel
theorem dX9_said_30 : decode cX9_said 30 = .ok (.aload_n 0, 1) := by decide +kernel
theorem dX9_said_31 : decode cX9_said 31 = .ok (.getfield 33, 3) := by decide +kernel
theorem dX9_said_34 : decode cX9_said 34 = .ok (.iload_n 1, 1) := by decide +kernel
theorem dX9_said_35 : decode cX9_said 35 = .ok (.laload, 1) := by decide +kernel
theorem dX9_said_36 : decode cX9_said 36 = .ok (.lreturn, 1) := by decide +kernel
theorem dX9_weight_0 : decode cX9_weight 0 = .ok (.iload_n 1, 1) := by decide +kernel
theorem dX9_weight_1 : decode cX9_weight 1 = .ok (.invokestatic 133, 3) := by decide +kernel
theorem dX9_weight_4 : decode cX9_weight 4 = .ok (.ifCond .ne 6, 3) := by decide +kernel
theorem dX9_weight_7 : decode cX9_weight 7 = .ok (.bipush (-2), 2) := by decide +kernel
theorem dX9_weight_9 : decode cX9_weight 9 = .ok (.ireturn, 1) := by decide +kernel
theorem dX9_weight_10 : decode cX9_weight 10 = .ok (.aload_n 0, 1) := by decide +kernel
theorem dX9_weight_11 : decode cX9_weight 11 = .ok (.invokevirtual 186, 3) := by decide +kernel
theorem dX9_weight_14 : decode cX9_weight 14 = .ok (.aload_n 0, 1) := by decide +kernel
theorem dX9_weight_15 : decode cX9_weight 15 = .ok (.getfield 37, 3) := by decide +kernel
theorem dX9_weight_18 : decode cX9_weight 18 = .ok (.iload_n 1, 1) := by decide +kernel
theorem dX9_weight_19 : decode cX9_weight 19 = .ok (.iaload, 1) := by decide +kernel
theorem dX9_weight_20 : decode cX9_weight 20 = .ok (.ireturn, 1) := by decide +kernel
theorem dX9_parts_0 : decode cX9_parts 0 = .ok (.lconst 0, 1) := by decide +kernel
theorem dX9_parts_1 : decode cX9_parts 1 = .ok (.lstore 4, 2) := by decide +kernel
theorem dX9_parts_3 : decode cX9_parts 3 = .ok (.iconst 0, 1) := by decide +kernel
theorem dX9_parts_4 : decode cX9_parts 4 = .ok (.istore 6, 2) := by decide +kernel
theorem dX9_parts_6 : decode cX9_parts 6 = .ok (.iload 6, 2) := by decide +kernel
theorem dX9_parts_8 : decode cX9_parts 8 = .ok (.iload_n 3, 1) := by decide +kernel
theorem dX9_parts_9 : decode cX9_parts 9 = .ok (.if_icmp .ge 21, 3) := by decide +kernel
theorem dX9_parts_12 : decode cX9_parts 12 = .ok (.lload 4, 2) := by decide +kernel
theorem dX9_parts_14 : decode cX9_parts 14 = .ok (.aload_n 0, 1) := by decide +kernel
theorem dX9_parts_15 : decode cX9_parts 15 = .ok (.getfield 43, 3) := by decide +kernel
theorem dX9_parts_18 : decode cX9_parts 18 = .ok (.iload 6, 2) := by decide +kernel
theorem dX9_parts_20 : decode cX9_parts 20 = .ok (.laload, 1) := by decide +kernel
theorem dX9_parts_21 : decode cX9_parts 21 = .ok (.ladd, 1) := by decide +kernel
theorem dX9_parts_22 : decode cX9_parts 22 = .ok (.lstore 4, 2) := by decide +kernel
theorem dX9_parts_24 : decode cX9_parts 24 = .ok (.iinc 6 1, 3) := by decide +kernel
theorem dX9_parts_27 : decode cX9_parts 27 = .ok (.goto (-21), 3) := by decide +kernel
theorem dX9_parts_30 : decode cX9_parts 30 = .ok (.lload_n 1, 1) := by decide +kernel
theorem dX9_parts_31 : decode cX9_parts 31 = .ok (.lstore 6, 2) := by decide +kernel
theorem dX9_parts_33 : decode cX9_parts 33 = .ok (.iconst 0, 1) := by decide +kernel
theorem dX9_parts_34 : decode cX9_parts 34 = .ok (.istore 8, 2) := by decide +kernel
theorem dX9_parts_36 : decode cX9_parts 36 = .ok (.iload 8, 2) := by decide +kernel
theorem dX9_parts_38 : decode cX9_parts 38 = .ok (.iload_n 3, 1) := by decide +kernel
theorem dX9_parts_39 : decode cX9_parts 39 = .ok (.if_icmp .ge 69, 3) := by decide +kernel
theorem dX9_parts_42 : decode cX9_parts 42 = .ok (.aload_n 0, 1) := by decide +kernel
theorem dX9_parts_43 : decode cX9_parts 43 = .ok (.getfield 46, 3) := by decide +kernel
theorem dX9_parts_46 : decode cX9_parts 46 = .ok (.iload 8, 2) := by decide +kernel
theorem dX9_parts_48 : decode cX9_parts 48 = .ok (.lload_n 1, 1) := by decide +kernel
theorem dX9_parts_49 : decode cX9_parts 49 = .ok (.aload_n 0, 1) := by decide +kernel
theorem dX9_parts_50 : decode cX9_parts 50 = .ok (.getfield 43, 3) := by decide +kernel
theorem dX9_parts_53 : decode cX9_parts 53 = .ok (.iload 8, 2) := by decide +kernel
theorem dX9_parts_55 : decode cX9_parts 55 = .ok (.laload, 1) := by decide +kernel
theorem dX9_parts_56 : decode cX9_parts 56 = .ok (.lmul, 1) := by decide +kernel
theorem dX9_parts_57 : decode cX9_parts 57 = .ok (.lload 4, 2) := by decide +kernel
theorem dX9_parts_59 : decode cX9_parts 59 = .ok (.invokestatic 193, 3) := by decide +kernel
theorem dX9_parts_62 : decode cX9_parts 62 = .ok (.lastore, 1) := by decide +kernel
theorem dX9_parts_63 : decode cX9_parts 63 = .ok (.aload_n 0, 1) := by decide +kernel
theorem dX9_parts_64 : decode cX9_parts 64 = .ok (.getfield 49, 3) := by decide +kernel
theorem dX9_parts_67 : decode cX9_parts 67 = .ok (.iload 8, 2) := by decide +kernel
theorem dX9_parts_69 : decode cX9_parts 69 = .ok (.lload_n 1, 1) := by decide +kernel
theorem dX9_parts_70 : decode cX9_parts 70 = .ok (.aload_n 0, 1) := by decide +kernel
theorem dX9_parts_71 : decode cX9_parts 71 = .ok (.getfield 43, 3) := by decide +kernel
theorem dX9_parts_74 : decode cX9_parts 74 = .ok (.iload 8, 2) := by decide +kernel
theorem dX9_parts_76 : decode cX9_parts 76 = .ok (.laload, 1) := by decide +kernel
theorem dX9_parts_77 : decode cX9_parts 77 = .ok (.lmul, 1) := by decide +kernel
theorem dX9_parts_78 : decode cX9_parts 78 = .ok (.aload_n 0, 1) := by decide +kernel
theorem dX9_parts_79 : decode cX9_parts 79 = .ok (.getfield 46, 3) := by decide +kernel
theorem dX9_parts_82 : decode cX9_parts 82 = .ok (.iload 8, 2) := by decide +kernel
theorem dX9_parts_84 : decode cX9_parts 84 = .ok (.laload, 1) := by decide +kernel
theorem dX9_parts_85 : decode cX9_parts 85 = .ok (.lload 4, 2) := by decide +kernel
theorem dX9_parts_87 : decode cX9_parts 87 = .ok (.lmul, 1) := by decide +kernel
theorem dX9_parts_88 : decode cX9_parts 88 = .ok (.lsub, 1) := by decide +kernel
theorem dX9_parts_89 : decode cX9_parts 89 = .ok (.lastore, 1) := by decide +kernel
theorem dX9_parts_90 : decode cX9_parts 90 = .ok (.lload 6, 2) := by decide +kernel
theorem dX9_parts_92 : decode cX9_parts 92 = .ok (.aload_n 0, 1) := by decide +kernel
theorem dX9_parts_93 : decode cX9_parts 93 = .ok (.getfield 46, 3) := by decide +kernel
theorem dX9_parts_96 : decode cX9_parts 96 = .ok (.iload 8, 2) := by decide +kernel
theorem dX9_parts_98 : decode cX9_parts 98 = .ok (.laload, 1) := by decide +kernel
theorem dX9_parts_99 : decode cX9_parts 99 = .ok (.lsub, 1) := by decide +kernel
theorem dX9_parts_100 : decode cX9_parts 100 = .ok (.lstore 6, 2) := by decide +kernel
theorem dX9_parts_102 : decode cX9_parts 102 = .ok (.iinc 8 1, 3) := by decide +kernel
theorem dX9_parts_105 : decode cX9_parts 105 = .ok (.goto (-69), 3) := by decide +kernel
theorem dX9_parts_108 : decode cX9_parts 108 = .ok (.aload_n 0, 1) := by decide +kernel
theorem dX9_parts_109 : decode cX9_parts 109 = .ok (.lload 6, 2) := by decide +kernel
theorem dX9_parts_111 : decode cX9_parts 111 = .ok (.iload_n 3, 1) := by decide +kernel
theorem dX9_parts_112 : decode cX9_parts 112 = .ok (.invokevirtual 197, 3) := by decide +kernel
theorem dX9_parts_115 : decode cX9_parts 115 = .ok (.return_, 1) := by decide +kernel
theorem dX9_givesRest_0 : decode cX9_givesRest 0 = .ok (.lload_n 1, 1) := by decide +kernel
theorem dX9_givesRest_1 : decode cX9_givesRest 1 = .ok (.lstore 4, 2) := by decide +kernel
theorem dX9_givesRest_3 : decode cX9_givesRest 3 = .ok (.lload 4, 2) := by decide +kernel
theorem dX9_givesRest_5 : decode cX9_givesRest 5 = .ok (.lconst 0, 1) := by decide +kernel
theorem dX9_givesRest_6 : decode cX9_givesRest 6 = .ok (.lcmp, 1) := by decide +kernel
theorem dX9_givesRest_7 : decode cX9_givesRest 7 = .ok (.ifCond .le 78, 3) := by decide +kernel
theorem dX9_givesRest_10 : decode cX9_givesRest 10 = .ok (.iconst 0, 1) := by decide +kernel
theorem dX9_givesRest_11 : decode cX9_givesRest 11 = .ok (.istore 6, 2) := by decide +kernel
theorem dX9_givesRest_13 : decode cX9_givesRest 13 = .ok (.iconst 1, 1) := by decide +kernel
theorem dX9_givesRest_14 : decode cX9_givesRest 14 = .ok (.istore 7, 2) := by decide +kernel
theorem dX9_givesRest_16 : decode cX9_givesRest 16 = .ok (.iload 7, 2) := by decide +kernel
theorem dX9_givesRest_18 : decode cX9_givesRest 18 = .ok (.iload_n 3, 1) := by decide +kernel
theorem dX9_givesRest_19 : decode cX9_givesRest 19 = .ok (.if_icmp .ge 36, 3) := by decide +kernel
theorem dX9_givesRest_22 : decode cX9_givesRest 22 = .ok (.aload_n 0, 1) := by decide +kernel
theorem dX9_givesRest_23 : decode cX9_givesRest 23 = .ok (.getfield 49, 3) := by decide +kernel
theorem dX9_givesRest_26 : decode cX9_givesRest 26 = .ok (.iload 7, 2) := by decide +kernel
theorem dX9_givesRest_28 : decode cX9_givesRest 28 = .ok (.laload, 1) := by decide +kernel
theorem dX9_givesRest_29 : decode cX9_givesRest 29 = .ok (.aload_n 0, 1) := by decide +kernel
theorem dX9_givesRest_30 : decode cX9_givesRest 30 = .ok (.getfield 49, 3) := by decide +kernel
theorem dX9_givesRest_33 : decode cX9_givesRest 33 = .ok (.iload 6, 2) := by decide +kernel
theorem dX9_givesRest_35 : decode cX9_givesRest 35 = .ok (.laload, 1) := by decide +kernel
theorem dX9_givesRest_36 : decode cX9_givesRest 36 = .ok (.lcmp, 1) := by decide +kernel
theorem dX9_givesRest_37 : decode cX9_givesRest 37 = .ok (.ifCond .le 8, 3) := by decide +kernel
theorem dX9_givesRest_40 : decode cX9_givesRest 40 = .ok (.iload 7, 2) := by decide +kernel
theorem dX9_givesRest_42 : decode cX9_givesRest 42 = .ok (.goto 5, 3) := by decide +kernel
theorem dX9_givesRest_45 : decode cX9_givesRest 45 = .ok (.iload 6, 2) := by decide +kernel
theorem dX9_givesRest_47 : decode cX9_givesRest 47 = .ok (.istore 6, 2) := by decide +kernel
theorem dX9_givesRest_49 : decode cX9_givesRest 49 = .ok (.iinc 7 1, 3) := by decide +kernel
theorem dX9_givesRest_52 : decode cX9_givesRest 52 = .ok (.goto (-36), 3) := by decide +kernel
theorem dX9_givesRest_55 : decode cX9_givesRest 55 = .ok (.aload_n 0, 1) := by decide +kernel
theorem dX9_givesRest_56 : decode cX9_givesRest 56 = .ok (.getfield 46, 3) := by decide +kernel
theorem dX9_givesRest_59 : decode cX9_givesRest 59 = .ok (.iload 6, 2) := by decide +kernel
theorem dX9_givesRest_61 : decode cX9_givesRest 61 = .ok (.dup2, 1) := by decide +kernel
theorem dX9_givesRest_62 : decode cX9_givesRest 62 = .ok (.laload, 1) := by decide +kernel
theorem dX9_givesRest_63 : decode cX9_givesRest 63 = .ok (.lconst 1, 1) := by decide +kernel
theorem dX9_givesRest_64 : decode cX9_givesRest 64 = .ok (.ladd, 1) := by decide +kernel
theorem dX9_givesRest_65 : decode cX9_givesRest 65 = .ok (.lastore, 1) := by decide +kernel
theorem dX9_givesRest_66 : decode cX9_givesRest 66 = .ok (.aload_n 0, 1) := by decide +kernel
theorem dX9_givesRest_67 : decode cX9_givesRest 67 = .ok (.getfield 49, 3) := by decide +kernel
theorem dX9_givesRest_70 : decode cX9_givesRest 70 = .ok (.iload 6, 2) := by decide +kernel
theorem dX9_givesRest_72 : decode cX9_givesRest 72 = .ok (.ldc2_w 201, 3) := by decide +kernel
theorem dX9_givesRest_75 : decode cX9_givesRest 75 = .ok (.lastore, 1) := by decide +kernel
theorem dX9_givesRest_76 : decode cX9_givesRest 76 = .ok (.lload 4, 2) := by decide +kernel
theorem dX9_givesRest_78 : decode cX9_givesRest 78 = .ok (.lconst 1, 1) := by decide +kernel
theorem dX9_givesRest_79 : decode cX9_givesRest 79 = .ok (.lsub, 1) := by decide +kernel
theorem dX9_givesRest_80 : decode cX9_givesRest 80 = .ok (.lstore 4, 2) := by decide +kernel
theorem dX9_givesRest_82 : decode cX9_givesRest 82 = .ok (.goto (-79), 3) := by decide +kernel
theorem dX9_givesRest_85 : decode cX9_givesRest 85 = .ok (.return_, 1) := by decide +kernel
theorem dX9_bends_0 : decode cX9_bends 0 = .ok (.iload_n 1, 1) := by decide +kernel
theorem dX9_bends_1 : decode cX9_bends 1 = .ok (.iload_n 2, 1) := by decide +kernel
theorem dX9_bends_2 : decode cX9_bends 2 = .ok (.iload_n 3, 1) := by decide +kernel
theorem dX9_bends_3 : decode cX9_bends 3 = .ok (.iconst 4, 1) := by decide +kernel
theorem dX9_bends_4 : decode cX9_bends 4 = .ok (.iload 4, 2) := by decide +kernel
theorem dX9_bends_6 : decode cX9_bends 6 = .ok (.imul, 1) := by decide +kernel
theorem dX9_bends_7 : decode cX9_bends 7 = .ok (.invokestatic 124, 3) := by decide +kernel
theorem dX9_bends_10 : decode cX9_bends 10 = .ok (.istore 5, 2) := by decide +kernel
theorem dX9_bends_12 : decode cX9_bends 12 = .ok (.iload_n 1, 1) := by decide +kernel
theorem dX9_bends_13 : decode cX9_bends 13 = .ok (.iload_n 2, 1) := by decide +kernel
theorem dX9_bends_14 : decode cX9_bends 14 = .ok (.iload_n 3, 1) := by decide +kernel
theorem dX9_bends_15 : decode cX9_bends 15 = .ok (.iload 4, 2) := by decide +kernel
theorem dX9_bends_17 : decode cX9_bends 17 = .ok (.invokestatic 130, 3) := by decide +kernel
theorem dX9_bends_20 : decode cX9_bends 20 = .ok (.istore 6, 2) := by decide +kernel
theorem dX9_bends_22 : decode cX9_bends 22 = .ok (.iconst 0, 1) := by decide +kernel
theorem dX9_bends_23 : decode cX9_bends 23 = .ok (.istore 7, 2) := by decide +kernel
theorem dX9_bends_25 : decode cX9_bends 25 = .ok (.lconst 0, 1) := by decide +kernel
theorem dX9_bends_26 : decode cX9_bends 26 = .ok (.lstore 8, 2) := by decide +kernel
theorem dX9_bends_28 : decode cX9_bends 28 = .ok (.iload 5, 2) := by decide +kernel
theorem dX9_bends_30 : decode cX9_bends 30 = .ok (.istore 10, 2) := by decide +kernel
theorem dX9_bends_32 : decode cX9_bends 32 = .ok (.iload 10, 2) := by decide +kernel
theorem dX9_bends_34 : decode cX9_bends 34 = .ok (.iload 5, 2) := by decide +kernel
theorem dX9_bends_36 : decode cX9_bends 36 = .ok (.iconst 4, 1) := by decide +kernel
theorem dX9_bends_37 : decode cX9_bends 37 = .ok (.iadd, 1) := by decide +kernel
theorem dX9_bends_38 : decode cX9_bends 38 = .ok (.if_icmp .ge 55, 3) := by decide +kernel
theorem dX9_bends_41 : decode cX9_bends 41 = .ok (.aload_n 0, 1) := by decide +kernel
theorem dX9_bends_42 : decode cX9_bends 42 = .ok (.getfield 52, 3) := by decide +kernel
theorem dX9_bends_45 : decode cX9_bends 45 = .ok (.iload 10, 2) := by decide +kernel
theorem dX9_bends_47 : decode cX9_bends 47 = .ok (.aload_n 0, 1) := by decide +kernel
theorem dX9_bends_48 : decode cX9_bends 48 = .ok (.getfield 33, 3) := by decide +kernel
theorem dX9_bends_51 : decode cX9_bends 51 = .ok (.iload 10, 2) := by decide +kernel
theorem dX9_bends_53 : decode cX9_bends 53 = .ok (.laload, 1) := by decide +kernel
theorem dX9_bends_54 : decode cX9_bends 54 = .ok (.lastore, 1) := by decide +kernel
theorem dX9_bends_55 : decode cX9_bends 55 = .ok (.iload 7, 2) := by decide +kernel
theorem dX9_bends_57 : decode cX9_bends 57 = .ok (.aload_n 0, 1) := by decide +kernel
theorem dX9_bends_58 : decode cX9_bends 58 = .ok (.getfield 37, 3) := by decide +kernel
theorem dX9_bends_61 : decode cX9_bends 61 = .ok (.iload 10, 2) := by decide +kernel
theorem dX9_bends_63 : decode cX9_bends 63 = .ok (.iaload, 1) := by decide +kernel
theorem dX9_bends_64 : decode cX9_bends 64 = .ok (.ifCond .le 7, 3) := by decide +kernel
theorem dX9_bends_67 : decode cX9_bends 67 = .ok (.iconst 1, 1) := by decide +kernel
theorem dX9_bends_68 : decode cX9_bends 68 = .ok (.goto 4, 3) := by decide +kernel
theorem dX9_bends_71 : decode cX9_bends 71 = .ok (.iconst 0, 1) := by decide +kernel
theorem dX9_bends_72 : decode cX9_bends 72 = .ok (.iadd, 1) := by decide +kernel
theorem dX9_bends_73 : decode cX9_bends 73 = .ok (.istore 7, 2) := by decide +kernel
theorem dX9_bends_75 : decode cX9_bends 75 = .ok (.lload 8, 2) := by decide +kernel
theorem dX9_bends_77 : decode cX9_bends 77 = .ok (.aload_n 0, 1) := by decide +kernel
theorem dX9_bends_78 : decode cX9_bends 78 = .ok (.getfield 33, 3) := by decide +kernel
theorem dX9_bends_81 : decode cX9_bends 81 = .ok (.iload 10, 2) := by decide +kernel
theorem dX9_bends_83 : decode cX9_bends 83 = .ok (.laload, 1) := by decide +kernel
theorem dX9_bends_84 : decode cX9_bends 84 = .ok (.ladd, 1) := by decide +kernel
theorem dX9_bends_85 : decode cX9_bends 85 = .ok (.lstore 8, 2) := by decide +kernel
theorem dX9_bends_87 : decode cX9_bends 87 = .ok (.iinc 10 1, 3) := by decide +kernel
theorem dX9_bends_90 : decode cX9_bends 90 = .ok (.goto (-58), 3) := by decide +kernel
theorem dX9_bends_93 : decode cX9_bends 93 = .ok (.aload_n 0, 1) := by decide +kernel
theorem dX9_bends_94 : decode cX9_bends 94 = .ok (.getfield 37, 3) := by decide +kernel
theorem dX9_bends_97 : decode cX9_bends 97 = .ok (.iload 6, 2) := by decide +kernel
theorem dX9_bends_99 : decode cX9_bends 99 = .ok (.iaload, 1) := by decide +kernel
theorem dX9_bends_100 : decode cX9_bends 100 = .ok (.ifCond .ne 4, 3) := by decide +kernel
theorem dX9_bends_103 : decode cX9_bends 103 = .ok (.return_, 1) := by decide +kernel
theorem dX9_bends_104 : decode cX9_bends 104 = .ok (.iload 7, 2) := by decide +kernel
theorem dX9_bends_106 : decode cX9_bends 106 = .ok (.iconst 4, 1) := by decide +kernel
theorem dX9_bends_107 : decode cX9_bends 107 = .ok (.if_icmp .ne 91, 3) := by decide +kernel
theorem dX9_bends_110 : decode cX9_bends 110 = .ok (.iconst 0, 1) := by decide +kernel
theorem dX9_bends_111 : decode cX9_bends 111 = .ok (.istore 10, 2) := by decide +kernel
theorem dX9_bends_113 : decode cX9_bends 113 = .ok (.iload 10, 2) := by decide +kernel
theorem dX9_bends_115 : decode cX9_bends 115 = .ok (.iconst 4, 1) := by decide +kernel
theorem dX9_bends_116 : decode cX9_bends 116 = .ok (.if_icmp .ge 37, 3) := by decide +kernel
theorem dX9_bends_119 : decode cX9_bends 119 = .ok (.aload_n 0, 1) := by decide +kernel
theorem dX9_bends_120 : decode cX9_bends 120 = .ok (.getfield 43, 3) := by decide +kernel
theorem dX9_bends_123 : decode cX9_bends 123 = .ok (.iload 10, 2) := by decide +kernel
theorem dX9_bends_125 : decode cX9_bends 125 = .ok (.lload 8, 2) := by decide +kernel
theorem dX9_bends_127 : decode cX9_bends 127 = .ok (.lconst 0, 1) := by decide +kernel
theorem dX9_bends_128 : decode cX9_bends 128 = .ok (.lcmp, 1) := by decide +kernel
theorem dX9_bends_129 : decode cX9_bends 129 = .ok (.ifCond .ne 7, 3) := by decide +kernel
theorem dX9_bends_132 : decode cX9_bends 132 = .ok (.lconst 1, 1) := by decide +kernel
theorem dX9_bends_133 : decode cX9_bends 133 = .ok (.goto 13, 3) := by decide +kernel
theorem dX9_bends_136 : decode cX9_bends 136 = .ok (.aload_n 0, 1) := by decide +kernel
theorem dX9_bends_137 : decode cX9_bends 137 = .ok (.getfield 33, 3) := by decide +kernel
theorem dX9_bends_140 : decode cX9_bends 140 = .ok (.iload 5, 2) := by decide +kernel
theorem dX9_bends_142 : decode cX9_bends 142 = .ok (.iload 10, 2) := by decide +kernel
theorem dX9_bends_144 : decode cX9_bends 144 = .ok (.iadd, 1) := by decide +kernel
theorem dX9_bends_145 : decode cX9_bends 145 = .ok (.laload, 1) := by decide +kernel
theorem dX9_bends_146 : decode cX9_bends 146 = .ok (.lastore, 1) := by decide +kernel
theorem dX9_bends_147 : decode cX9_bends 147 = .ok (.iinc 10 1, 3) := by decide +kernel
theorem dX9_bends_150 : decode cX9_bends 150 = .ok (.goto (-37), 3) := by decide +kernel
theorem dX9_bends_153 : decode cX9_bends 153 = .ok (.aload_n 0, 1) := by decide +kernel
theorem dX9_bends_154 : decode cX9_bends 154 = .ok (.aload_n 0, 1) := by decide +kernel
theorem dX9_bends_155 : decode cX9_bends 155 = .ok (.getfield 33, 3) := by decide +kernel
theorem dX9_bends_158 : decode cX9_bends 158 = .ok (.iload 6, 2) := by decide +kernel
theorem dX9_bends_160 : decode cX9_bends 160 = .ok (.laload, 1) := by decide +kernel
theorem dX9_bends_161 : decode cX9_bends 161 = .ok (.iconst 4, 1) := by decide +kernel
theorem dX9_bends_162 : decode cX9_bends 162 = .ok (.invokevirtual 203, 3) := by decide +kernel
theorem dX9_bends_165 : decode cX9_bends 165 = .ok (.iconst 0, 1) := by decide +kernel
theorem dX9_bends_166 : decode cX9_bends 166 = .ok (.istore 10, 2) := by decide +kernel
theorem dX9_bends_168 : decode cX9_bends 168 = .ok (.iload 10, 2) := by decide +kernel
theorem dX9_bends_170 : decode cX9_bends 170 = .ok (.iconst 4, 1) := by decide +kernel
theorem dX9_bends_171 : decode cX9_bends 171 = .ok (.if_icmp .ge 26, 3) := by decide +kernel
theorem dX9_bends_174 : decode cX9_bends 174 = .ok (.aload_n 0, 1) := by decide +kernel
theorem dX9_bends_175 : decode cX9_bends 175 = .ok (.getfield 52, 3) := by decide +kernel
theorem dX9_bends_178 : decode cX9_bends 178 = .ok (.iload 5, 2) := by decide +kernel
theorem dX9_bends_180 : decode cX9_bends 180 = .ok (.iload 10, 2) := by decide +kernel
theorem dX9_bends_182 : decode cX9_bends 182 = .ok (.iadd, 1) := by decide +kernel
theorem dX9_bends_183 : decode cX9_bends 183 = .ok (.aload_n 0, 1) := by decide +kernel
theorem dX9_bends_184 : decode cX9_bends 184 = .ok (.getfield 46, 3) := by decide +kernel
theorem dX9_bends_187 : decode cX9_bends 187 = .ok (.iload 10, 2) := by decide +kernel
theorem dX9_bends_189 : decode cX9_bends 189 = .ok (.laload, 1) := by decide +kernel
theorem dX9_bends_190 : decode cX9_bends 190 = .ok (.lastore, 1) := by decide +kernel
theorem dX9_bends_191 : decode cX9_bends 191 = .ok (.iinc 10 1, 3) := by decide +kernel
theorem dX9_bends_194 : decode cX9_bends 194 = .ok (.goto (-26), 3) := by decide +kernel
theorem dX9_bends_197 : decode cX9_bends 197 = .ok (.return_, 1) := by decide +kernel
theorem dX9_bends_198 : decode cX9_bends 198 = .ok (.iconst 0, 1) := by decide +kernel
theorem dX9_bends_199 : decode cX9_bends 199 = .ok (.istore 10, 2) := by decide +kernel
theorem dX9_bends_201 : decode cX9_bends 201 = .ok (.iload 10, 2) := by decide +kernel
theorem dX9_bends_203 : decode cX9_bends 203 = .ok (.iconst 4, 1) := by decide +kernel
theorem dX9_bends_204 : decode cX9_bends 204 = .ok (.iload 7, 2) := by decide +kernel
theorem dX9_bends_206 : decode cX9_bends 206 = .ok (.isub, 1) := by decide +kernel
theorem dX9_bends_207 : decode cX9_bends 207 = .ok (.if_icmp .ge 17, 3) := by decide +kernel
theorem dX9_bends_210 : decode cX9_bends 210 = .ok (.aload_n 0, 1) := by decide +kernel
theorem dX9_bends_211 : decode cX9_bends 211 = .ok (.getfield 43, 3) := by decide +kernel
theorem dX9_bends_214 : decode cX9_bends 214 = .ok (.iload 10, 2) := by decide +kernel
theorem dX9_bends_216 : decode cX9_bends 216 = .ok (.lconst 1, 1) := by decide +kernel
theorem dX9_bends_217 : decode cX9_bends 217 = .ok (.lastore, 1) := by decide +kernel
theorem dX9_bends_218 : decode cX9_bends 218 = .ok (.iinc 10 1, 3) := by decide +kernel
theorem dX9_bends_221 : decode cX9_bends 221 = .ok (.goto (-20), 3) := by decide +kernel
theorem dX9_bends_224 : decode cX9_bends 224 = .ok (.aload_n 0, 1) := by decide +kernel
theorem dX9_bends_225 : decode cX9_bends 225 = .ok (.aload_n 0, 1) := by decide +kernel
theorem dX9_bends_226 : decode cX9_bends 226 = .ok (.getfield 33, 3) := by decide +kernel
theorem dX9_bends_229 : decode cX9_bends 229 = .ok (.iload 6, 2) := by decide +kernel
theorem dX9_bends_231 : decode cX9_bends 231 = .ok (.laload, 1) := by decide +kernel
theorem dX9_bends_232 : decode cX9_bends 232 = .ok (.lload 8, 2) := by decide +kernel
theorem dX9_bends_234 : decode cX9_bends 234 = .ok (.lsub, 1) := by decide +kernel
theorem dX9_bends_235 : decode cX9_bends 235 = .ok (.iconst 4, 1) := by decide +kernel
theorem dX9_bends_236 : decode cX9_bends 236 = .ok (.iload 7, 2) := by decide +kernel
theorem dX9_bends_238 : decode cX9_bends 238 = .ok (.isub, 1) := by decide +kernel
theorem dX9_bends_239 : decode cX9_bends 239 = .ok (.invokevirtual 203, 3) := by decide +kernel
theorem dX9_bends_242 : decode cX9_bends 242 = .ok (.iconst 0, 1) := by decide +kernel
theorem dX9_bends_243 : decode cX9_bends 243 = .ok (.istore 10, 2) := by decide +kernel
theorem dX9_bends_245 : decode cX9_bends 245 = .ok (.iload 5, 2) := by decide +kernel
theorem dX9_bends_247 : decode cX9_bends 247 = .ok (.istore 11, 2) := by decide +kernel
theorem dX9_bends_249 : decode cX9_bends 249 = .ok (.iload 11, 2) := by decide +kernel
theorem dX9_bends_251 : decode cX9_bends 251 = .ok (.iload 5, 2) := by decide +kernel
theorem dX9_bends_253 : decode cX9_bends 253 = .ok (.iconst 4, 1) := by decide +kernel
theorem dX9_bends_254 : decode cX9_bends 254 = .ok (.iadd, 1) := by decide +kernel
theorem dX9_bends_255 : decode cX9_bends 255 = .ok (.if_icmp .ge 36, 3) := by decide +kernel
theorem dX9_bends_258 : decode cX9_bends 258 = .ok (.aload_n 0, 1) := by decide +kernel
theorem dX9_bends_259 : decode cX9_bends 259 = .ok (.getfield 37, 3) := by decide +kernel
theorem dX9_bends_262 : decode cX9_bends 262 = .ok (.iload 11, 2) := by decide +kernel
theorem dX9_bends_264 : decode cX9_bends 264 = .ok (.iaload, 1) := by decide +kernel
theorem dX9_bends_265 : decode cX9_bends 265 = .ok (.ifCond .ne 20, 3) := by decide +kernel
theorem dX9_bends_268 : decode cX9_bends 268 = .ok (.aload_n 0, 1) := by decide +kernel
theorem dX9_bends_269 : decode cX9_bends 269 = .ok (.getfield 52, 3) := by decide +kernel
theorem dX9_bends_272 : decode cX9_bends 272 = .ok (.iload 11, 2) := by decide +kernel
theorem dX9_bends_274 : decode cX9_bends 274 = .ok (.aload_n 0, 1) := by decide +kernel
theorem dX9_bends_275 : decode cX9_bends 275 = .ok (.getfield 46, 3) := by decide +kernel
theorem dX9_bends_278 : decode cX9_bends 278 = .ok (.iload 10, 2) := by decide +kernel
theorem dX9_bends_280 : decode cX9_bends 280 = .ok (.laload, 1) := by decide +kernel
theorem dX9_bends_281 : decode cX9_bends 281 = .ok (.lastore, 1) := by decide +kernel
theorem dX9_bends_282 : decode cX9_bends 282 = .ok (.iinc 10 1, 3) := by decide +kernel
theorem dX9_bends_285 : decode cX9_bends 285 = .ok (.iinc 11 1, 3) := by decide +kernel
theorem dX9_bends_288 : decode cX9_bends 288 = .ok (.goto (-39), 3) := by decide +kernel
theorem dX9_bends_291 : decode cX9_bends 291 = .ok (.return_, 1) := by decide +kernel
theorem dX9_bent_0 : decode cX9_bent 0 = .ok (.iload_n 1, 1) := by decide +kernel
theorem dX9_bent_1 : decode cX9_bent 1 = .ok (.invokestatic 150, 3) := by decide +kernel
theorem dX9_bent_4 : decode cX9_bent 4 = .ok (.ifCond .ne 7, 3) := by decide +kernel
theorem dX9_bent_7 : decode cX9_bent 7 = .ok (.ldc2_w 189, 3) := by decide +kernel
theorem dX9_bent_10 : decode cX9_bent 10 = .ok (.lreturn, 1) := by decide +kernel
theorem dX9_bent_11 : decode cX9_bent 11 = .ok (.aload_n 0, 1) := by decide +kernel
theorem dX9_bent_12 : decode cX9_bent 12 = .ok (.invokevirtual 186, 3) := by decide +kernel
theorem dX9_bent_15 : decode cX9_bent 15 = .ok (.aload_n 0, 1) := by decide +kernel
theorem dX9_bent_16 : decode cX9_bent 16 = .ok (.getfield 52, 3) := by decide +kernel
theorem dX9_bent_19 : decode cX9_bent 19 = .ok (.iload_n 1, 1) := by decide +kernel
theorem dX9_bent_20 : decode cX9_bent 20 = .ok (.laload, 1) := by decide +kernel
theorem dX9_bent_21 : decode cX9_bent 21 = .ok (.lreturn, 1) := by decide +kernel
theorem dX9_amount_0 : decode cX9_amount 0 = .ok (.lload_n 0, 1) := by decide +kernel
theorem dX9_amount_1 : decode cX9_amount 1 = .ok (.lconst 0, 1) := by decide +kernel
theorem dX9_amount_2 : decode cX9_amount 2 = .ok (.lcmp, 1) := by decide +kernel
theorem dX9_amount_3 : decode cX9_amount 3 = .ok (.ifCond .ge 8, 3) := by decide +kernel
theorem dX9_amount_6 : decode cX9_amount 6 = .ok (.lload_n 0, 1) := by decide +kernel
theorem dX9_amount_7 : decode cX9_amount 7 = .ok (.lneg, 1) := by decide +kernel
theorem dX9_amount_8 : decode cX9_amount 8 = .ok (.goto 4, 3) := by decide +kernel
theorem dX9_amount_11 : decode cX9_amount 11 = .ok (.lload_n 0, 1) := by decide +kernel
theorem dX9_amount_12 : decode cX9_amount 12 = .ok (.lreturn, 1) := by decide +kernel
theorem dX9_shape_0 : decode cX9_shape 0 = .ok (.iload_n 1, 1) := by decide +kernel
theorem dX9_shape_1 : decode cX9_shape 1 = .ok (.invokestatic 133, 3) := by decide +kernel
theorem dX9_shape_4 : decode cX9_shape 4 = .ok (.ifCond .eq 10, 3) := by decide +kernel
theorem dX9_shape_7 : decode cX9_shape 7 = .ok (.iload_n 1, 1) := by decide +kernel
theorem dX9_shape_8 : decode cX9_shape 8 = .ok (.invokestatic 150, 3) := by decide +kernel
theorem dX9_shape_11 : decode cX9_shape 11 = .ok (.ifCond .eq 7, 3) := by decide +kernel
theorem dX9_shape_14 : decode cX9_shape 14 = .ok (.ldc2_w 189, 3) := by decide +kernel
theorem dX9_shape_17 : decode cX9_shape 17 = .ok (.lreturn, 1) := by decide +kernel
theorem dX9_shape_18 : decode cX9_shape 18 = .ok (.aload_n 0, 1) := by decide +kernel
theorem dX9_shape_19 : decode cX9_shape 19 = .ok (.invokevirtual 186, 3) := by decide +kernel
theorem dX9_shape_22 : decode cX9_shape 22 = .ok (.iload_n 1, 1) := by decide +kernel
theorem dX9_shape_23 : decode cX9_shape 23 = .ok (.invokestatic 137, 3) := by decide +kernel
theorem dX9_shape_26 : decode cX9_shape 26 = .ok (.iload_n 1, 1) := by decide +kernel
theorem dX9_shape_27 : decode cX9_shape 27 = .ok (.invokestatic 141, 3) := by decide +kernel
theorem dX9_shape_30 : decode cX9_shape 30 = .ok (.iload_n 1, 1) := by decide +kernel
theorem dX9_shape_31 : decode cX9_shape 31 = .ok (.invokestatic 144, 3) := by decide +kernel
theorem dX9_shape_34 : decode cX9_shape 34 = .ok (.iconst 4, 1) := by decide +kernel
theorem dX9_shape_35 : decode cX9_shape 35 = .ok (.iload_n 1, 1) := by decide +kernel
theorem dX9_shape_36 : decode cX9_shape 36 = .ok (.invokestatic 147, 3) := by decide +kernel
theorem dX9_shape_39 : decode cX9_shape 39 = .ok (.imul, 1) := by decide +kernel
theorem dX9_shape_40 : decode cX9_shape 40 = .ok (.invokestatic 124, 3) := by decide +kernel
theorem dX9_shape_43 : decode cX9_shape 43 = .ok (.istore_n 2, 1) := by decide +kernel
theorem dX9_shape_44 : decode cX9_shape 44 = .ok (.lconst 0, 1) := by decide +kernel
theorem dX9_shape_45 : decode cX9_shape 45 = .ok (.lstore_n 3, 1) := by decide +kernel
theorem dX9_shape_46 : decode cX9_shape 46 = .ok (.iload_n 2, 1) := by decide +kernel
theorem dX9_shape_47 : decode cX9_shape 47 = .ok (.istore 5, 2) := by decide +kernel
theorem dX9_shape_49 : decode cX9_shape 49 = .ok (.iload 5, 2) := by decide +kernel
theorem dX9_shape_51 : decode cX9_shape 51 = .ok (.iload_n 2, 1) := by decide +kernel
theorem dX9_shape_52 : decode cX9_shape 52 = .ok (.iconst 4, 1) := by decide +kernel
theorem dX9_shape_53 : decode cX9_shape 53 = .ok (.iadd, 1) := by decide +kernel
theorem dX9_shape_54 : decode cX9_shape 54 = .ok (.if_icmp .ge 53, 3) := by decide +kernel
theorem dX9_shape_57 : decode cX9_shape 57 = .ok (.aload_n 0, 1) := by decide +kernel
theorem dX9_shape_58 : decode cX9_shape 58 = .ok (.getfield 37, 3) := by decide +kernel
theorem dX9_shape_61 : decode cX9_shape 61 = .ok (.iload 5, 2) := by decide +kernel
theorem dX9_shape_63 : decode cX9_shape 63 = .ok (.iaload, 1) := by decide +kernel
theorem dX9_shape_64 : decode cX9_shape 64 = .ok (.ifCond .eq 12, 3) := by decide +kernel
theorem dX9_shape_67 : decode cX9_shape 67 = .ok (.aload_n 0, 1) := by decide +kernel
theorem dX9_shape_68 : decode cX9_shape 68 = .ok (.getfield 37, 3) := by decide +kernel
theorem dX9_shape_71 : decode cX9_shape 71 = .ok (.iload_n 1, 1) := by decide +kernel
theorem dX9_shape_72 : decode cX9_shape 72 = .ok (.iaload, 1) := by decide +kernel
theorem dX9_shape_73 : decode cX9_shape 73 = .ok (.ifCond .ne 7, 3) := by decide +kernel
theorem dX9_shape_76 : decode cX9_shape 76 = .ok (.ldc2_w 191, 3) := by decide +kernel
theorem dX9_shape_79 : decode cX9_shape 79 = .ok (.lreturn, 1) := by decide +kernel
theorem dX9_shape_80 : decode cX9_shape 80 = .ok (.lload_n 3, 1) := by decide +kernel
theorem dX9_shape_81 : decode cX9_shape 81 = .ok (.aload_n 0, 1) := by decide +kernel
theorem dX9_shape_82 : decode cX9_shape 82 = .ok (.getfield 52, 3) := by decide +kernel
theorem dX9_shape_85 : decode cX9_shape 85 = .ok (.iload 5, 2) := by decide +kernel
theorem dX9_shape_87 : decode cX9_shape 87 = .ok (.laload, 1) := by decide +kernel
theorem dX9_shape_88 : decode cX9_shape 88 = .ok (.aload_n 0, 1) := by decide +kernel
theorem dX9_shape_89 : decode cX9_shape 89 = .ok (.getfield 33, 3) := by decide +kernel
theorem dX9_shape_92 : decode cX9_shape 92 = .ok (.iload 5, 2) := by decide +kernel
theorem dX9_shape_94 : decode cX9_shape 94 = .ok (.laload, 1) := by decide +kernel
theorem dX9_shape_95 : decode cX9_shape 95 = .ok (.lsub, 1) := by decide +kernel
theorem dX9_shape_96 : decode cX9_shape 96 = .ok (.invokestatic 205, 3) := by decide +kernel
theorem dX9_shape_99 : decode cX9_shape 99 = .ok (.ladd, 1) := by decide +kernel
theorem dX9_shape_100 : decode cX9_shape 100 = .ok (.lstore_n 3, 1) := by decide +kernel
theorem dX9_shape_101 : decode cX9_shape 101 = .ok (.iinc 5 1, 3) := by decide +kernel
theorem dX9_shape_104 : decode cX9_shape 104 = .ok (.goto (-55), 3) := by decide +kernel
theorem dX9_shape_107 : decode cX9_shape 107 = .ok (.lload_n 3, 1) := by decide +kernel
theorem dX9_shape_108 : decode cX9_shape 108 = .ok (.lreturn, 1) := by decide +kernel
theorem dX9_fix_0 : decode cX9_fix 0 = .ok (.iload_n 1, 1) := by decide +kernel
theorem dX9_fix_1 : decode cX9_fix 1 = .ok (.iload_n 2, 1) := by decide +kernel
theorem dX9_fix_2 : decode cX9_fix 2 = .ok (.iload_n 3, 1) := by decide +kernel
theorem dX9_fix_3 : decode cX9_fix 3 = .ok (.invokestatic 118, 3) := by decide +kernel
theorem dX9_fix_6 : decode cX9_fix 6 = .ok (.ifCond .ne 6, 3) := by decide +kernel
theorem dX9_fix_9 : decode cX9_fix 9 = .ok (.bipush (-2), 2) := by decide +kernel
theorem dX9_fix_11 : decode cX9_fix 11 = .ok (.ireturn, 1) := by decide +kernel
theorem dX9_fix_12 : decode cX9_fix 12 = .ok (.bipush 24, 2) := by decide +kernel
theorem dX9_fix_14 : decode cX9_fix 14 = .ok (.iload_n 1, 1) := by decide +kernel
theorem dX9_fix_15 : decode cX9_fix 15 = .ok (.imul, 1) := by decide +kernel
theorem dX9_fix_16 : decode cX9_fix 16 = .ok (.bipush 6, 2) := by decide +kernel
theorem dX9_fix_18 : decode cX9_fix 18 = .ok (.iload_n 2, 1) := by decide +kernel
theorem dX9_fix_19 : decode cX9_fix 19 = .ok (.imul, 1) := by decide +kernel
theorem dX9_fix_20 : decode cX9_fix 20 = .ok (.iadd, 1) := by decide +kernel
theorem dX9_fix_21 : decode cX9_fix 21 = .ok (.iload_n 3, 1) := by decide +kernel
theorem dX9_fix_22 : decode cX9_fix 22 = .ok (.iadd, 1) := by decide +kernel
theorem dX9_fix_23 : decode cX9_fix 23 = .ok (.istore 5, 2) := by decide +kernel
theorem dX9_fix_25 : decode cX9_fix 25 = .ok (.aload_n 0, 1) := by decide +kernel
theorem dX9_fix_26 : decode cX9_fix 26 = .ok (.getfield 55, 3) := by decide +kernel
theorem dX9_fix_29 : decode cX9_fix 29 = .ok (.iload 5, 2) := by decide +kernel
theorem dX9_fix_31 : decode cX9_fix 31 = .ok (.baload, 1) := by decide +kernel
theorem dX9_fix_32 : decode cX9_fix 32 = .ok (.iload 4, 2) := by decide +kernel
theorem dX9_fix_34 : decode cX9_fix 34 = .ok (.if_icmp .ne 7, 3) := by decide +kernel
theorem dX9_fix_37 : decode cX9_fix 37 = .ok (.iconst 1, 1) := by decide +kernel
theorem dX9_fix_38 : decode cX9_fix 38 = .ok (.goto 4, 3) := by decide +kernel
theorem dX9_fix_41 : decode cX9_fix 41 = .ok (.iconst 0, 1) := by decide +kernel
theorem dX9_fix_42 : decode cX9_fix 42 = .ok (.istore 6, 2) := by decide +kernel
theorem dX9_fix_44 : decode cX9_fix 44 = .ok (.aload_n 0, 1) := by decide +kernel
theorem dX9_fix_45 : decode cX9_fix 45 = .ok (.getfield 55, 3) := by decide +kernel
theorem dX9_fix_48 : decode cX9_fix 48 = .ok (.iload 5, 2) := by decide +kernel
theorem dX9_fix_50 : decode cX9_fix 50 = .ok (.iload 4, 2) := by decide +kernel
theorem dX9_fix_52 : decode cX9_fix 52 = .ok (.bastore, 1) := by decide +kernel
theorem dX9_fix_53 : decode cX9_fix 53 = .ok (.aload_n 0, 1) := by decide +kernel
theorem dX9_fix_54 : decode cX9_fix 54 = .ok (.iconst 0, 1) := by decide +kernel
theorem dX9_fix_55 : decode cX9_fix 55 = .ok (.putfield 155, 3) := by decide +kernel
theorem dX9_fix_58 : decode cX9_fix 58 = .ok (.iload 6, 2) := by decide +kernel
theorem dX9_fix_60 : decode cX9_fix 60 = .ok (.ifCond .eq 7, 3) := by decide +kernel
theorem dX9_fix_63 : decode cX9_fix 63 = .ok (.iconst 0, 1) := by decide +kernel
