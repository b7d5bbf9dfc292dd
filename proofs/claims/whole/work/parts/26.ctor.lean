theorem dX12_init_0 : decode cX12_init 0 = .ok (.aload_n 0, 1) := by decide +kernel
theorem dX12_init_1 : decode cX12_init 1 = .ok (.invokespecial 18, 3) := by decide +kernel
theorem dX12_init_4 : decode cX12_init 4 = .ok (.aload_n 0, 1) := by decide +kernel
theorem dX12_init_5 : decode cX12_init 5 = .ok (.sipush 1000, 3) := by decide +kernel
theorem dX12_init_8 : decode cX12_init 8 = .ok (.newarray .int, 2) := by decide +kernel
theorem dX12_init_10 : decode cX12_init 10 = .ok (.putfield 14, 3) := by decide +kernel
theorem dX12_init_13 : decode cX12_init 13 = .ok (.aload_n 0, 1) := by decide +kernel
theorem dX12_init_14 : decode cX12_init 14 = .ok (.sipush 1002, 3) := by decide +kernel
theorem dX12_init_17 : decode cX12_init 17 = .ok (.newarray .int, 2) := by decide +kernel
theorem dX12_init_19 : decode cX12_init 19 = .ok (.putfield 24, 3) := by decide +kernel
theorem dX12_init_22 : decode cX12_init 22 = .ok (.aload_n 0, 1) := by decide +kernel
theorem dX12_init_23 : decode cX12_init 23 = .ok (.sipush 1002, 3) := by decide +kernel
theorem dX12_init_26 : decode cX12_init 26 = .ok (.newarray .int, 2) := by decide +kernel
theorem dX12_init_28 : decode cX12_init 28 = .ok (.putfield 27, 3) := by decide +kernel
theorem dX12_init_31 : decode cX12_init 31 = .ok (.aload_n 0, 1) := by decide +kernel
theorem dX12_init_32 : decode cX12_init 32 = .ok (.sipush 1002, 3) := by decide +kernel
theorem dX12_init_35 : decode cX12_init 35 = .ok (.newarray .long, 2) := by decide +kernel
theorem dX12_init_37 : decode cX12_init 37 = .ok (.putfield 30, 3) := by decide +kernel
theorem dX12_init_40 : decode cX12_init 40 = .ok (.aload_n 0, 1) := by decide +kernel
theorem dX12_init_41 : decode cX12_init 41 = .ok (.bipush 21, 2) := by decide +kernel
theorem dX12_init_43 : decode cX12_init 43 = .ok (.newarray .long, 2) := by decide +kernel
theorem dX12_init_45 : decode cX12_init 45 = .ok (.dup, 1) := by decide +kernel
theorem dX12_init_46 : decode cX12_init 46 = .ok (.iconst 0, 1) := by decide +kernel
theorem dX12_init_47 : decode cX12_init 47 = .ok (.ldc2_w 34, 3) := by decide +kernel
theorem dX12_init_50 : decode cX12_init 50 = .ok (.lastore, 1) := by decide +kernel
theorem dX12_init_51 : decode cX12_init 51 = .ok (.dup, 1) := by decide +kernel
theorem dX12_init_52 : decode cX12_init 52 = .ok (.iconst 1, 1) := by decide +kernel
theorem dX12_init_53 : decode cX12_init 53 = .ok (.ldc2_w 36, 3) := by decide +kernel
theorem dX12_init_56 : decode cX12_init 56 = .ok (.lastore, 1) := by decide +kernel
theorem dX12_init_57 : decode cX12_init 57 = .ok (.dup, 1) := by decide +kernel
theorem dX12_init_58 : decode cX12_init 58 = .ok (.iconst 2, 1) := by decide +kernel
theorem dX12_init_59 : decode cX12_init 59 = .ok (.ldc2_w 38, 3) := by decide +kernel
theorem dX12_init_62 : decode cX12_init 62 = .ok (.lastore, 1) := by decide +kernel
theorem dX12_init_63 : decode cX12_init 63 = .ok (.dup, 1) := by decide +kernel
theorem dX12_init_64 : decode cX12_init 64 = .ok (.iconst 3, 1) := by decide +kernel
theorem dX12_init_65 : decode cX12_init 65 = .ok (.ldc2_w 40, 3) := by decide +kernel
theorem dX12_init_68 : decode cX12_init 68 = .ok (.lastore, 1) := by decide +kernel
theorem dX12_init_69 : decode cX12_init 69 = .ok (.dup, 1) := by decide +kernel
theorem dX12_init_70 : decode cX12_init 70 = .ok (.iconst 4, 1) := by decide +kernel
theorem dX12_init_71 : decode cX12_init 71 = .ok (.ldc2_w 42, 3) := by decide +kernel
theorem dX12_init_74 : decode cX12_init 74 = .ok (.lastore, 1) := by decide +kernel
theorem dX12_init_75 : decode cX12_init 75 = .ok (.dup, 1) := by decide +kernel
theorem dX12_init_76 : decode cX12_init 76 = .ok (.iconst 5, 1) := by decide +kernel
theorem dX12_init_77 : decode cX12_init 77 = .ok (.ldc2_w 44, 3) := by decide +kernel
theorem dX12_init_80 : decode cX12_init 80 = .ok (.lastore, 1) := by decide +kernel
theorem dX12_init_81 : decode cX12_init 81 = .ok (.dup, 1) := by decide +kernel
theorem dX12_init_82 : decode cX12_init 82 = .ok (.bipush 6, 2) := by decide +kernel
theorem dX12_init_84 : decode cX12_init 84 = .ok (.ldc2_w 46, 3) := by decide +kernel
theorem dX12_init_87 : decode cX12_init 87 = .ok (.lastore, 1) := by decide +kernel
theorem dX12_init_88 : decode cX12_init 88 = .ok (.dup, 1) := by decide +kernel
theorem dX12_init_89 : decode cX12_init 89 = .ok (.bipush 7, 2) := by decide +kernel
theorem dX12_init_91 : decode cX12_init 91 = .ok (.ldc2_w 48, 3) := by decide +kernel
theorem dX12_init_94 : decode cX12_init 94 = .ok (.lastore, 1) := by decide +kernel
theorem dX12_init_95 : decode cX12_init 95 = .ok (.dup, 1) := by decide +kernel
theorem dX12_init_96 : decode cX12_init 96 = .ok (.bipush 8, 2) := by decide +kernel
theorem dX12_init_98 : decode cX12_init 98 = .ok (.ldc2_w 50, 3) := by decide +kernel
theorem dX12_init_101 : decode cX12_init 101 = .ok (.lastore, 1) := by decide +kernel
theorem dX12_init_102 : decode cX12_init 102 = .ok (.dup, 1) := by decide +kernel
theorem dX12_init_103 : decode cX12_init 103 = .ok (.bipush 9, 2) := by decide +kernel
theorem dX12_init_105 : decode cX12_init 105 = .ok (.ldc2_w 52, 3) := by decide +kernel
theorem dX12_init_108 : decode cX12_init 108 = .ok (.lastore, 1) := by decide +kernel
theorem dX12_init_109 : decode cX12_init 109 = .ok (.dup, 1) := by decide +kernel
theorem dX12_init_110 : decode cX12_init 110 = .ok (.bipush 10, 2) := by decide +kernel
theorem dX12_init_112 : decode cX12_init 112 = .ok (.ldc2_w 54, 3) := by decide +kernel
theorem dX12_init_115 : decode cX12_init 115 = .ok (.lastore, 1) := by decide +kernel
theorem dX12_init_116 : decode cX12_init 116 = .ok (.dup, 1) := by decide +kernel
theorem dX12_init_117 : decode cX12_init 117 = .ok (.bipush 11, 2) := by decide +kernel
theorem dX12_init_119 : decode cX12_init 119 = .ok (.ldc2_w 56, 3) := by decide +kernel
theorem dX12_init_122 : decode cX12_init 122 = .ok (.lastore, 1) := by decide +kernel
theorem dX12_init_123 : decode cX12_init 123 = .ok (.dup, 1) := by decide +kernel
theorem dX12_init_124 : decode cX12_init 124 = .ok (.bipush 12, 2) := by decide +kernel
theorem dX12_init_126 : decode cX12_init 126 = .ok (.ldc2_w 58, 3) := by decide +kernel
theorem dX12_init_129 : decode cX12_init 129 = .ok (.lastore, 1) := by decide +kernel
theorem dX12_init_130 : decode cX12_init 130 = .ok (.dup, 1) := by decide +kernel
theorem dX12_init_131 : decode cX12_init 131 = .ok (.bipush 13, 2) := by decide +kernel
theorem dX12_init_133 : decode cX12_init 133 = .ok (.ldc2_w 60, 3) := by decide +kernel
theorem dX12_init_136 : decode cX12_init 136 = .ok (.lastore, 1) := by decide +kernel
theorem dX12_init_137 : decode cX12_init 137 = .ok (.dup, 1) := by decide +kernel
theorem dX12_init_138 : decode cX12_init 138 = .ok (.bipush 14, 2) := by decide +kernel
theorem dX12_init_140 : decode cX12_init 140 = .ok (.ldc2_w 62, 3) := by decide +kernel
theorem dX12_init_143 : decode cX12_init 143 = .ok (.lastore, 1) := by decide +kernel
theorem dX12_init_144 : decode cX12_init 144 = .ok (.dup, 1) := by decide +kernel
theorem dX12_init_145 : decode cX12_init 145 = .ok (.bipush 15, 2) := by decide +kernel
theorem dX12_init_147 : decode cX12_init 147 = .ok (.ldc2_w 64, 3) := by decide +kernel
theorem dX12_init_150 : decode cX12_init 150 = .ok (.lastore, 1) := by decide +kernel
theorem dX12_init_151 : decode cX12_init 151 = .ok (.dup, 1) := by decide +kernel
theorem dX12_init_152 : decode cX12_init 152 = .ok (.bipush 16, 2) := by decide +kernel
theorem dX12_init_154 : decode cX12_init 154 = .ok (.ldc2_w 66, 3) := by decide +kernel
theorem dX12_init_157 : decode cX12_init 157 = .ok (.lastore, 1) := by decide +kernel
theorem dX12_init_158 : decode cX12_init 158 = .ok (.dup, 1) := by decide +kernel
theorem dX12_init_159 : decode cX12_init 159 = .ok (.bipush 17, 2) := by decide +kernel
theorem dX12_init_161 : decode cX12_init 161 = .ok (.ldc2_w 68, 3) := by decide +kernel
theorem dX12_init_164 : decode cX12_init 164 = .ok (.lastore, 1) := by decide +kernel
theorem dX12_init_165 : decode cX12_init 165 = .ok (.dup, 1) := by decide +kernel
theorem dX12_init_166 : decode cX12_init 166 = .ok (.bipush 18, 2) := by decide +kernel
theorem dX12_init_168 : decode cX12_init 168 = .ok (.ldc2_w 70, 3) := by decide +kernel
theorem dX12_init_171 : decode cX12_init 171 = .ok (.lastore, 1) := by decide +kernel
theorem dX12_init_172 : decode cX12_init 172 = .ok (.dup, 1) := by decide +kernel
theorem dX12_init_173 : decode cX12_init 173 = .ok (.bipush 19, 2) := by decide +kernel
theorem dX12_init_175 : decode cX12_init 175 = .ok (.ldc2_w 72, 3) := by decide +kernel
theorem dX12_init_178 : decode cX12_init 178 = .ok (.lastore, 1) := by decide +kernel
theorem dX12_init_179 : decode cX12_init 179 = .ok (.dup, 1) := by decide +kernel
theorem dX12_init_180 : decode cX12_init 180 = .ok (.bipush 20, 2) := by decide +kernel
theorem dX12_init_182 : decode cX12_init 182 = .ok (.ldc2_w 74, 3) := by decide +kernel
theorem dX12_init_185 : decode cX12_init 185 = .ok (.lastore, 1) := by decide +kernel
theorem dX12_init_186 : decode cX12_init 186 = .ok (.putfield 76, 3) := by decide +kernel
theorem dX12_init_189 : decode cX12_init 189 = .ok (.aload_n 0, 1) := by decide +kernel
theorem dX12_init_190 : decode cX12_init 190 = .ok (.bipush 60, 2) := by decide +kernel
theorem dX12_init_192 : decode cX12_init 192 = .ok (.newarray .int, 2) := by decide +kernel
theorem dX12_init_194 : decode cX12_init 194 = .ok (.putfield 79, 3) := by decide +kernel
theorem dX12_init_197 : decode cX12_init 197 = .ok (.aload_n 0, 1) := by decide +kernel
theorem dX12_init_198 : decode cX12_init 198 = .ok (.sipush 960, 3) := by decide +kernel
theorem dX12_init_201 : decode cX12_init 201 = .ok (.newarray .int, 2) := by decide +kernel
theorem dX12_init_203 : decode cX12_init 203 = .ok (.putfield 82, 3) := by decide +kernel
theorem dX12_init_206 : decode cX12_init 206 = .ok (.aload_n 0, 1) := by decide +kernel
theorem dX12_init_207 : decode cX12_init 207 = .ok (.sipush 2200, 3) := by decide +kernel
theorem dX12_init_210 : decode cX12_init 210 = .ok (.newarray .int, 2) := by decide +kernel
theorem dX12_init_212 : decode cX12_init 212 = .ok (.putfield 85, 3) := by decide +kernel
theorem dX12_init_215 : decode cX12_init 215 = .ok (.aload_n 0, 1) := by decide +kernel
theorem dX12_init_216 : decode cX12_init 216 = .ok (.bipush 8, 2) := by decide +kernel
theorem dX12_init_218 : decode cX12_init 218 = .ok (.newarray .long, 2) := by decide +kernel
theorem dX12_init_220 : decode cX12_init 220 = .ok (.putfield 88, 3) := by decide +kernel
theorem dX12_init_223 : decode cX12_init 223 = .ok (.aload_n 0, 1) := by decide +kernel
theorem dX12_init_224 : decode cX12_init 224 = .ok (.bipush 61, 2) := by decide +kernel
theorem dX12_init_226 : decode cX12_init 226 = .ok (.newarray .int, 2) := by decide +kernel
theorem dX12_init_228 : decode cX12_init 228 = .ok (.putfield 91, 3) := by decide +kernel
theorem dX12_init_231 : decode cX12_init 231 = .ok (.aload_n 0, 1) := by decide +kernel
theorem dX12_init_232 : decode cX12_init 232 = .ok (.sipush 330, 3) := by decide +kernel
theorem dX12_init_235 : decode cX12_init 235 = .ok (.newarray .int, 2) := by decide +kernel
theorem dX12_init_237 : decode cX12_init 237 = .ok (.putfield 94, 3) := by decide +kernel
theorem dX12_init_240 : decode cX12_init 240 = .ok (.aload_n 0, 1) := by decide +kernel
theorem dX12_init_241 : decode cX12_init 241 = .ok (.iconst 4, 1) := by decide +kernel
theorem dX12_init_242 : decode cX12_init 242 = .ok (.newarray .int, 2) := by decide +kernel
theorem dX12_init_244 : decode cX12_init 244 = .ok (.putfield 97, 3) := by decide +kernel
theorem dX12_init_247 : decode cX12_init 247 = .ok (.aload_n 0, 1) := by decide +kernel
theorem dX12_init_248 : decode cX12_init 248 = .ok (.bipush 64, 2) := by decide +kernel
theorem dX12_init_250 : decode cX12_init 250 = .ok (.newarray .int, 2) := by decide +kernel
theorem dX12_init_252 : decode cX12_init 252 = .ok (.putfield 100, 3) := by decide +kernel
theorem dX12_init_255 : decode cX12_init 255 = .ok (.aload_n 0, 1) := by decide +kernel
theorem dX12_init_256 : decode cX12_init 256 = .ok (.sipush 252, 3) := by decide +kernel
theorem dX12_init_259 : decode cX12_init 259 = .ok (.newarray .int, 2) := by decide +kernel
theorem dX12_init_261 : decode cX12_init 261 = .ok (.putfield 103, 3) := by decide +kernel
theorem dX12_init_264 : decode cX12_init 264 = .ok (.aload_n 0, 1) := by decide +kernel
theorem dX12_init_265 : decode cX12_init 265 = .ok (.iconst 4, 1) := by decide +kernel
theorem dX12_init_266 : decode cX12_init 266 = .ok (.newarray .boolean, 2) := by decide +kernel
theorem dX12_init_268 : decode cX12_init 268 = .ok (.putfield 106, 3) := by decide +kernel
theorem dX12_init_271 : decode cX12_init 271 = .ok (.aload_n 0, 1) := by decide +kernel
theorem dX12_init_272 : decode cX12_init 272 = .ok (.bipush 36, 2) := by decide +kernel
theorem dX12_init_274 : decode cX12_init 274 = .ok (.newarray .boolean, 2) := by decide +kernel
theorem dX12_init_276 : decode cX12_init 276 = .ok (.putfield 110, 3) := by decide +kernel
theorem dX12_init_279 : decode cX12_init 279 = .ok (.aload_n 0, 1) := by decide +kernel
theorem dX12_init_280 : decode cX12_init 280 = .ok (.iconst 4, 1) := by decide +kernel
theorem dX12_init_281 : decode cX12_init 281 = .ok (.newarray .int, 2) := by decide +kernel
theorem dX12_init_283 : decode cX12_init 283 = .ok (.putfield 113, 3) := by decide +kernel
theorem dX12_init_286 : decode cX12_init 286 = .ok (.aload_n 0, 1) := by decide +kernel
theorem dX12_init_287 : decode cX12_init 287 = .ok (.bipush 32, 2) := by decide +kernel
theorem dX12_init_289 : decode cX12_init 289 = .ok (.newarray .int, 2) := by decide +kernel
theorem dX12_init_291 : decode cX12_init 291 = .ok (.putfield 116, 3) := by decide +kernel
theorem dX12_init_294 : decode cX12_init 294 = .ok (.aload_n 0, 1) := by decide +kernel
theorem dX12_init_295 : decode cX12_init 295 = .ok (.bipush 12, 2) := by decide +kernel
theorem dX12_init_297 : decode cX12_init 297 = .ok (.newarray .int, 2) := by decide +kernel
theorem dX12_init_299 : decode cX12_init 299 = .ok (.putfield 119, 3) := by decide +kernel
theorem dX12_init_302 : decode cX12_init 302 = .ok (.aload_n 0, 1) := by decide +kernel
theorem dX12_init_303 : decode cX12_init 303 = .ok (.iconst 4, 1) := by decide +kernel
theorem dX12_init_304 : decode cX12_init 304 = .ok (.newarray .int, 2) := by decide +kernel
theorem dX12_init_306 : decode cX12_init 306 = .ok (.putfield 122, 3) := by decide +kernel
theorem dX12_init_309 : decode cX12_init 309 = .ok (.aload_n 0, 1) := by decide +kernel
theorem dX12_init_310 : decode cX12_init 310 = .ok (.bipush 8, 2) := by decide +kernel
theorem dX12_init_312 : decode cX12_init 312 = .ok (.newarray .int, 2) := by decide +kernel
theorem dX12_init_314 : decode cX12_init 314 = .ok (.putfield 125, 3) := by decide +kernel
theorem dX12_init_317 : decode cX12_init 317 = .ok (.aload_n 0, 1) := by decide +kernel
theorem dX12_init_318 : decode cX12_init 318 = .ok (.bipush 36, 2) := by decide +kernel
theorem dX12_init_320 : decode cX12_init 320 = .ok (.newarray .int, 2) := by decide +kernel
theorem dX12_init_322 : decode cX12_init 322 = .ok (.putfield 128, 3) := by decide +kernel
theorem dX12_init_325 : decode cX12_init 325 = .ok (.aload_n 0, 1) := by decide +kernel
theorem dX12_init_326 : decode cX12_init 326 = .ok (.sipush 968, 3) := by decide +kernel
theorem dX12_init_329 : decode cX12_init 329 = .ok (.newarray .int, 2) := by decide +kernel
theorem dX12_init_331 : decode cX12_init 331 = .ok (.putfield 131, 3) := by decide +kernel
theorem dX12_init_334 : decode cX12_init 334 = .ok (.aload_n 0, 1) := by decide +kernel
theorem dX12_init_335 : decode cX12_init 335 = .ok (.iconst 4, 1) := by decide +kernel
theorem dX12_init_336 : decode cX12_init 336 = .ok (.newarray .int, 2) := by decide +kernel
theorem dX12_init_338 : decode cX12_init 338 = .ok (.putfield 134, 3) := by decide +kernel
theorem dX12_init_341 : decode cX12_init 341 = .ok (.aload_n 0, 1) := by decide +kernel
theorem dX12_init_342 : decode cX12_init 342 = .ok (.bipush 16, 2) := by decide +kernel
theorem dX12_init_344 : decode cX12_init 344 = .ok (.newarray .boolean, 2) := by decide +kernel
theorem dX12_init_346 : decode cX12_init 346 = .ok (.putfield 137, 3) := by decide +kernel
theorem dX12_init_349 : decode cX12_init 349 = .ok (.aload_n 0, 1) := by decide +kernel
theorem dX12_init_350 : decode cX12_init 350 = .ok (.bipush 8, 2) := by decide +kernel
theorem dX12_init_352 : decode cX12_init 352 = .ok (.newarray .int, 2) := by decide +kernel
theorem dX12_init_354 : decode cX12_init 354 = .ok (.putfield 140, 3) := by decide +kernel
theorem dX12_init_357 : decode cX12_init 357 = .ok (.aload_n 0, 1) := by decide +kernel
theorem dX12_init_358 : decode cX12_init 358 = .ok (.bipush 8, 2) := by decide +kernel
theorem dX12_init_360 : decode cX12_init 360 = .ok (.newarray .int, 2) := by decide +kernel
theorem dX12_init_362 : decode cX12_init 362 = .ok (.putfield 143, 3) := by decide +kernel
theorem dX12_init_365 : decode cX12_init 365 = .ok (.aload_n 0, 1) := by decide +kernel
theorem dX12_init_366 : decode cX12_init 366 = .ok (.bipush 32, 2) := by decide +kernel
theorem dX12_init_368 : decode cX12_init 368 = .ok (.newarray .int, 2) := by decide +kernel
theorem dX12_init_370 : decode cX12_init 370 = .ok (.putfield 146, 3) := by decide +kernel
theorem dX12_init_373 : decode cX12_init 373 = .ok (.aload_n 0, 1) := by decide +kernel
theorem dX12_init_374 : decode cX12_init 374 = .ok (.sipush 1891, 3) := by decide +kernel
theorem dX12_init_377 : decode cX12_init 377 = .ok (.newarray .int, 2) := by decide +kernel
theorem dX12_init_379 : decode cX12_init 379 = .ok (.putfield 149, 3) := by decide +kernel
theorem dX12_init_382 : decode cX12_init 382 = .ok (.aload_n 0, 1) := by decide +kernel
theorem dX12_init_383 : decode cX12_init 383 = .ok (.iconst 0, 1) := by decide +kernel
theorem dX12_init_384 : decode cX12_init 384 = .ok (.invokevirtual 152, 3) := by decide +kernel
theorem dX12_init_387 : decode cX12_init 387 = .ok (.aload_n 0, 1) := by decide +kernel
theorem dX12_init_388 : decode cX12_init 388 = .ok (.invokevirtual 156, 3) := by decide +kernel
theorem dX12_init_391 : decode cX12_init 391 = .ok (.return_, 1) := by decide +kernel
theorem zq_139 : Cond.methodLink RX12 18 objectInit ∈ zG := List.mem_of_getElem? (i := 139) (by decide +kernel)
theorem zq_144 : Cond.constantLong RX12 34 (1186224) ∈ zG := List.mem_of_getElem? (i := 144) (by decide +kernel)
theorem zq_145 : Cond.constantLong RX12 36 (5699906) ∈ zG := List.mem_of_getElem? (i := 145) (by decide +kernel)
theorem zq_146 : Cond.constantLong RX12 38 (25220) ∈ zG := List.mem_of_getElem? (i := 146) (by decide +kernel)
theorem zq_147 : Cond.constantLong RX12 40 (2205662) ∈ zG := List.mem_of_getElem? (i := 147) (by decide +kernel)
theorem zq_148 : Cond.constantLong RX12 42 (352) ∈ zG := List.mem_of_getElem? (i := 148) (by decide +kernel)
theorem zq_149 : Cond.constantLong RX12 44 (34815243) ∈ zG := List.mem_of_getElem? (i := 149) (by decide +kernel)
theorem zq_150 : Cond.constantLong RX12 46 (14190407) ∈ zG := List.mem_of_getElem? (i := 150) (by decide +kernel)
theorem zq_151 : Cond.constantLong RX12 48 (445097699) ∈ zG := List.mem_of_getElem? (i := 151) (by decide +kernel)
theorem zq_152 : Cond.constantLong RX12 50 (1020361) ∈ zG := List.mem_of_getElem? (i := 152) (by decide +kernel)
theorem zq_153 : Cond.constantLong RX12 52 (227825) ∈ zG := List.mem_of_getElem? (i := 153) (by decide +kernel)
theorem zq_154 : Cond.constantLong RX12 54 (1912) ∈ zG := List.mem_of_getElem? (i := 154) (by decide +kernel)
theorem zq_155 : Cond.constantLong RX12 56 (283582) ∈ zG := List.mem_of_getElem? (i := 155) (by decide +kernel)
theorem zq_156 : Cond.constantLong RX12 58 (14052286) ∈ zG := List.mem_of_getElem? (i := 156) (by decide +kernel)
theorem zq_157 : Cond.constantLong RX12 60 (615403) ∈ zG := List.mem_of_getElem? (i := 157) (by decide +kernel)
theorem zq_158 : Cond.constantLong RX12 62 (19741) ∈ zG := List.mem_of_getElem? (i := 158) (by decide +kernel)
theorem zq_159 : Cond.constantLong RX12 64 (1891) ∈ zG := List.mem_of_getElem? (i := 159) (by decide +kernel)
theorem zq_160 : Cond.constantLong RX12 66 (573) ∈ zG := List.mem_of_getElem? (i := 160) (by decide +kernel)
theorem zq_161 : Cond.constantLong RX12 68 (37549136) ∈ zG := List.mem_of_getElem? (i := 161) (by decide +kernel)
theorem zq_162 : Cond.constantLong RX12 70 (841579264) ∈ zG := List.mem_of_getElem? (i := 162) (by decide +kernel)
theorem zq_163 : Cond.constantLong RX12 72 (1089928) ∈ zG := List.mem_of_getElem? (i := 163) (by decide +kernel)
theorem zq_164 : Cond.constantLong RX12 74 (43523367) ∈ zG := List.mem_of_getElem? (i := 164) (by decide +kernel)
theorem zff_X12_14 : zFf RX12 14 12 1 (.array .int) := ⟨_, rfl, by decide, zq_140, rfl, rfl, by decide +kernel⟩
theorem zff_X12_24 : zFf RX12 24 12 4 (.array .int) := ⟨_, rfl, by decide, zq_141, rfl, rfl, by decide +kernel⟩
theorem zff_X12_27 : zFf RX12 27 12 5 (.array .int) := ⟨_, rfl, by decide, zq_142, rfl, rfl, by decide +kernel⟩
theorem zff_X12_30 : zFf RX12 30 12 6 (.array .long) := ⟨_, rfl, by decide, zq_143, rfl, rfl, by decide +kernel⟩
theorem zff_X12_76 : zFf RX12 76 12 9 (.array .long) := ⟨_, rfl, by decide, zq_165, rfl, rfl, by decide +kernel⟩
theorem zff_X12_79 : zFf RX12 79 12 10 (.array .int) := ⟨_, rfl, by decide, zq_166, rfl, rfl, by decide +kernel⟩
theorem zff_X12_82 : zFf RX12 82 12 11 (.array .int) := ⟨_, rfl, by decide, zq_167, rfl, rfl, by decide +kernel⟩
theorem zff_X12_85 : zFf RX12 85 12 12 (.array .int) := ⟨_, rfl, by decide, zq_168, rfl, rfl, by decide +kernel⟩
theorem zff_X12_88 : zFf RX12 88 12 14 (.array .long) := ⟨_, rfl, by decide, zq_169, rfl, rfl, by decide +kernel⟩
theorem zff_X12_91 : zFf RX12 91 12 15 (.array .int) := ⟨_, rfl, by decide, zq_170, rfl, rfl, by decide +kernel⟩
theorem zff_X12_94 : zFf RX12 94 12 17 (.array .int) := ⟨_, rfl, by decide, zq_171, rfl, rfl, by decide +kernel⟩
theorem zff_X12_97 : zFf RX12 97 12 18 (.array .int) := ⟨_, rfl, by decide, zq_172, rfl, rfl, by decide +kernel⟩
theorem zff_X12_100 : zFf RX12 100 12 19 (.array .int) := ⟨_, rfl, by decide, zq_173, rfl, rfl, by decide +kernel⟩
theorem zff_X12_103 : zFf RX12 103 12 20 (.array .int) := ⟨_, rfl, by decide, zq_174, rfl, rfl, by decide +kernel⟩
theorem zff_X12_106 : zFf RX12 106 12 22 (.array .boolean) := ⟨_, rfl, by decide, zq_175, rfl, rfl, by decide +kernel⟩
theorem zff_X12_110 : zFf RX12 110 12 23 (.array .boolean) := ⟨_, rfl, by decide, zq_176, rfl, rfl, by decide +kernel⟩
theorem zff_X12_113 : zFf RX12 113 12 24 (.array .int) := ⟨_, rfl, by decide, zq_177, rfl, rfl, by decide +kernel⟩
theorem zff_X12_116 : zFf RX12 116 12 25 (.array .int) := ⟨_, rfl, by decide, zq_178, rfl, rfl, by decide +kernel⟩
theorem zff_X12_119 : zFf RX12 119 12 26 (.array .int) := ⟨_, rfl, by decide, zq_179, rfl, rfl, by decide +kernel⟩
theorem zff_X12_122 : zFf RX12 122 12 27 (.array .int) := ⟨_, rfl, by decide, zq_180, rfl, rfl, by decide +kernel⟩
theorem zff_X12_125 : zFf RX12 125 12 28 (.array .int) := ⟨_, rfl, by decide, zq_181, rfl, rfl, by decide +kernel⟩
theorem zff_X12_128 : zFf RX12 128 12 34 (.array .int) := ⟨_, rfl, by decide, zq_182, rfl, rfl, by decide +kernel⟩
theorem zff_X12_131 : zFf RX12 131 12 35 (.array .int) := ⟨_, rfl, by decide, zq_183, rfl, rfl, by decide +kernel⟩
theorem zff_X12_134 : zFf RX12 134 12 36 (.array .int) := ⟨_, rfl, by decide, zq_184, rfl, rfl, by decide +kernel⟩
theorem zff_X12_137 : zFf RX12 137 12 37 (.array .boolean) := ⟨_, rfl, by decide, zq_185, rfl, rfl, by decide +kernel⟩
theorem zff_X12_140 : zFf RX12 140 12 38 (.array .int) := ⟨_, rfl, by decide, zq_186, rfl, rfl, by decide +kernel⟩
theorem zff_X12_143 : zFf RX12 143 12 39 (.array .int) := ⟨_, rfl, by decide, zq_187, rfl, rfl, by decide +kernel⟩
theorem zff_X12_146 : zFf RX12 146 12 40 (.array .int) := ⟨_, rfl, by decide, zq_188, rfl, rfl, by decide +kernel⟩
theorem zff_X12_149 : zFf RX12 149 12 41 (.array .int) := ⟨_, rfl, by decide, zq_189, rfl, rfl, by decide +kernel⟩
section ZM
variable {p : Program} {l : Launch} {e : Env} {R : Room} {s : State} {m : MethodId} {args : Array Value} {below : List Frame} {meth : Method} {c : Code} {cells slots : Nat} {Q : State → Prop} {D : va_G} {dA : Nat → ClassId} {ad ad0 : Nat → Nat} {al al0 : Nat → Prop}
/-! X12_init -/
def fX12_init_J382 (a0 : Nat) (k : zW → Prop) (mc ms : Nat)  (w : zW) : Prop :=
  a0 = 200 ∧ zMade w ∧
  fX12_standsAsAlways (0 : Int32) w (fun w80 =>
  fX12_begins  w80 (fun w81 =>
  k w81))
set_option maxHeartbeats 4000000 in
set_option maxRecDepth 100000 in
theorem mX12_init_J382 {k : zW → Prop} {a0 : Nat} (X : zCx p s m args meth c cX12_init 1 RX12 none) (hQ : zRetAV p l e R s m args below meth c Q D dA true ad0 al0 cX12_init k) (hin : meth.name = "<init>")  {cells slots mc ms : Nat}  {ad : Nat → Nat} {al : Nat → Prop} {w : zW} {H : Heap} {locs : List Loc} {ls : Array Slot} (ha0 : al a0 ∧ zsh a0 = 12) (hf : fX12_init_J382 a0 k mc ms  w) (hX : zExt ad0 al0 ad al) (hr : zRm R 4 (cells + mc) (slots + ms)) (hR : zSt D dA false ad0 al0 ad al w s H locs) (hl : lv_has ls 1 [(0, .ref (ad a0))]) : W p l e R s m args below meth c H locs cells slots Q (F0 m 382 ls []) := by
  have hx := X.1
  have hb := X.2.1
  have hml := X.2.2.1
  have hown := X.2.2.2.1
  have hts := X.2.2.2.2.1
  unfold fX12_init_J382 at hf
  refine lv_aload_n hx hb dX12_init_382 rfl (lv_at hl 0 rfl) ?_
  refine lv_iconst (v := (0 : Int32)) hx hb dX12_init_383 (by decide) ?_
  obtain ⟨h200, hmade, hf⟩ := hf
  subst h200
  replace hR := zSt.made hR hmade
  refine z_callVV (fr1 := 0) (b := 200) (As := [.int (0 : Int32)]) (rest := []) X (hr.none (by decide)) hR zy_X12_standsAsAlways zq_190 (zlit hR zf_200) (by rw [zs_200]; rfl) rfl (mX12_standsAsAlways  hf) rfl hl (Nat.le_of_ble_eq_true rfl) dX12_init_384 rfl (fun w80 H locs hf hR => ?_)
  refine lv_aload_n hx hb dX12_init_387 rfl (lv_at hl 0 rfl) ?_
  refine z_callVV (fr1 := 3) (b := 200) (As := []) (rest := []) X (hr.none (by decide)) hR zy_X12_begins zq_194 (zlit hR zf_200) (by rw [zs_200]; rfl) rfl (mX12_begins  hf) rfl hl (Nat.le_of_ble_eq_true rfl) dX12_init_388 rfl (fun w81 H locs hf hR => ?_)
  exact hQ _ _ _ _ _ _ _ _ _ hX (by have := hr.2.2.1; omega) (by have := hr.2.2.2; omega) hf hR dX12_init_391
def fX12_init_J373 (a0 : Nat) (k : zW → Prop) (mc ms : Nat)  (w : zW) : Prop :=
  ¬ gI w 0 241 = 1 ∧ 1 ≤ mc ∧ 1891 ≤ ms ∧ ∀ w78 : zW, w78 = nW w 241 →
  ∀ w79 : zW, w79 = sR w78 a0 41 241 →
  fX12_init_J382 a0 k (mc - 1) (ms - 1891)  w79
set_option maxHeartbeats 4000000 in
set_option maxRecDepth 100000 in
theorem mX12_init_J373 {k : zW → Prop} {a0 : Nat} (X : zCx p s m args meth c cX12_init 1 RX12 none) (hQ : zRetAV p l e R s m args below meth c Q D dA true ad0 al0 cX12_init k) (hin : meth.name = "<init>")  {cells slots mc ms : Nat}  {ad : Nat → Nat} {al : Nat → Prop} {w : zW} {H : Heap} {locs : List Loc} {ls : Array Slot} (ha0 : al a0 ∧ zsh a0 = 12) (hf : fX12_init_J373 a0 k mc ms  w) (hX : zExt ad0 al0 ad al) (hr : zRm R 4 (cells + mc) (slots + ms)) (hR : zSt D dA false ad0 al0 ad al w s H locs) (hl : lv_has ls 1 [(0, .ref (ad a0))]) : W p l e R s m args below meth c H locs cells slots Q (F0 m 373 ls []) := by
  have hx := X.1
  have hb := X.2.1
  have hml := X.2.2.1
  have hown := X.2.2.2.1
  have hts := X.2.2.2.2.1
  unfold fX12_init_J373 at hf
  refine lv_aload_n hx hb dX12_init_373 rfl (lv_at hl 0 rfl) ?_
  refine lv_sipush (v := (1891 : Int32)) hx hb dX12_init_374 (by decide) ?_
  have hw78_1 : al a0 := ha0.1
  have hv78_1 : al a0 := ha0.1
  obtain ⟨hg78, hc78, hs78, hf⟩ := hf
  refine z_newaI (N := 1891) X (hr.new hc78 hs78) hR (j := 241) (fun h9 => absurd h9 (by decide)) hg78 zs_241 zl_241 (by decide) (by decide) (by decide) zq_64 dX12_init_377 (fun ad78 al78 H hE78 hj78 hR => ?_)
  obtain ⟨w78, hw78⟩ : ∃ z : zW, z = nW w 241 := ⟨_, rfl⟩
  rw [← hw78] at hR
  replace hf := hf w78 hw78
  have hX := hX.tr hE78
  have hr := hr.after hc78 hs78
  have ha0 : al78 a0 ∧ zsh a0 = 12 := ⟨(hE78 _ ha0.1).1, ha0.2⟩
  rw [← (hE78 a0 hw78_1).2] at hl
  rw [← (hE78 a0 hv78_1).2]
  refine z_putFR X hR hin ha0.1 ha0.2 (by decide) zff_X12_149 rfl rfl (by decide) hj78 (by rw [zdc_of ha0.2 rfl]; exact zs_241) dX12_init_379 (fun H locs hR => ?_)
  obtain ⟨w79, hw79⟩ : ∃ z : zW, z = sR w78 a0 41 241 := ⟨_, rfl⟩
  rw [← hw79] at hR
  replace hf := hf w79 hw79
  exact mX12_init_J382 X hQ hin  ha0 hf hX hr hR (lv_sub hl [0] rfl)
def fX12_init_J357 (a0 : Nat) (k : zW → Prop) (mc ms : Nat)  (w : zW) : Prop :=
  ¬ gI w 0 239 = 1 ∧ 1 ≤ mc ∧ 8 ≤ ms ∧ ∀ w74 : zW, w74 = nW w 239 →
  ∀ w75 : zW, w75 = sR w74 a0 39 239 →
  ¬ gI w75 0 240 = 1 ∧ 1 ≤ mc - 1 ∧ 32 ≤ ms - 8 ∧ ∀ w76 : zW, w76 = nW w75 240 →
  ∀ w77 : zW, w77 = sR w76 a0 40 240 →
  fX12_init_J373 a0 k ((mc - 1) - 1) ((ms - 8) - 32)  w77
set_option maxHeartbeats 4000000 in
set_option maxRecDepth 100000 in
theorem mX12_init_J357 {k : zW → Prop} {a0 : Nat} (X : zCx p s m args meth c cX12_init 1 RX12 none) (hQ : zRetAV p l e R s m args below meth c Q D dA true ad0 al0 cX12_init k) (hin : meth.name = "<init>")  {cells slots mc ms : Nat}  {ad : Nat → Nat} {al : Nat → Prop} {w : zW} {H : Heap} {locs : List Loc} {ls : Array Slot} (ha0 : al a0 ∧ zsh a0 = 12) (hf : fX12_init_J357 a0 k mc ms  w) (hX : zExt ad0 al0 ad al) (hr : zRm R 4 (cells + mc) (slots + ms)) (hR : zSt D dA false ad0 al0 ad al w s H locs) (hl : lv_has ls 1 [(0, .ref (ad a0))]) : W p l e R s m args below meth c H locs cells slots Q (F0 m 357 ls []) := by
  have hx := X.1
  have hb := X.2.1
  have hml := X.2.2.1
  have hown := X.2.2.2.1
  have hts := X.2.2.2.2.1
  unfold fX12_init_J357 at hf
  refine lv_aload_n hx hb dX12_init_357 rfl (lv_at hl 0 rfl) ?_
  refine lv_bipush (v := (8 : Int32)) hx hb dX12_init_358 (by decide) ?_
  have hw74_1 : al a0 := ha0.1
  have hv74_1 : al a0 := ha0.1
  obtain ⟨hg74, hc74, hs74, hf⟩ := hf
  refine z_newaI (N := 8) X (hr.new hc74 hs74) hR (j := 239) (fun h9 => absurd h9 (by decide)) hg74 zs_239 zl_239 (by decide) (by decide) (by decide) zq_64 dX12_init_360 (fun ad74 al74 H hE74 hj74 hR => ?_)
  obtain ⟨w74, hw74⟩ : ∃ z : zW, z = nW w 239 := ⟨_, rfl⟩
  rw [← hw74] at hR
  replace hf := hf w74 hw74
  have hX := hX.tr hE74
  have hr := hr.after hc74 hs74
  have ha0 : al74 a0 ∧ zsh a0 = 12 := ⟨(hE74 _ ha0.1).1, ha0.2⟩
  rw [← (hE74 a0 hw74_1).2] at hl
  rw [← (hE74 a0 hv74_1).2]
  refine z_putFR X hR hin ha0.1 ha0.2 (by decide) zff_X12_143 rfl rfl (by decide) hj74 (by rw [zdc_of ha0.2 rfl]; exact zs_239) dX12_init_362 (fun H locs hR => ?_)
  obtain ⟨w75, hw75⟩ : ∃ z : zW, z = sR w74 a0 39 239 := ⟨_, rfl⟩
  rw [← hw75] at hR
  replace hf := hf w75 hw75
  refine lv_aload_n hx hb dX12_init_365 rfl (lv_at hl 0 rfl) ?_
  refine lv_bipush (v := (32 : Int32)) hx hb dX12_init_366 (by decide) ?_
  have hw76_1 : al74 a0 := ha0.1
  have hv76_1 : al74 a0 := ha0.1
  obtain ⟨hg76, hc76, hs76, hf⟩ := hf
  refine z_newaI (N := 32) X (hr.new hc76 hs76) hR (j := 240) (fun h9 => absurd h9 (by decide)) hg76 zs_240 zl_240 (by decide) (by decide) (by decide) zq_64 dX12_init_368 (fun ad76 al76 H hE76 hj76 hR => ?_)
  obtain ⟨w76, hw76⟩ : ∃ z : zW, z = nW w75 240 := ⟨_, rfl⟩
  rw [← hw76] at hR
  replace hf := hf w76 hw76
  have hX := hX.tr hE76
  have hr := hr.after hc76 hs76
  have ha0 : al76 a0 ∧ zsh a0 = 12 := ⟨(hE76 _ ha0.1).1, ha0.2⟩
  rw [← (hE76 a0 hw76_1).2] at hl
  rw [← (hE76 a0 hv76_1).2]
  refine z_putFR X hR hin ha0.1 ha0.2 (by decide) zff_X12_146 rfl rfl (by decide) hj76 (by rw [zdc_of ha0.2 rfl]; exact zs_240) dX12_init_370 (fun H locs hR => ?_)
  obtain ⟨w77, hw77⟩ : ∃ z : zW, z = sR w76 a0 40 240 := ⟨_, rfl⟩
  rw [← hw77] at hR
  replace hf := hf w77 hw77
  exact mX12_init_J373 X hQ hin  ha0 hf hX hr hR (lv_sub hl [0] rfl)
def fX12_init_J303 (a0 : Nat) (k : zW → Prop) (mc ms : Nat)  (w : zW) : Prop :=
  ¬ gI w 0 227 = 1 ∧ 1 ≤ mc ∧ 4 ≤ ms ∧ ∀ w60 : zW, w60 = nW w 227 →
  ∀ w61 : zW, w61 = sR w60 a0 27 227 →
  ¬ gI w61 0 228 = 1 ∧ 1 ≤ mc - 1 ∧ 8 ≤ ms - 4 ∧ ∀ w62 : zW, w62 = nW w61 228 →
  ∀ w63 : zW, w63 = sR w62 a0 28 228 →
  ¬ gI w63 0 234 = 1 ∧ 1 ≤ (mc - 1) - 1 ∧ 36 ≤ (ms - 4) - 8 ∧ ∀ w64 : zW, w64 = nW w63 234 →
  ∀ w65 : zW, w65 = sR w64 a0 34 234 →
  ¬ gI w65 0 235 = 1 ∧ 1 ≤ ((mc - 1) - 1) - 1 ∧ 968 ≤ ((ms - 4) - 8) - 36 ∧ ∀ w66 : zW, w66 = nW w65 235 →
  ∀ w67 : zW, w67 = sR w66 a0 35 235 →
  ¬ gI w67 0 236 = 1 ∧ 1 ≤ (((mc - 1) - 1) - 1) - 1 ∧ 4 ≤ (((ms - 4) - 8) - 36) - 968 ∧ ∀ w68 : zW, w68 = nW w67 236 →
  ∀ w69 : zW, w69 = sR w68 a0 36 236 →
  ¬ gI w69 0 237 = 1 ∧ 1 ≤ ((((mc - 1) - 1) - 1) - 1) - 1 ∧ 16 ≤ ((((ms - 4) - 8) - 36) - 968) - 4 ∧ ∀ w70 : zW, w70 = nW w69 237 →
  ∀ w71 : zW, w71 = sR w70 a0 37 237 →
  ¬ gI w71 0 238 = 1 ∧ 1 ≤ (((((mc - 1) - 1) - 1) - 1) - 1) - 1 ∧ 8 ≤ (((((ms - 4) - 8) - 36) - 968) - 4) - 16 ∧ ∀ w72 : zW, w72 = nW w71 238 →
  ∀ w73 : zW, w73 = sR w72 a0 38 238 →
  fX12_init_J357 a0 k (((((((mc - 1) - 1) - 1) - 1) - 1) - 1) - 1) (((((((ms - 4) - 8) - 36) - 968) - 4) - 16) - 8)  w73
set_option maxHeartbeats 4000000 in
set_option maxRecDepth 100000 in
theorem mX12_init_J303 {k : zW → Prop} {a0 : Nat} (X : zCx p s m args meth c cX12_init 1 RX12 none) (hQ : zRetAV p l e R s m args below meth c Q D dA true ad0 al0 cX12_init k) (hin : meth.name = "<init>")  {cells slots mc ms : Nat}  {ad : Nat → Nat} {al : Nat → Prop} {w : zW} {H : Heap} {locs : List Loc} {ls : Array Slot} (ha0 : al a0 ∧ zsh a0 = 12) (hf : fX12_init_J303 a0 k mc ms  w) (hX : zExt ad0 al0 ad al) (hr : zRm R 4 (cells + mc) (slots + ms)) (hR : zSt D dA false ad0 al0 ad al w s H locs) (hl : lv_has ls 1 [(0, .ref (ad a0))]) : W p l e R s m args below meth c H locs cells slots Q (F0 m 303 ls [.ref (ad a0)]) := by
  have hx := X.1
  have hb := X.2.1
  have hml := X.2.2.1
  have hown := X.2.2.2.1
  have hts := X.2.2.2.2.1
  unfold fX12_init_J303 at hf
  refine lv_iconst (v := (4 : Int32)) hx hb dX12_init_303 (by decide) ?_
  have hw60_1 : al a0 := ha0.1
  have hv60_1 : al a0 := ha0.1
  obtain ⟨hg60, hc60, hs60, hf⟩ := hf
  refine z_newaI (N := 4) X (hr.new hc60 hs60) hR (j := 227) (fun h9 => absurd h9 (by decide)) hg60 zs_227 zl_227 (by decide) (by decide) (by decide) zq_64 dX12_init_304 (fun ad60 al60 H hE60 hj60 hR => ?_)
  obtain ⟨w60, hw60⟩ : ∃ z : zW, z = nW w 227 := ⟨_, rfl⟩
  rw [← hw60] at hR
  replace hf := hf w60 hw60
  have hX := hX.tr hE60
  have hr := hr.after hc60 hs60
  have ha0 : al60 a0 ∧ zsh a0 = 12 := ⟨(hE60 _ ha0.1).1, ha0.2⟩
  rw [← (hE60 a0 hw60_1).2] at hl
  rw [← (hE60 a0 hv60_1).2]
  refine z_putFR X hR hin ha0.1 ha0.2 (by decide) zff_X12_122 rfl rfl (by decide) hj60 (by rw [zdc_of ha0.2 rfl]; exact zs_227) dX12_init_306 (fun H locs hR => ?_)
  obtain ⟨w61, hw61⟩ : ∃ z : zW, z = sR w60 a0 27 227 := ⟨_, rfl⟩
  rw [← hw61] at hR
  replace hf := hf w61 hw61
  refine lv_aload_n hx hb dX12_init_309 rfl (lv_at hl 0 rfl) ?_
  refine lv_bipush (v := (8 : Int32)) hx hb dX12_init_310 (by decide) ?_
  have hw62_1 : al60 a0 := ha0.1
  have hv62_1 : al60 a0 := ha0.1
  obtain ⟨hg62, hc62, hs62, hf⟩ := hf
  refine z_newaI (N := 8) X (hr.new hc62 hs62) hR (j := 228) (fun h9 => absurd h9 (by decide)) hg62 zs_228 zl_228 (by decide) (by decide) (by decide) zq_64 dX12_init_312 (fun ad62 al62 H hE62 hj62 hR => ?_)
  obtain ⟨w62, hw62⟩ : ∃ z : zW, z = nW w61 228 := ⟨_, rfl⟩
  rw [← hw62] at hR
  replace hf := hf w62 hw62
  have hX := hX.tr hE62
  have hr := hr.after hc62 hs62
  have ha0 : al62 a0 ∧ zsh a0 = 12 := ⟨(hE62 _ ha0.1).1, ha0.2⟩
  rw [← (hE62 a0 hw62_1).2] at hl
  rw [← (hE62 a0 hv62_1).2]
  refine z_putFR X hR hin ha0.1 ha0.2 (by decide) zff_X12_125 rfl rfl (by decide) hj62 (by rw [zdc_of ha0.2 rfl]; exact zs_228) dX12_init_314 (fun H locs hR => ?_)
  obtain ⟨w63, hw63⟩ : ∃ z : zW, z = sR w62 a0 28 228 := ⟨_, rfl⟩
  rw [← hw63] at hR
  replace hf := hf w63 hw63
  refine lv_aload_n hx hb dX12_init_317 rfl (lv_at hl 0 rfl) ?_
  refine lv_bipush (v := (36 : Int32)) hx hb dX12_init_318 (by decide) ?_
  have hw64_1 : al62 a0 := ha0.1
  have hv64_1 : al62 a0 := ha0.1
  obtain ⟨hg64, hc64, hs64, hf⟩ := hf
  refine z_newaI (N := 36) X (hr.new hc64 hs64) hR (j := 234) (fun h9 => absurd h9 (by decide)) hg64 zs_234 zl_234 (by decide) (by decide) (by decide) zq_64 dX12_init_320 (fun ad64 al64 H hE64 hj64 hR => ?_)
  obtain ⟨w64, hw64⟩ : ∃ z : zW, z = nW w63 234 := ⟨_, rfl⟩
  rw [← hw64] at hR
  replace hf := hf w64 hw64
  have hX := hX.tr hE64
  have hr := hr.after hc64 hs64
  have ha0 : al64 a0 ∧ zsh a0 = 12 := ⟨(hE64 _ ha0.1).1, ha0.2⟩
  rw [← (hE64 a0 hw64_1).2] at hl
  rw [← (hE64 a0 hv64_1).2]
  refine z_putFR X hR hin ha0.1 ha0.2 (by decide) zff_X12_128 rfl rfl (by decide) hj64 (by rw [zdc_of ha0.2 rfl]; exact zs_234) dX12_init_322 (fun H locs hR => ?_)
  obtain ⟨w65, hw65⟩ : ∃ z : zW, z = sR w64 a0 34 234 := ⟨_, rfl⟩
  rw [← hw65] at hR
  replace hf := hf w65 hw65
  refine lv_aload_n hx hb dX12_init_325 rfl (lv_at hl 0 rfl) ?_
  refine lv_sipush (v := (968 : Int32)) hx hb dX12_init_326 (by decide) ?_
  have hw66_1 : al64 a0 := ha0.1
  have hv66_1 : al64 a0 := ha0.1
  obtain ⟨hg66, hc66, hs66, hf⟩ := hf
  refine z_newaI (N := 968) X (hr.new hc66 hs66) hR (j := 235) (fun h9 => absurd h9 (by decide)) hg66 zs_235 zl_235 (by decide) (by decide) (by decide) zq_64 dX12_init_329 (fun ad66 al66 H hE66 hj66 hR => ?_)
  obtain ⟨w66, hw66⟩ : ∃ z : zW, z = nW w65 235 := ⟨_, rfl⟩
  rw [← hw66] at hR
  replace hf := hf w66 hw66
  have hX := hX.tr hE66
  have hr := hr.after hc66 hs66
  have ha0 : al66 a0 ∧ zsh a0 = 12 := ⟨(hE66 _ ha0.1).1, ha0.2⟩
  rw [← (hE66 a0 hw66_1).2] at hl
  rw [← (hE66 a0 hv66_1).2]
  refine z_putFR X hR hin ha0.1 ha0.2 (by decide) zff_X12_131 rfl rfl (by decide) hj66 (by rw [zdc_of ha0.2 rfl]; exact zs_235) dX12_init_331 (fun H locs hR => ?_)
  obtain ⟨w67, hw67⟩ : ∃ z : zW, z = sR w66 a0 35 235 := ⟨_, rfl⟩
  rw [← hw67] at hR
  replace hf := hf w67 hw67
  refine lv_aload_n hx hb dX12_init_334 rfl (lv_at hl 0 rfl) ?_
  refine lv_iconst (v := (4 : Int32)) hx hb dX12_init_335 (by decide) ?_
  have hw68_1 : al66 a0 := ha0.1
  have hv68_1 : al66 a0 := ha0.1
  obtain ⟨hg68, hc68, hs68, hf⟩ := hf
  refine z_newaI (N := 4) X (hr.new hc68 hs68) hR (j := 236) (fun h9 => absurd h9 (by decide)) hg68 zs_236 zl_236 (by decide) (by decide) (by decide) zq_64 dX12_init_336 (fun ad68 al68 H hE68 hj68 hR => ?_)
  obtain ⟨w68, hw68⟩ : ∃ z : zW, z = nW w67 236 := ⟨_, rfl⟩
  rw [← hw68] at hR
  replace hf := hf w68 hw68
  have hX := hX.tr hE68
  have hr := hr.after hc68 hs68
  have ha0 : al68 a0 ∧ zsh a0 = 12 := ⟨(hE68 _ ha0.1).1, ha0.2⟩
  rw [← (hE68 a0 hw68_1).2] at hl
  rw [← (hE68 a0 hv68_1).2]
  refine z_putFR X hR hin ha0.1 ha0.2 (by decide) zff_X12_134 rfl rfl (by decide) hj68 (by rw [zdc_of ha0.2 rfl]; exact zs_236) dX12_init_338 (fun H locs hR => ?_)
  obtain ⟨w69, hw69⟩ : ∃ z : zW, z = sR w68 a0 36 236 := ⟨_, rfl⟩
  rw [← hw69] at hR
  replace hf := hf w69 hw69
  refine lv_aload_n hx hb dX12_init_341 rfl (lv_at hl 0 rfl) ?_
  refine lv_bipush (v := (16 : Int32)) hx hb dX12_init_342 (by decide) ?_
  have hw70_1 : al68 a0 := ha0.1
  have hv70_1 : al68 a0 := ha0.1
  obtain ⟨hg70, hc70, hs70, hf⟩ := hf
  refine z_newaZ (N := 16) X (hr.new hc70 hs70) hR (j := 237) (fun h9 => absurd h9 (by decide)) hg70 zs_237 zl_237 (by decide) (by decide) (by decide) zq_27 dX12_init_344 (fun ad70 al70 H hE70 hj70 hR => ?_)
  obtain ⟨w70, hw70⟩ : ∃ z : zW, z = nW w69 237 := ⟨_, rfl⟩
  rw [← hw70] at hR
  replace hf := hf w70 hw70
  have hX := hX.tr hE70
  have hr := hr.after hc70 hs70
  have ha0 : al70 a0 ∧ zsh a0 = 12 := ⟨(hE70 _ ha0.1).1, ha0.2⟩
  rw [← (hE70 a0 hw70_1).2] at hl
  rw [← (hE70 a0 hv70_1).2]
  refine z_putFR X hR hin ha0.1 ha0.2 (by decide) zff_X12_137 rfl rfl (by decide) hj70 (by rw [zdc_of ha0.2 rfl]; exact zs_237) dX12_init_346 (fun H locs hR => ?_)
  obtain ⟨w71, hw71⟩ : ∃ z : zW, z = sR w70 a0 37 237 := ⟨_, rfl⟩
  rw [← hw71] at hR
  replace hf := hf w71 hw71
  refine lv_aload_n hx hb dX12_init_349 rfl (lv_at hl 0 rfl) ?_
  refine lv_bipush (v := (8 : Int32)) hx hb dX12_init_350 (by decide) ?_
  have hw72_1 : al70 a0 := ha0.1
  have hv72_1 : al70 a0 := ha0.1
  obtain ⟨hg72, hc72, hs72, hf⟩ := hf
  refine z_newaI (N := 8) X (hr.new hc72 hs72) hR (j := 238) (fun h9 => absurd h9 (by decide)) hg72 zs_238 zl_238 (by decide) (by decide) (by decide) zq_64 dX12_init_352 (fun ad72 al72 H hE72 hj72 hR => ?_)
  obtain ⟨w72, hw72⟩ : ∃ z : zW, z = nW w71 238 := ⟨_, rfl⟩
  rw [← hw72] at hR
  replace hf := hf w72 hw72
  have hX := hX.tr hE72
  have hr := hr.after hc72 hs72
  have ha0 : al72 a0 ∧ zsh a0 = 12 := ⟨(hE72 _ ha0.1).1, ha0.2⟩
  rw [← (hE72 a0 hw72_1).2] at hl
  rw [← (hE72 a0 hv72_1).2]
  refine z_putFR X hR hin ha0.1 ha0.2 (by decide) zff_X12_140 rfl rfl (by decide) hj72 (by rw [zdc_of ha0.2 rfl]; exact zs_238) dX12_init_354 (fun H locs hR => ?_)
  obtain ⟨w73, hw73⟩ : ∃ z : zW, z = sR w72 a0 38 238 := ⟨_, rfl⟩
  rw [← hw73] at hR
  replace hf := hf w73 hw73
  exact mX12_init_J357 X hQ hin  ha0 hf hX hr hR (lv_sub hl [0] rfl)
def fX12_init_J286 (a0 : Nat) (k : zW → Prop) (mc ms : Nat)  (w : zW) : Prop :=
  ¬ gI w 0 225 = 1 ∧ 1 ≤ mc ∧ 32 ≤ ms ∧ ∀ w56 : zW, w56 = nW w 225 →
  ∀ w57 : zW, w57 = sR w56 a0 25 225 →
  ¬ gI w57 0 226 = 1 ∧ 1 ≤ mc - 1 ∧ 12 ≤ ms - 32 ∧ ∀ w58 : zW, w58 = nW w57 226 →
  ∀ w59 : zW, w59 = sR w58 a0 26 226 →
  fX12_init_J303 a0 k ((mc - 1) - 1) ((ms - 32) - 12)  w59
set_option maxHeartbeats 4000000 in
set_option maxRecDepth 100000 in
theorem mX12_init_J286 {k : zW → Prop} {a0 : Nat} (X : zCx p s m args meth c cX12_init 1 RX12 none) (hQ : zRetAV p l e R s m args below meth c Q D dA true ad0 al0 cX12_init k) (hin : meth.name = "<init>")  {cells slots mc ms : Nat}  {ad : Nat → Nat} {al : Nat → Prop} {w : zW} {H : Heap} {locs : List Loc} {ls : Array Slot} (ha0 : al a0 ∧ zsh a0 = 12) (hf : fX12_init_J286 a0 k mc ms  w) (hX : zExt ad0 al0 ad al) (hr : zRm R 4 (cells + mc) (slots + ms)) (hR : zSt D dA false ad0 al0 ad al w s H locs) (hl : lv_has ls 1 [(0, .ref (ad a0))]) : W p l e R s m args below meth c H locs cells slots Q (F0 m 286 ls []) := by
  have hx := X.1
  have hb := X.2.1
  have hml := X.2.2.1
  have hown := X.2.2.2.1
  have hts := X.2.2.2.2.1
  unfold fX12_init_J286 at hf
  refine lv_aload_n hx hb dX12_init_286 rfl (lv_at hl 0 rfl) ?_
  refine lv_bipush (v := (32 : Int32)) hx hb dX12_init_287 (by decide) ?_
  have hw56_1 : al a0 := ha0.1
  have hv56_1 : al a0 := ha0.1
  obtain ⟨hg56, hc56, hs56, hf⟩ := hf
  refine z_newaI (N := 32) X (hr.new hc56 hs56) hR (j := 225) (fun h9 => absurd h9 (by decide)) hg56 zs_225 zl_225 (by decide) (by decide) (by decide) zq_64 dX12_init_289 (fun ad56 al56 H hE56 hj56 hR => ?_)
  obtain ⟨w56, hw56⟩ : ∃ z : zW, z = nW w 225 := ⟨_, rfl⟩
  rw [← hw56] at hR
  replace hf := hf w56 hw56
  have hX := hX.tr hE56
  have hr := hr.after hc56 hs56
  have ha0 : al56 a0 ∧ zsh a0 = 12 := ⟨(hE56 _ ha0.1).1, ha0.2⟩
  rw [← (hE56 a0 hw56_1).2] at hl
  rw [← (hE56 a0 hv56_1).2]
  refine z_putFR X hR hin ha0.1 ha0.2 (by decide) zff_X12_116 rfl rfl (by decide) hj56 (by rw [zdc_of ha0.2 rfl]; exact zs_225) dX12_init_291 (fun H locs hR => ?_)
  obtain ⟨w57, hw57⟩ : ∃ z : zW, z = sR w56 a0 25 225 := ⟨_, rfl⟩
  rw [← hw57] at hR
  replace hf := hf w57 hw57
  refine lv_aload_n hx hb dX12_init_294 rfl (lv_at hl 0 rfl) ?_
  refine lv_bipush (v := (12 : Int32)) hx hb dX12_init_295 (by decide) ?_
  have hw58_1 : al56 a0 := ha0.1
  have hv58_1 : al56 a0 := ha0.1
  obtain ⟨hg58, hc58, hs58, hf⟩ := hf
  refine z_newaI (N := 12) X (hr.new hc58 hs58) hR (j := 226) (fun h9 => absurd h9 (by decide)) hg58 zs_226 zl_226 (by decide) (by decide) (by decide) zq_64 dX12_init_297 (fun ad58 al58 H hE58 hj58 hR => ?_)
  obtain ⟨w58, hw58⟩ : ∃ z : zW, z = nW w57 226 := ⟨_, rfl⟩
  rw [← hw58] at hR
  replace hf := hf w58 hw58
  have hX := hX.tr hE58
  have hr := hr.after hc58 hs58
  have ha0 : al58 a0 ∧ zsh a0 = 12 := ⟨(hE58 _ ha0.1).1, ha0.2⟩
  rw [← (hE58 a0 hw58_1).2] at hl
  rw [← (hE58 a0 hv58_1).2]
  refine z_putFR X hR hin ha0.1 ha0.2 (by decide) zff_X12_119 rfl rfl (by decide) hj58 (by rw [zdc_of ha0.2 rfl]; exact zs_226) dX12_init_299 (fun H locs hR => ?_)
  obtain ⟨w59, hw59⟩ : ∃ z : zW, z = sR w58 a0 26 226 := ⟨_, rfl⟩
  rw [← hw59] at hR
  replace hf := hf w59 hw59
  refine lv_aload_n hx hb dX12_init_302 rfl (lv_at hl 0 rfl) ?_
  exact mX12_init_J303 X hQ hin  ha0 hf hX hr hR (lv_sub hl [0] rfl)
def fX12_init_J271 (a0 : Nat) (k : zW → Prop) (mc ms : Nat)  (w : zW) : Prop :=
  ¬ gI w 0 223 = 1 ∧ 1 ≤ mc ∧ 36 ≤ ms ∧ ∀ w52 : zW, w52 = nW w 223 →
  ∀ w53 : zW, w53 = sR w52 a0 23 223 →
  ¬ gI w53 0 224 = 1 ∧ 1 ≤ mc - 1 ∧ 4 ≤ ms - 36 ∧ ∀ w54 : zW, w54 = nW w53 224 →
  ∀ w55 : zW, w55 = sR w54 a0 24 224 →
  fX12_init_J286 a0 k ((mc - 1) - 1) ((ms - 36) - 4)  w55
set_option maxHeartbeats 4000000 in
set_option maxRecDepth 100000 in
theorem mX12_init_J271 {k : zW → Prop} {a0 : Nat} (X : zCx p s m args meth c cX12_init 1 RX12 none) (hQ : zRetAV p l e R s m args below meth c Q D dA true ad0 al0 cX12_init k) (hin : meth.name = "<init>")  {cells slots mc ms : Nat}  {ad : Nat → Nat} {al : Nat → Prop} {w : zW} {H : Heap} {locs : List Loc} {ls : Array Slot} (ha0 : al a0 ∧ zsh a0 = 12) (hf : fX12_init_J271 a0 k mc ms  w) (hX : zExt ad0 al0 ad al) (hr : zRm R 4 (cells + mc) (slots + ms)) (hR : zSt D dA false ad0 al0 ad al w s H locs) (hl : lv_has ls 1 [(0, .ref (ad a0))]) : W p l e R s m args below meth c H locs cells slots Q (F0 m 271 ls []) := by
  have hx := X.1
  have hb := X.2.1
  have hml := X.2.2.1
  have hown := X.2.2.2.1
  have hts := X.2.2.2.2.1
  unfold fX12_init_J271 at hf
  refine lv_aload_n hx hb dX12_init_271 rfl (lv_at hl 0 rfl) ?_
  refine lv_bipush (v := (36 : Int32)) hx hb dX12_init_272 (by decide) ?_
  have hw52_1 : al a0 := ha0.1
  have hv52_1 : al a0 := ha0.1
  obtain ⟨hg52, hc52, hs52, hf⟩ := hf
  refine z_newaZ (N := 36) X (hr.new hc52 hs52) hR (j := 223) (fun h9 => absurd h9 (by decide)) hg52 zs_223 zl_223 (by decide) (by decide) (by decide) zq_27 dX12_init_274 (fun ad52 al52 H hE52 hj52 hR => ?_)
  obtain ⟨w52, hw52⟩ : ∃ z : zW, z = nW w 223 := ⟨_, rfl⟩
  rw [← hw52] at hR
  replace hf := hf w52 hw52
  have hX := hX.tr hE52
  have hr := hr.after hc52 hs52
  have ha0 : al52 a0 ∧ zsh a0 = 12 := ⟨(hE52 _ ha0.1).1, ha0.2⟩
  rw [← (hE52 a0 hw52_1).2] at hl
  rw [← (hE52 a0 hv52_1).2]
  refine z_putFR X hR hin ha0.1 ha0.2 (by decide) zff_X12_110 rfl rfl (by decide) hj52 (by rw [zdc_of ha0.2 rfl]; exact zs_223) dX12_init_276 (fun H locs hR => ?_)
  obtain ⟨w53, hw53⟩ : ∃ z : zW, z = sR w52 a0 23 223 := ⟨_, rfl⟩
  rw [← hw53] at hR
  replace hf := hf w53 hw53
  refine lv_aload_n hx hb dX12_init_279 rfl (lv_at hl 0 rfl) ?_
  refine lv_iconst (v := (4 : Int32)) hx hb dX12_init_280 (by decide) ?_
  have hw54_1 : al52 a0 := ha0.1
  have hv54_1 : al52 a0 := ha0.1
  obtain ⟨hg54, hc54, hs54, hf⟩ := hf
  refine z_newaI (N := 4) X (hr.new hc54 hs54) hR (j := 224) (fun h9 => absurd h9 (by decide)) hg54 zs_224 zl_224 (by decide) (by decide) (by decide) zq_64 dX12_init_281 (fun ad54 al54 H hE54 hj54 hR => ?_)
  obtain ⟨w54, hw54⟩ : ∃ z : zW, z = nW w53 224 := ⟨_, rfl⟩
  rw [← hw54] at hR
  replace hf := hf w54 hw54
  have hX := hX.tr hE54
  have hr := hr.after hc54 hs54
  have ha0 : al54 a0 ∧ zsh a0 = 12 := ⟨(hE54 _ ha0.1).1, ha0.2⟩
  rw [← (hE54 a0 hw54_1).2] at hl
  rw [← (hE54 a0 hv54_1).2]
  refine z_putFR X hR hin ha0.1 ha0.2 (by decide) zff_X12_113 rfl rfl (by decide) hj54 (by rw [zdc_of ha0.2 rfl]; exact zs_224) dX12_init_283 (fun H locs hR => ?_)
  obtain ⟨w55, hw55⟩ : ∃ z : zW, z = sR w54 a0 24 224 := ⟨_, rfl⟩
  rw [← hw55] at hR
  replace hf := hf w55 hw55
  exact mX12_init_J286 X hQ hin  ha0 hf hX hr hR (lv_sub hl [0] rfl)
def fX12_init_J255 (a0 : Nat) (k : zW → Prop) (mc ms : Nat)  (w : zW) : Prop :=
  ¬ gI w 0 220 = 1 ∧ 1 ≤ mc ∧ 252 ≤ ms ∧ ∀ w48 : zW, w48 = nW w 220 →
  ∀ w49 : zW, w49 = sR w48 a0 20 220 →
  ¬ gI w49 0 222 = 1 ∧ 1 ≤ mc - 1 ∧ 4 ≤ ms - 252 ∧ ∀ w50 : zW, w50 = nW w49 222 →
  ∀ w51 : zW, w51 = sR w50 a0 22 222 →
  fX12_init_J271 a0 k ((mc - 1) - 1) ((ms - 252) - 4)  w51
set_option maxHeartbeats 4000000 in
set_option maxRecDepth 100000 in
theorem mX12_init_J255 {k : zW → Prop} {a0 : Nat} (X : zCx p s m args meth c cX12_init 1 RX12 none) (hQ : zRetAV p l e R s m args below meth c Q D dA true ad0 al0 cX12_init k) (hin : meth.name = "<init>")  {cells slots mc ms : Nat}  {ad : Nat → Nat} {al : Nat → Prop} {w : zW} {H : Heap} {locs : List Loc} {ls : Array Slot} (ha0 : al a0 ∧ zsh a0 = 12) (hf : fX12_init_J255 a0 k mc ms  w) (hX : zExt ad0 al0 ad al) (hr : zRm R 4 (cells + mc) (slots + ms)) (hR : zSt D dA false ad0 al0 ad al w s H locs) (hl : lv_has ls 1 [(0, .ref (ad a0))]) : W p l e R s m args below meth c H locs cells slots Q (F0 m 255 ls []) := by
  have hx := X.1
  have hb := X.2.1
  have hml := X.2.2.1
  have hown := X.2.2.2.1
  have hts := X.2.2.2.2.1
  unfold fX12_init_J255 at hf
  refine lv_aload_n hx hb dX12_init_255 rfl (lv_at hl 0 rfl) ?_
  refine lv_sipush (v := (252 : Int32)) hx hb dX12_init_256 (by decide) ?_
  have hw48_1 : al a0 := ha0.1
  have hv48_1 : al a0 := ha0.1
  obtain ⟨hg48, hc48, hs48, hf⟩ := hf
  refine z_newaI (N := 252) X (hr.new hc48 hs48) hR (j := 220) (fun h9 => absurd h9 (by decide)) hg48 zs_220 zl_220 (by decide) (by decide) (by decide) zq_64 dX12_init_259 (fun ad48 al48 H hE48 hj48 hR => ?_)
  obtain ⟨w48, hw48⟩ : ∃ z : zW, z = nW w 220 := ⟨_, rfl⟩
  rw [← hw48] at hR
  replace hf := hf w48 hw48
  have hX := hX.tr hE48
  have hr := hr.after hc48 hs48
  have ha0 : al48 a0 ∧ zsh a0 = 12 := ⟨(hE48 _ ha0.1).1, ha0.2⟩
  rw [← (hE48 a0 hw48_1).2] at hl
  rw [← (hE48 a0 hv48_1).2]
  refine z_putFR X hR hin ha0.1 ha0.2 (by decide) zff_X12_103 rfl rfl (by decide) hj48 (by rw [zdc_of ha0.2 rfl]; exact zs_220) dX12_init_261 (fun H locs hR => ?_)
  obtain ⟨w49, hw49⟩ : ∃ z : zW, z = sR w48 a0 20 220 := ⟨_, rfl⟩
  rw [← hw49] at hR
  replace hf := hf w49 hw49
  refine lv_aload_n hx hb dX12_init_264 rfl (lv_at hl 0 rfl) ?_
  refine lv_iconst (v := (4 : Int32)) hx hb dX12_init_265 (by decide) ?_
  have hw50_1 : al48 a0 := ha0.1
  have hv50_1 : al48 a0 := ha0.1
  obtain ⟨hg50, hc50, hs50, hf⟩ := hf
  refine z_newaZ (N := 4) X (hr.new hc50 hs50) hR (j := 222) (fun h9 => absurd h9 (by decide)) hg50 zs_222 zl_222 (by decide) (by decide) (by decide) zq_27 dX12_init_266 (fun ad50 al50 H hE50 hj50 hR => ?_)
  obtain ⟨w50, hw50⟩ : ∃ z : zW, z = nW w49 222 := ⟨_, rfl⟩
  rw [← hw50] at hR
  replace hf := hf w50 hw50
  have hX := hX.tr hE50
  have hr := hr.after hc50 hs50
  have ha0 : al50 a0 ∧ zsh a0 = 12 := ⟨(hE50 _ ha0.1).1, ha0.2⟩
  rw [← (hE50 a0 hw50_1).2] at hl
  rw [← (hE50 a0 hv50_1).2]
  refine z_putFR X hR hin ha0.1 ha0.2 (by decide) zff_X12_106 rfl rfl (by decide) hj50 (by rw [zdc_of ha0.2 rfl]; exact zs_222) dX12_init_268 (fun H locs hR => ?_)
  obtain ⟨w51, hw51⟩ : ∃ z : zW, z = sR w50 a0 22 222 := ⟨_, rfl⟩
  rw [← hw51] at hR
  replace hf := hf w51 hw51
  exact mX12_init_J271 X hQ hin  ha0 hf hX hr hR (lv_sub hl [0] rfl)
def fX12_init_J223 (a0 : Nat) (k : zW → Prop) (mc ms : Nat)  (w : zW) : Prop :=
  ¬ gI w 0 215 = 1 ∧ 1 ≤ mc ∧ 61 ≤ ms ∧ ∀ w40 : zW, w40 = nW w 215 →
  ∀ w41 : zW, w41 = sR w40 a0 15 215 →
  ¬ gI w41 0 217 = 1 ∧ 1 ≤ mc - 1 ∧ 330 ≤ ms - 61 ∧ ∀ w42 : zW, w42 = nW w41 217 →
  ∀ w43 : zW, w43 = sR w42 a0 17 217 →
  ¬ gI w43 0 218 = 1 ∧ 1 ≤ (mc - 1) - 1 ∧ 4 ≤ (ms - 61) - 330 ∧ ∀ w44 : zW, w44 = nW w43 218 →
  ∀ w45 : zW, w45 = sR w44 a0 18 218 →
  ¬ gI w45 0 219 = 1 ∧ 1 ≤ ((mc - 1) - 1) - 1 ∧ 64 ≤ ((ms - 61) - 330) - 4 ∧ ∀ w46 : zW, w46 = nW w45 219 →
  ∀ w47 : zW, w47 = sR w46 a0 19 219 →
  fX12_init_J255 a0 k ((((mc - 1) - 1) - 1) - 1) ((((ms - 61) - 330) - 4) - 64)  w47
set_option maxHeartbeats 4000000 in
set_option maxRecDepth 100000 in
theorem mX12_init_J223 {k : zW → Prop} {a0 : Nat} (X : zCx p s m args meth c cX12_init 1 RX12 none) (hQ : zRetAV p l e R s m args below meth c Q D dA true ad0 al0 cX12_init k) (hin : meth.name = "<init>")  {cells slots mc ms : Nat}  {ad : Nat → Nat} {al : Nat → Prop} {w : zW} {H : Heap} {locs : List Loc} {ls : Array Slot} (ha0 : al a0 ∧ zsh a0 = 12) (hf : fX12_init_J223 a0 k mc ms  w) (hX : zExt ad0 al0 ad al) (hr : zRm R 4 (cells + mc) (slots + ms)) (hR : zSt D dA false ad0 al0 ad al w s H locs) (hl : lv_has ls 1 [(0, .ref (ad a0))]) : W p l e R s m args below meth c H locs cells slots Q (F0 m 223 ls []) := by
  have hx := X.1
  have hb := X.2.1
  have hml := X.2.2.1
  have hown := X.2.2.2.1
  have hts := X.2.2.2.2.1
  unfold fX12_init_J223 at hf
  refine lv_aload_n hx hb dX12_init_223 rfl (lv_at hl 0 rfl) ?_
  refine lv_bipush (v := (61 : Int32)) hx hb dX12_init_224 (by decide) ?_
  have hw40_1 : al a0 := ha0.1
  have hv40_1 : al a0 := ha0.1
  obtain ⟨hg40, hc40, hs40, hf⟩ := hf
  refine z_newaI (N := 61) X (hr.new hc40 hs40) hR (j := 215) (fun h9 => absurd h9 (by decide)) hg40 zs_215 zl_215 (by decide) (by decide) (by decide) zq_64 dX12_init_226 (fun ad40 al40 H hE40 hj40 hR => ?_)
  obtain ⟨w40, hw40⟩ : ∃ z : zW, z = nW w 215 := ⟨_, rfl⟩
  rw [← hw40] at hR
  replace hf := hf w40 hw40
  have hX := hX.tr hE40
  have hr := hr.after hc40 hs40
  have ha0 : al40 a0 ∧ zsh a0 = 12 := ⟨(hE40 _ ha0.1).1, ha0.2⟩
  rw [← (hE40 a0 hw40_1).2] at hl
  rw [← (hE40 a0 hv40_1).2]
  refine z_putFR X hR hin ha0.1 ha0.2 (by decide) zff_X12_91 rfl rfl (by decide) hj40 (by rw [zdc_of ha0.2 rfl]; exact zs_215) dX12_init_228 (fun H locs hR => ?_)
  obtain ⟨w41, hw41⟩ : ∃ z : zW, z = sR w40 a0 15 215 := ⟨_, rfl⟩
  rw [← hw41] at hR
  replace hf := hf w41 hw41
  refine lv_aload_n hx hb dX12_init_231 rfl (lv_at hl 0 rfl) ?_
  refine lv_sipush (v := (330 : Int32)) hx hb dX12_init_232 (by decide) ?_
  have hw42_1 : al40 a0 := ha0.1
  have hv42_1 : al40 a0 := ha0.1
  obtain ⟨hg42, hc42, hs42, hf⟩ := hf
  refine z_newaI (N := 330) X (hr.new hc42 hs42) hR (j := 217) (fun h9 => absurd h9 (by decide)) hg42 zs_217 zl_217 (by decide) (by decide) (by decide) zq_64 dX12_init_235 (fun ad42 al42 H hE42 hj42 hR => ?_)
  obtain ⟨w42, hw42⟩ : ∃ z : zW, z = nW w41 217 := ⟨_, rfl⟩
  rw [← hw42] at hR
  replace hf := hf w42 hw42
  have hX := hX.tr hE42
  have hr := hr.after hc42 hs42
  have ha0 : al42 a0 ∧ zsh a0 = 12 := ⟨(hE42 _ ha0.1).1, ha0.2⟩
  rw [← (hE42 a0 hw42_1).2] at hl
  rw [← (hE42 a0 hv42_1).2]
  refine z_putFR X hR hin ha0.1 ha0.2 (by decide) zff_X12_94 rfl rfl (by decide) hj42 (by rw [zdc_of ha0.2 rfl]; exact zs_217) dX12_init_237 (fun H locs hR => ?_)
  obtain ⟨w43, hw43⟩ : ∃ z : zW, z = sR w42 a0 17 217 := ⟨_, rfl⟩
  rw [← hw43] at hR
  replace hf := hf w43 hw43
  refine lv_aload_n hx hb dX12_init_240 rfl (lv_at hl 0 rfl) ?_
  refine lv_iconst (v := (4 : Int32)) hx hb dX12_init_241 (by decide) ?_
  have hw44_1 : al42 a0 := ha0.1
  have hv44_1 : al42 a0 := ha0.1
  obtain ⟨hg44, hc44, hs44, hf⟩ := hf
  refine z_newaI (N := 4) X (hr.new hc44 hs44) hR (j := 218) (fun h9 => absurd h9 (by decide)) hg44 zs_218 zl_218 (by decide) (by decide) (by decide) zq_64 dX12_init_242 (fun ad44 al44 H hE44 hj44 hR => ?_)
  obtain ⟨w44, hw44⟩ : ∃ z : zW, z = nW w43 218 := ⟨_, rfl⟩
  rw [← hw44] at hR
  replace hf := hf w44 hw44
  have hX := hX.tr hE44
  have hr := hr.after hc44 hs44
  have ha0 : al44 a0 ∧ zsh a0 = 12 := ⟨(hE44 _ ha0.1).1, ha0.2⟩
  rw [← (hE44 a0 hw44_1).2] at hl
  rw [← (hE44 a0 hv44_1).2]
  refine z_putFR X hR hin ha0.1 ha0.2 (by decide) zff_X12_97 rfl rfl (by decide) hj44 (by rw [zdc_of ha0.2 rfl]; exact zs_218) dX12_init_244 (fun H locs hR => ?_)
  obtain ⟨w45, hw45⟩ : ∃ z : zW, z = sR w44 a0 18 218 := ⟨_, rfl⟩
  rw [← hw45] at hR
  replace hf := hf w45 hw45
  refine lv_aload_n hx hb dX12_init_247 rfl (lv_at hl 0 rfl) ?_
  refine lv_bipush (v := (64 : Int32)) hx hb dX12_init_248 (by decide) ?_
  have hw46_1 : al44 a0 := ha0.1
  have hv46_1 : al44 a0 := ha0.1
  obtain ⟨hg46, hc46, hs46, hf⟩ := hf
  refine z_newaI (N := 64) X (hr.new hc46 hs46) hR (j := 219) (fun h9 => absurd h9 (by decide)) hg46 zs_219 zl_219 (by decide) (by decide) (by decide) zq_64 dX12_init_250 (fun ad46 al46 H hE46 hj46 hR => ?_)
  obtain ⟨w46, hw46⟩ : ∃ z : zW, z = nW w45 219 := ⟨_, rfl⟩
  rw [← hw46] at hR
  replace hf := hf w46 hw46
  have hX := hX.tr hE46
  have hr := hr.after hc46 hs46
  have ha0 : al46 a0 ∧ zsh a0 = 12 := ⟨(hE46 _ ha0.1).1, ha0.2⟩
  rw [← (hE46 a0 hw46_1).2] at hl
  rw [← (hE46 a0 hv46_1).2]
  refine z_putFR X hR hin ha0.1 ha0.2 (by decide) zff_X12_100 rfl rfl (by decide) hj46 (by rw [zdc_of ha0.2 rfl]; exact zs_219) dX12_init_252 (fun H locs hR => ?_)
  obtain ⟨w47, hw47⟩ : ∃ z : zW, z = sR w46 a0 19 219 := ⟨_, rfl⟩
  rw [← hw47] at hR
  replace hf := hf w47 hw47
  exact mX12_init_J255 X hQ hin  ha0 hf hX hr hR (lv_sub hl [0] rfl)
def fX12_init_J206 (a0 : Nat) (k : zW → Prop) (mc ms : Nat)  (w : zW) : Prop :=
  ¬ gI w 0 212 = 1 ∧ 1 ≤ mc ∧ 2200 ≤ ms ∧ ∀ w36 : zW, w36 = nW w 212 →
  ∀ w37 : zW, w37 = sR w36 a0 12 212 →
  ¬ gI w37 0 214 = 1 ∧ 1 ≤ mc - 1 ∧ 8 ≤ ms - 2200 ∧ ∀ w38 : zW, w38 = nW w37 214 →
  ∀ w39 : zW, w39 = sR w38 a0 14 214 →
  fX12_init_J223 a0 k ((mc - 1) - 1) ((ms - 2200) - 8)  w39
set_option maxHeartbeats 4000000 in
set_option maxRecDepth 100000 in
theorem mX12_init_J206 {k : zW → Prop} {a0 : Nat} (X : zCx p s m args meth c cX12_init 1 RX12 none) (hQ : zRetAV p l e R s m args below meth c Q D dA true ad0 al0 cX12_init k) (hin : meth.name = "<init>")  {cells slots mc ms : Nat}  {ad : Nat → Nat} {al : Nat → Prop} {w : zW} {H : Heap} {locs : List Loc} {ls : Array Slot} (ha0 : al a0 ∧ zsh a0 = 12) (hf : fX12_init_J206 a0 k mc ms  w) (hX : zExt ad0 al0 ad al) (hr : zRm R 4 (cells + mc) (slots + ms)) (hR : zSt D dA false ad0 al0 ad al w s H locs) (hl : lv_has ls 1 [(0, .ref (ad a0))]) : W p l e R s m args below meth c H locs cells slots Q (F0 m 206 ls []) := by
  have hx := X.1
  have hb := X.2.1
  have hml := X.2.2.1
  have hown := X.2.2.2.1
  have hts := X.2.2.2.2.1
  unfold fX12_init_J206 at hf
  refine lv_aload_n hx hb dX12_init_206 rfl (lv_at hl 0 rfl) ?_
  refine lv_sipush (v := (2200 : Int32)) hx hb dX12_init_207 (by decide) ?_
  have hw36_1 : al a0 := ha0.1
  have hv36_1 : al a0 := ha0.1
  obtain ⟨hg36, hc36, hs36, hf⟩ := hf
  refine z_newaI (N := 2200) X (hr.new hc36 hs36) hR (j := 212) (fun h9 => absurd h9 (by decide)) hg36 zs_212 zl_212 (by decide) (by decide) (by decide) zq_64 dX12_init_210 (fun ad36 al36 H hE36 hj36 hR => ?_)
  obtain ⟨w36, hw36⟩ : ∃ z : zW, z = nW w 212 := ⟨_, rfl⟩
  rw [← hw36] at hR
  replace hf := hf w36 hw36
  have hX := hX.tr hE36
  have hr := hr.after hc36 hs36
  have ha0 : al36 a0 ∧ zsh a0 = 12 := ⟨(hE36 _ ha0.1).1, ha0.2⟩
  rw [← (hE36 a0 hw36_1).2] at hl
  rw [← (hE36 a0 hv36_1).2]
  refine z_putFR X hR hin ha0.1 ha0.2 (by decide) zff_X12_85 rfl rfl (by decide) hj36 (by rw [zdc_of ha0.2 rfl]; exact zs_212) dX12_init_212 (fun H locs hR => ?_)
  obtain ⟨w37, hw37⟩ : ∃ z : zW, z = sR w36 a0 12 212 := ⟨_, rfl⟩
  rw [← hw37] at hR
  replace hf := hf w37 hw37
  refine lv_aload_n hx hb dX12_init_215 rfl (lv_at hl 0 rfl) ?_
  refine lv_bipush (v := (8 : Int32)) hx hb dX12_init_216 (by decide) ?_
  have hw38_1 : al36 a0 := ha0.1
  have hv38_1 : al36 a0 := ha0.1
  obtain ⟨hg38, hc38, hs38, hf⟩ := hf
  refine z_newaL (N := 8) X (hr.new hc38 hs38) hR (j := 214) (fun h9 => absurd h9 (by decide)) hg38 zs_214 zl_214 (by decide) (by decide) (by decide) zq_6 dX12_init_218 (fun ad38 al38 H hE38 hj38 hR => ?_)
  obtain ⟨w38, hw38⟩ : ∃ z : zW, z = nW w37 214 := ⟨_, rfl⟩
  rw [← hw38] at hR
  replace hf := hf w38 hw38
  have hX := hX.tr hE38
  have hr := hr.after hc38 hs38
  have ha0 : al38 a0 ∧ zsh a0 = 12 := ⟨(hE38 _ ha0.1).1, ha0.2⟩
  rw [← (hE38 a0 hw38_1).2] at hl
  rw [← (hE38 a0 hv38_1).2]
  refine z_putFR X hR hin ha0.1 ha0.2 (by decide) zff_X12_88 rfl rfl (by decide) hj38 (by rw [zdc_of ha0.2 rfl]; exact zs_214) dX12_init_220 (fun H locs hR => ?_)
  obtain ⟨w39, hw39⟩ : ∃ z : zW, z = sR w38 a0 14 214 := ⟨_, rfl⟩
  rw [← hw39] at hR
  replace hf := hf w39 hw39
  exact mX12_init_J223 X hQ hin  ha0 hf hX hr hR (lv_sub hl [0] rfl)
def fX12_init_J189 (a0 : Nat) (k : zW → Prop) (mc ms : Nat)  (w : zW) : Prop :=
  ¬ gI w 0 210 = 1 ∧ 1 ≤ mc ∧ 60 ≤ ms ∧ ∀ w32 : zW, w32 = nW w 210 →
  ∀ w33 : zW, w33 = sR w32 a0 10 210 →
  ¬ gI w33 0 211 = 1 ∧ 1 ≤ mc - 1 ∧ 960 ≤ ms - 60 ∧ ∀ w34 : zW, w34 = nW w33 211 →
  ∀ w35 : zW, w35 = sR w34 a0 11 211 →
  fX12_init_J206 a0 k ((mc - 1) - 1) ((ms - 60) - 960)  w35
set_option maxHeartbeats 4000000 in
set_option maxRecDepth 100000 in
theorem mX12_init_J189 {k : zW → Prop} {a0 : Nat} (X : zCx p s m args meth c cX12_init 1 RX12 none) (hQ : zRetAV p l e R s m args below meth c Q D dA true ad0 al0 cX12_init k) (hin : meth.name = "<init>")  {cells slots mc ms : Nat}  {ad : Nat → Nat} {al : Nat → Prop} {w : zW} {H : Heap} {locs : List Loc} {ls : Array Slot} (ha0 : al a0 ∧ zsh a0 = 12) (hf : fX12_init_J189 a0 k mc ms  w) (hX : zExt ad0 al0 ad al) (hr : zRm R 4 (cells + mc) (slots + ms)) (hR : zSt D dA false ad0 al0 ad al w s H locs) (hl : lv_has ls 1 [(0, .ref (ad a0))]) : W p l e R s m args below meth c H locs cells slots Q (F0 m 189 ls []) := by
  have hx := X.1
  have hb := X.2.1
  have hml := X.2.2.1
  have hown := X.2.2.2.1
  have hts := X.2.2.2.2.1
  unfold fX12_init_J189 at hf
  refine lv_aload_n hx hb dX12_init_189 rfl (lv_at hl 0 rfl) ?_
  refine lv_bipush (v := (60 : Int32)) hx hb dX12_init_190 (by decide) ?_
  have hw32_1 : al a0 := ha0.1
  have hv32_1 : al a0 := ha0.1
  obtain ⟨hg32, hc32, hs32, hf⟩ := hf
  refine z_newaI (N := 60) X (hr.new hc32 hs32) hR (j := 210) (fun h9 => absurd h9 (by decide)) hg32 zs_210 zl_210 (by decide) (by decide) (by decide) zq_64 dX12_init_192 (fun ad32 al32 H hE32 hj32 hR => ?_)
  obtain ⟨w32, hw32⟩ : ∃ z : zW, z = nW w 210 := ⟨_, rfl⟩
  rw [← hw32] at hR
  replace hf := hf w32 hw32
  have hX := hX.tr hE32
  have hr := hr.after hc32 hs32
  have ha0 : al32 a0 ∧ zsh a0 = 12 := ⟨(hE32 _ ha0.1).1, ha0.2⟩
  rw [← (hE32 a0 hw32_1).2] at hl
  rw [← (hE32 a0 hv32_1).2]
  refine z_putFR X hR hin ha0.1 ha0.2 (by decide) zff_X12_79 rfl rfl (by decide) hj32 (by rw [zdc_of ha0.2 rfl]; exact zs_210) dX12_init_194 (fun H locs hR => ?_)
  obtain ⟨w33, hw33⟩ : ∃ z : zW, z = sR w32 a0 10 210 := ⟨_, rfl⟩
  rw [← hw33] at hR
  replace hf := hf w33 hw33
  refine lv_aload_n hx hb dX12_init_197 rfl (lv_at hl 0 rfl) ?_
  refine lv_sipush (v := (960 : Int32)) hx hb dX12_init_198 (by decide) ?_
  have hw34_1 : al32 a0 := ha0.1
  have hv34_1 : al32 a0 := ha0.1
  obtain ⟨hg34, hc34, hs34, hf⟩ := hf
  refine z_newaI (N := 960) X (hr.new hc34 hs34) hR (j := 211) (fun h9 => absurd h9 (by decide)) hg34 zs_211 zl_211 (by decide) (by decide) (by decide) zq_64 dX12_init_201 (fun ad34 al34 H hE34 hj34 hR => ?_)
  obtain ⟨w34, hw34⟩ : ∃ z : zW, z = nW w33 211 := ⟨_, rfl⟩
  rw [← hw34] at hR
  replace hf := hf w34 hw34
  have hX := hX.tr hE34
  have hr := hr.after hc34 hs34
  have ha0 : al34 a0 ∧ zsh a0 = 12 := ⟨(hE34 _ ha0.1).1, ha0.2⟩
  rw [← (hE34 a0 hw34_1).2] at hl
  rw [← (hE34 a0 hv34_1).2]
  refine z_putFR X hR hin ha0.1 ha0.2 (by decide) zff_X12_82 rfl rfl (by decide) hj34 (by rw [zdc_of ha0.2 rfl]; exact zs_211) dX12_init_203 (fun H locs hR => ?_)
  obtain ⟨w35, hw35⟩ : ∃ z : zW, z = sR w34 a0 11 211 := ⟨_, rfl⟩
  rw [← hw35] at hR
  replace hf := hf w35 hw35
  exact mX12_init_J206 X hQ hin  ha0 hf hX hr hR (lv_sub hl [0] rfl)
def fX12_init_J40 (a0 : Nat) (k : zW → Prop) (mc ms : Nat)  (w : zW) : Prop :=
  ¬ gI w 0 209 = 1 ∧ 1 ≤ mc ∧ 21 ≤ ms ∧ ∀ w9 : zW, w9 = nW w 209 →
  ∀ w10 : zW, w10 = sL w9 209 (0 : Int32).toNatClampNeg (1186224 : Int64) →
  ∀ w11 : zW, w11 = sL w10 209 (1 : Int32).toNatClampNeg (5699906 : Int64) →
  ∀ w12 : zW, w12 = sL w11 209 (2 : Int32).toNatClampNeg (25220 : Int64) →
  ∀ w13 : zW, w13 = sL w12 209 (3 : Int32).toNatClampNeg (2205662 : Int64) →
  ∀ w14 : zW, w14 = sL w13 209 (4 : Int32).toNatClampNeg (352 : Int64) →
  ∀ w15 : zW, w15 = sL w14 209 (5 : Int32).toNatClampNeg (34815243 : Int64) →
  ∀ w16 : zW, w16 = sL w15 209 (6 : Int32).toNatClampNeg (14190407 : Int64) →
  ∀ w17 : zW, w17 = sL w16 209 (7 : Int32).toNatClampNeg (445097699 : Int64) →
  ∀ w18 : zW, w18 = sL w17 209 (8 : Int32).toNatClampNeg (1020361 : Int64) →
  ∀ w19 : zW, w19 = sL w18 209 (9 : Int32).toNatClampNeg (227825 : Int64) →
  ∀ w20 : zW, w20 = sL w19 209 (10 : Int32).toNatClampNeg (1912 : Int64) →
  ∀ w21 : zW, w21 = sL w20 209 (11 : Int32).toNatClampNeg (283582 : Int64) →
  ∀ w22 : zW, w22 = sL w21 209 (12 : Int32).toNatClampNeg (14052286 : Int64) →
  ∀ w23 : zW, w23 = sL w22 209 (13 : Int32).toNatClampNeg (615403 : Int64) →
  ∀ w24 : zW, w24 = sL w23 209 (14 : Int32).toNatClampNeg (19741 : Int64) →
  ∀ w25 : zW, w25 = sL w24 209 (15 : Int32).toNatClampNeg (1891 : Int64) →
  ∀ w26 : zW, w26 = sL w25 209 (16 : Int32).toNatClampNeg (573 : Int64) →
  ∀ w27 : zW, w27 = sL w26 209 (17 : Int32).toNatClampNeg (37549136 : Int64) →
  ∀ w28 : zW, w28 = sL w27 209 (18 : Int32).toNatClampNeg (841579264 : Int64) →
  ∀ w29 : zW, w29 = sL w28 209 (19 : Int32).toNatClampNeg (1089928 : Int64) →
  ∀ w30 : zW, w30 = sL w29 209 (20 : Int32).toNatClampNeg (43523367 : Int64) →
  ∀ w31 : zW, w31 = sR w30 a0 9 209 →
  fX12_init_J189 a0 k (mc - 1) (ms - 21)  w31
set_option maxHeartbeats 4000000 in
set_option maxRecDepth 100000 in
theorem mX12_init_J40 {k : zW → Prop} {a0 : Nat} (X : zCx p s m args meth c cX12_init 1 RX12 none) (hQ : zRetAV p l e R s m args below meth c Q D dA true ad0 al0 cX12_init k) (hin : meth.name = "<init>")  {cells slots mc ms : Nat}  {ad : Nat → Nat} {al : Nat → Prop} {w : zW} {H : Heap} {locs : List Loc} {ls : Array Slot} (ha0 : al a0 ∧ zsh a0 = 12) (hf : fX12_init_J40 a0 k mc ms  w) (hX : zExt ad0 al0 ad al) (hr : zRm R 4 (cells + mc) (slots + ms)) (hR : zSt D dA false ad0 al0 ad al w s H locs) (hl : lv_has ls 1 [(0, .ref (ad a0))]) : W p l e R s m args below meth c H locs cells slots Q (F0 m 40 ls []) := by
  have hx := X.1
  have hb := X.2.1
  have hml := X.2.2.1
  have hown := X.2.2.2.1
  have hts := X.2.2.2.2.1
  unfold fX12_init_J40 at hf
  refine lv_aload_n hx hb dX12_init_40 rfl (lv_at hl 0 rfl) ?_
  refine lv_bipush (v := (21 : Int32)) hx hb dX12_init_41 (by decide) ?_
  have hw9_1 : al a0 := ha0.1
  have hv9_1 : al a0 := ha0.1
  obtain ⟨hg9, hc9, hs9, hf⟩ := hf
  refine z_newaL (N := 21) X (hr.new hc9 hs9) hR (j := 209) (fun h9 => absurd h9 (by decide)) hg9 zs_209 zl_209 (by decide) (by decide) (by decide) zq_6 dX12_init_43 (fun ad9 al9 H hE9 hj9 hR => ?_)
  obtain ⟨w9, hw9⟩ : ∃ z : zW, z = nW w 209 := ⟨_, rfl⟩
  rw [← hw9] at hR
  replace hf := hf w9 hw9
  have hX := hX.tr hE9
  have hr := hr.after hc9 hs9
  have ha0 : al9 a0 ∧ zsh a0 = 12 := ⟨(hE9 _ ha0.1).1, ha0.2⟩
  rw [← (hE9 a0 hw9_1).2] at hl
  rw [← (hE9 a0 hv9_1).2]
  refine lv_dup hx hb dX12_init_45 rfl ?_
  refine lv_iconst (v := (0 : Int32)) hx hb dX12_init_46 (by decide) ?_
  refine lv_ldc2 (v := (1186224 : Int64)) hx hb hown (hts _ zq_144) dX12_init_47 ?_
  refine z_last X hR hj9 zs_209 zl_209 (zin (by decide)) dX12_init_50 (fun H locs hR => ?_)
  obtain ⟨w10, hw10⟩ : ∃ z : zW, z = sL w9 209 (0 : Int32).toNatClampNeg (1186224 : Int64) := ⟨_, rfl⟩
  rw [← hw10] at hR
  replace hf := hf w10 hw10
  refine lv_dup hx hb dX12_init_51 rfl ?_
  refine lv_iconst (v := (1 : Int32)) hx hb dX12_init_52 (by decide) ?_
  refine lv_ldc2 (v := (5699906 : Int64)) hx hb hown (hts _ zq_145) dX12_init_53 ?_
  refine z_last X hR hj9 zs_209 zl_209 (zin (by decide)) dX12_init_56 (fun H locs hR => ?_)
  obtain ⟨w11, hw11⟩ : ∃ z : zW, z = sL w10 209 (1 : Int32).toNatClampNeg (5699906 : Int64) := ⟨_, rfl⟩
  rw [← hw11] at hR
  replace hf := hf w11 hw11
  refine lv_dup hx hb dX12_init_57 rfl ?_
  refine lv_iconst (v := (2 : Int32)) hx hb dX12_init_58 (by decide) ?_
  refine lv_ldc2 (v := (25220 : Int64)) hx hb hown (hts _ zq_146) dX12_init_59 ?_
  refine z_last X hR hj9 zs_209 zl_209 (zin (by decide)) dX12_init_62 (fun H locs hR => ?_)
  obtain ⟨w12, hw12⟩ : ∃ z : zW, z = sL w11 209 (2 : Int32).toNatClampNeg (25220 : Int64) := ⟨_, rfl⟩
  rw [← hw12] at hR
  replace hf := hf w12 hw12
  refine lv_dup hx hb dX12_init_63 rfl ?_
  refine lv_iconst (v := (3 : Int32)) hx hb dX12_init_64 (by decide) ?_
  refine lv_ldc2 (v := (2205662 : Int64)) hx hb hown (hts _ zq_147) dX12_init_65 ?_
  refine z_last X hR hj9 zs_209 zl_209 (zin (by decide)) dX12_init_68 (fun H locs hR => ?_)
  obtain ⟨w13, hw13⟩ : ∃ z : zW, z = sL w12 209 (3 : Int32).toNatClampNeg (2205662 : Int64) := ⟨_, rfl⟩
  rw [← hw13] at hR
  replace hf := hf w13 hw13
  refine lv_dup hx hb dX12_init_69 rfl ?_
  refine lv_iconst (v := (4 : Int32)) hx hb dX12_init_70 (by decide) ?_
  refine lv_ldc2 (v := (352 : Int64)) hx hb hown (hts _ zq_148) dX12_init_71 ?_
  refine z_last X hR hj9 zs_209 zl_209 (zin (by decide)) dX12_init_74 (fun H locs hR => ?_)
  obtain ⟨w14, hw14⟩ : ∃ z : zW, z = sL w13 209 (4 : Int32).toNatClampNeg (352 : Int64) := ⟨_, rfl⟩
  rw [← hw14] at hR
  replace hf := hf w14 hw14
  refine lv_dup hx hb dX12_init_75 rfl ?_
  refine lv_iconst (v := (5 : Int32)) hx hb dX12_init_76 (by decide) ?_
  refine lv_ldc2 (v := (34815243 : Int64)) hx hb hown (hts _ zq_149) dX12_init_77 ?_
  refine z_last X hR hj9 zs_209 zl_209 (zin (by decide)) dX12_init_80 (fun H locs hR => ?_)
  obtain ⟨w15, hw15⟩ : ∃ z : zW, z = sL w14 209 (5 : Int32).toNatClampNeg (34815243 : Int64) := ⟨_, rfl⟩
  rw [← hw15] at hR
  replace hf := hf w15 hw15
  refine lv_dup hx hb dX12_init_81 rfl ?_
  refine lv_bipush (v := (6 : Int32)) hx hb dX12_init_82 (by decide) ?_
  refine lv_ldc2 (v := (14190407 : Int64)) hx hb hown (hts _ zq_150) dX12_init_84 ?_
  refine z_last X hR hj9 zs_209 zl_209 (zin (by decide)) dX12_init_87 (fun H locs hR => ?_)
  obtain ⟨w16, hw16⟩ : ∃ z : zW, z = sL w15 209 (6 : Int32).toNatClampNeg (14190407 : Int64) := ⟨_, rfl⟩
  rw [← hw16] at hR
  replace hf := hf w16 hw16
  refine lv_dup hx hb dX12_init_88 rfl ?_
  refine lv_bipush (v := (7 : Int32)) hx hb dX12_init_89 (by decide) ?_
  refine lv_ldc2 (v := (445097699 : Int64)) hx hb hown (hts _ zq_151) dX12_init_91 ?_
  refine z_last X hR hj9 zs_209 zl_209 (zin (by decide)) dX12_init_94 (fun H locs hR => ?_)
  obtain ⟨w17, hw17⟩ : ∃ z : zW, z = sL w16 209 (7 : Int32).toNatClampNeg (445097699 : Int64) := ⟨_, rfl⟩
  rw [← hw17] at hR
  replace hf := hf w17 hw17
  refine lv_dup hx hb dX12_init_95 rfl ?_
  refine lv_bipush (v := (8 : Int32)) hx hb dX12_init_96 (by decide) ?_
  refine lv_ldc2 (v := (1020361 : Int64)) hx hb hown (hts _ zq_152) dX12_init_98 ?_
  refine z_last X hR hj9 zs_209 zl_209 (zin (by decide)) dX12_init_101 (fun H locs hR => ?_)
  obtain ⟨w18, hw18⟩ : ∃ z : zW, z = sL w17 209 (8 : Int32).toNatClampNeg (1020361 : Int64) := ⟨_, rfl⟩
  rw [← hw18] at hR
  replace hf := hf w18 hw18
  refine lv_dup hx hb dX12_init_102 rfl ?_
  refine lv_bipush (v := (9 : Int32)) hx hb dX12_init_103 (by decide) ?_
  refine lv_ldc2 (v := (227825 : Int64)) hx hb hown (hts _ zq_153) dX12_init_105 ?_
  refine z_last X hR hj9 zs_209 zl_209 (zin (by decide)) dX12_init_108 (fun H locs hR => ?_)
  obtain ⟨w19, hw19⟩ : ∃ z : zW, z = sL w18 209 (9 : Int32).toNatClampNeg (227825 : Int64) := ⟨_, rfl⟩
  rw [← hw19] at hR
  replace hf := hf w19 hw19
  refine lv_dup hx hb dX12_init_109 rfl ?_
  refine lv_bipush (v := (10 : Int32)) hx hb dX12_init_110 (by decide) ?_
  refine lv_ldc2 (v := (1912 : Int64)) hx hb hown (hts _ zq_154) dX12_init_112 ?_
  refine z_last X hR hj9 zs_209 zl_209 (zin (by decide)) dX12_init_115 (fun H locs hR => ?_)
  obtain ⟨w20, hw20⟩ : ∃ z : zW, z = sL w19 209 (10 : Int32).toNatClampNeg (1912 : Int64) := ⟨_, rfl⟩
  rw [← hw20] at hR
  replace hf := hf w20 hw20
  refine lv_dup hx hb dX12_init_116 rfl ?_
  refine lv_bipush (v := (11 : Int32)) hx hb dX12_init_117 (by decide) ?_
  refine lv_ldc2 (v := (283582 : Int64)) hx hb hown (hts _ zq_155) dX12_init_119 ?_
  refine z_last X hR hj9 zs_209 zl_209 (zin (by decide)) dX12_init_122 (fun H locs hR => ?_)
  obtain ⟨w21, hw21⟩ : ∃ z : zW, z = sL w20 209 (11 : Int32).toNatClampNeg (283582 : Int64) := ⟨_, rfl⟩
  rw [← hw21] at hR
  replace hf := hf w21 hw21
  refine lv_dup hx hb dX12_init_123 rfl ?_
  refine lv_bipush (v := (12 : Int32)) hx hb dX12_init_124 (by decide) ?_
  refine lv_ldc2 (v := (14052286 : Int64)) hx hb hown (hts _ zq_156) dX12_init_126 ?_
  refine z_last X hR hj9 zs_209 zl_209 (zin (by decide)) dX12_init_129 (fun H locs hR => ?_)
  obtain ⟨w22, hw22⟩ : ∃ z : zW, z = sL w21 209 (12 : Int32).toNatClampNeg (14052286 : Int64) := ⟨_, rfl⟩
  rw [← hw22] at hR
  replace hf := hf w22 hw22
  refine lv_dup hx hb dX12_init_130 rfl ?_
  refine lv_bipush (v := (13 : Int32)) hx hb dX12_init_131 (by decide) ?_
  refine lv_ldc2 (v := (615403 : Int64)) hx hb hown (hts _ zq_157) dX12_init_133 ?_
  refine z_last X hR hj9 zs_209 zl_209 (zin (by decide)) dX12_init_136 (fun H locs hR => ?_)
  obtain ⟨w23, hw23⟩ : ∃ z : zW, z = sL w22 209 (13 : Int32).toNatClampNeg (615403 : Int64) := ⟨_, rfl⟩
  rw [← hw23] at hR
  replace hf := hf w23 hw23
  refine lv_dup hx hb dX12_init_137 rfl ?_
  refine lv_bipush (v := (14 : Int32)) hx hb dX12_init_138 (by decide) ?_
  refine lv_ldc2 (v := (19741 : Int64)) hx hb hown (hts _ zq_158) dX12_init_140 ?_
  refine z_last X hR hj9 zs_209 zl_209 (zin (by decide)) dX12_init_143 (fun H locs hR => ?_)
  obtain ⟨w24, hw24⟩ : ∃ z : zW, z = sL w23 209 (14 : Int32).toNatClampNeg (19741 : Int64) := ⟨_, rfl⟩
  rw [← hw24] at hR
  replace hf := hf w24 hw24
  refine lv_dup hx hb dX12_init_144 rfl ?_
  refine lv_bipush (v := (15 : Int32)) hx hb dX12_init_145 (by decide) ?_
  refine lv_ldc2 (v := (1891 : Int64)) hx hb hown (hts _ zq_159) dX12_init_147 ?_
  refine z_last X hR hj9 zs_209 zl_209 (zin (by decide)) dX12_init_150 (fun H locs hR => ?_)
  obtain ⟨w25, hw25⟩ : ∃ z : zW, z = sL w24 209 (15 : Int32).toNatClampNeg (1891 : Int64) := ⟨_, rfl⟩
  rw [← hw25] at hR
  replace hf := hf w25 hw25
  refine lv_dup hx hb dX12_init_151 rfl ?_
  refine lv_bipush (v := (16 : Int32)) hx hb dX12_init_152 (by decide) ?_
  refine lv_ldc2 (v := (573 : Int64)) hx hb hown (hts _ zq_160) dX12_init_154 ?_
  refine z_last X hR hj9 zs_209 zl_209 (zin (by decide)) dX12_init_157 (fun H locs hR => ?_)
  obtain ⟨w26, hw26⟩ : ∃ z : zW, z = sL w25 209 (16 : Int32).toNatClampNeg (573 : Int64) := ⟨_, rfl⟩
  rw [← hw26] at hR
  replace hf := hf w26 hw26
  refine lv_dup hx hb dX12_init_158 rfl ?_
  refine lv_bipush (v := (17 : Int32)) hx hb dX12_init_159 (by decide) ?_
  refine lv_ldc2 (v := (37549136 : Int64)) hx hb hown (hts _ zq_161) dX12_init_161 ?_
  refine z_last X hR hj9 zs_209 zl_209 (zin (by decide)) dX12_init_164 (fun H locs hR => ?_)
  obtain ⟨w27, hw27⟩ : ∃ z : zW, z = sL w26 209 (17 : Int32).toNatClampNeg (37549136 : Int64) := ⟨_, rfl⟩
  rw [← hw27] at hR
  replace hf := hf w27 hw27
  refine lv_dup hx hb dX12_init_165 rfl ?_
  refine lv_bipush (v := (18 : Int32)) hx hb dX12_init_166 (by decide) ?_
  refine lv_ldc2 (v := (841579264 : Int64)) hx hb hown (hts _ zq_162) dX12_init_168 ?_
  refine z_last X hR hj9 zs_209 zl_209 (zin (by decide)) dX12_init_171 (fun H locs hR => ?_)
  obtain ⟨w28, hw28⟩ : ∃ z : zW, z = sL w27 209 (18 : Int32).toNatClampNeg (841579264 : Int64) := ⟨_, rfl⟩
  rw [← hw28] at hR
  replace hf := hf w28 hw28
  refine lv_dup hx hb dX12_init_172 rfl ?_
  refine lv_bipush (v := (19 : Int32)) hx hb dX12_init_173 (by decide) ?_
  refine lv_ldc2 (v := (1089928 : Int64)) hx hb hown (hts _ zq_163) dX12_init_175 ?_
  refine z_last X hR hj9 zs_209 zl_209 (zin (by decide)) dX12_init_178 (fun H locs hR => ?_)
  obtain ⟨w29, hw29⟩ : ∃ z : zW, z = sL w28 209 (19 : Int32).toNatClampNeg (1089928 : Int64) := ⟨_, rfl⟩
  rw [← hw29] at hR
  replace hf := hf w29 hw29
  refine lv_dup hx hb dX12_init_179 rfl ?_
  refine lv_bipush (v := (20 : Int32)) hx hb dX12_init_180 (by decide) ?_
  refine lv_ldc2 (v := (43523367 : Int64)) hx hb hown (hts _ zq_164) dX12_init_182 ?_
  refine z_last X hR hj9 zs_209 zl_209 (zin (by decide)) dX12_init_185 (fun H locs hR => ?_)
  obtain ⟨w30, hw30⟩ : ∃ z : zW, z = sL w29 209 (20 : Int32).toNatClampNeg (43523367 : Int64) := ⟨_, rfl⟩
  rw [← hw30] at hR
  replace hf := hf w30 hw30
  refine z_putFR X hR hin ha0.1 ha0.2 (by decide) zff_X12_76 rfl rfl (by decide) hj9 (by rw [zdc_of ha0.2 rfl]; exact zs_209) dX12_init_186 (fun H locs hR => ?_)
  obtain ⟨w31, hw31⟩ : ∃ z : zW, z = sR w30 a0 9 209 := ⟨_, rfl⟩
  rw [← hw31] at hR
  replace hf := hf w31 hw31
  exact mX12_init_J189 X hQ hin  ha0 hf hX hr hR (lv_sub hl [0] rfl)
def fX12_init_J31 (a0 : Nat) (k : zW → Prop) (mc ms : Nat)  (w : zW) : Prop :=
  ¬ gI w 0 206 = 1 ∧ 1 ≤ mc ∧ 1002 ≤ ms ∧ ∀ w7 : zW, w7 = nW w 206 →
  ∀ w8 : zW, w8 = sR w7 a0 6 206 →
  fX12_init_J40 a0 k (mc - 1) (ms - 1002)  w8
set_option maxHeartbeats 4000000 in
set_option maxRecDepth 100000 in
theorem mX12_init_J31 {k : zW → Prop} {a0 : Nat} (X : zCx p s m args meth c cX12_init 1 RX12 none) (hQ : zRetAV p l e R s m args below meth c Q D dA true ad0 al0 cX12_init k) (hin : meth.name = "<init>")  {cells slots mc ms : Nat}  {ad : Nat → Nat} {al : Nat → Prop} {w : zW} {H : Heap} {locs : List Loc} {ls : Array Slot} (ha0 : al a0 ∧ zsh a0 = 12) (hf : fX12_init_J31 a0 k mc ms  w) (hX : zExt ad0 al0 ad al) (hr : zRm R 4 (cells + mc) (slots + ms)) (hR : zSt D dA false ad0 al0 ad al w s H locs) (hl : lv_has ls 1 [(0, .ref (ad a0))]) : W p l e R s m args below meth c H locs cells slots Q (F0 m 31 ls []) := by
  have hx := X.1
  have hb := X.2.1
  have hml := X.2.2.1
  have hown := X.2.2.2.1
  have hts := X.2.2.2.2.1
  unfold fX12_init_J31 at hf
  refine lv_aload_n hx hb dX12_init_31 rfl (lv_at hl 0 rfl) ?_
  refine lv_sipush (v := (1002 : Int32)) hx hb dX12_init_32 (by decide) ?_
  have hw7_1 : al a0 := ha0.1
  have hv7_1 : al a0 := ha0.1
  obtain ⟨hg7, hc7, hs7, hf⟩ := hf
  refine z_newaL (N := 1002) X (hr.new hc7 hs7) hR (j := 206) (fun h9 => absurd h9 (by decide)) hg7 zs_206 zl_206 (by decide) (by decide) (by decide) zq_6 dX12_init_35 (fun ad7 al7 H hE7 hj7 hR => ?_)
  obtain ⟨w7, hw7⟩ : ∃ z : zW, z = nW w 206 := ⟨_, rfl⟩
  rw [← hw7] at hR
  replace hf := hf w7 hw7
  have hX := hX.tr hE7
  have hr := hr.after hc7 hs7
  have ha0 : al7 a0 ∧ zsh a0 = 12 := ⟨(hE7 _ ha0.1).1, ha0.2⟩
  rw [← (hE7 a0 hw7_1).2] at hl
  rw [← (hE7 a0 hv7_1).2]
  refine z_putFR X hR hin ha0.1 ha0.2 (by decide) zff_X12_30 rfl rfl (by decide) hj7 (by rw [zdc_of ha0.2 rfl]; exact zs_206) dX12_init_37 (fun H locs hR => ?_)
  obtain ⟨w8, hw8⟩ : ∃ z : zW, z = sR w7 a0 6 206 := ⟨_, rfl⟩
  rw [← hw8] at hR
  replace hf := hf w8 hw8
  exact mX12_init_J40 X hQ hin  ha0 hf hX hr hR (lv_sub hl [0] rfl)
def fX12_init_J22 (a0 : Nat) (k : zW → Prop) (mc ms : Nat)  (w : zW) : Prop :=
  ¬ gI w 0 205 = 1 ∧ 1 ≤ mc ∧ 1002 ≤ ms ∧ ∀ w5 : zW, w5 = nW w 205 →
  ∀ w6 : zW, w6 = sR w5 a0 5 205 →
  fX12_init_J31 a0 k (mc - 1) (ms - 1002)  w6
set_option maxHeartbeats 4000000 in
set_option maxRecDepth 100000 in
theorem mX12_init_J22 {k : zW → Prop} {a0 : Nat} (X : zCx p s m args meth c cX12_init 1 RX12 none) (hQ : zRetAV p l e R s m args below meth c Q D dA true ad0 al0 cX12_init k) (hin : meth.name = "<init>")  {cells slots mc ms : Nat}  {ad : Nat → Nat} {al : Nat → Prop} {w : zW} {H : Heap} {locs : List Loc} {ls : Array Slot} (ha0 : al a0 ∧ zsh a0 = 12) (hf : fX12_init_J22 a0 k mc ms  w) (hX : zExt ad0 al0 ad al) (hr : zRm R 4 (cells + mc) (slots + ms)) (hR : zSt D dA false ad0 al0 ad al w s H locs) (hl : lv_has ls 1 [(0, .ref (ad a0))]) : W p l e R s m args below meth c H locs cells slots Q (F0 m 22 ls []) := by
  have hx := X.1
  have hb := X.2.1
  have hml := X.2.2.1
  have hown := X.2.2.2.1
  have hts := X.2.2.2.2.1
  unfold fX12_init_J22 at hf
  refine lv_aload_n hx hb dX12_init_22 rfl (lv_at hl 0 rfl) ?_
  refine lv_sipush (v := (1002 : Int32)) hx hb dX12_init_23 (by decide) ?_
  have hw5_1 : al a0 := ha0.1
  have hv5_1 : al a0 := ha0.1
  obtain ⟨hg5, hc5, hs5, hf⟩ := hf
  refine z_newaI (N := 1002) X (hr.new hc5 hs5) hR (j := 205) (fun h9 => absurd h9 (by decide)) hg5 zs_205 zl_205 (by decide) (by decide) (by decide) zq_64 dX12_init_26 (fun ad5 al5 H hE5 hj5 hR => ?_)
  obtain ⟨w5, hw5⟩ : ∃ z : zW, z = nW w 205 := ⟨_, rfl⟩
  rw [← hw5] at hR
  replace hf := hf w5 hw5
  have hX := hX.tr hE5
  have hr := hr.after hc5 hs5
  have ha0 : al5 a0 ∧ zsh a0 = 12 := ⟨(hE5 _ ha0.1).1, ha0.2⟩
  rw [← (hE5 a0 hw5_1).2] at hl
  rw [← (hE5 a0 hv5_1).2]
  refine z_putFR X hR hin ha0.1 ha0.2 (by decide) zff_X12_27 rfl rfl (by decide) hj5 (by rw [zdc_of ha0.2 rfl]; exact zs_205) dX12_init_28 (fun H locs hR => ?_)
  obtain ⟨w6, hw6⟩ : ∃ z : zW, z = sR w5 a0 5 205 := ⟨_, rfl⟩
  rw [← hw6] at hR
  replace hf := hf w6 hw6
  exact mX12_init_J31 X hQ hin  ha0 hf hX hr hR (lv_sub hl [0] rfl)
def fX12_init_J13 (a0 : Nat) (k : zW → Prop) (mc ms : Nat)  (w : zW) : Prop :=
  ¬ gI w 0 204 = 1 ∧ 1 ≤ mc ∧ 1002 ≤ ms ∧ ∀ w3 : zW, w3 = nW w 204 →
  ∀ w4 : zW, w4 = sR w3 a0 4 204 →
  fX12_init_J22 a0 k (mc - 1) (ms - 1002)  w4
set_option maxHeartbeats 4000000 in
set_option maxRecDepth 100000 in
theorem mX12_init_J13 {k : zW → Prop} {a0 : Nat} (X : zCx p s m args meth c cX12_init 1 RX12 none) (hQ : zRetAV p l e R s m args below meth c Q D dA true ad0 al0 cX12_init k) (hin : meth.name = "<init>")  {cells slots mc ms : Nat}  {ad : Nat → Nat} {al : Nat → Prop} {w : zW} {H : Heap} {locs : List Loc} {ls : Array Slot} (ha0 : al a0 ∧ zsh a0 = 12) (hf : fX12_init_J13 a0 k mc ms  w) (hX : zExt ad0 al0 ad al) (hr : zRm R 4 (cells + mc) (slots + ms)) (hR : zSt D dA false ad0 al0 ad al w s H locs) (hl : lv_has ls 1 [(0, .ref (ad a0))]) : W p l e R s m args below meth c H locs cells slots Q (F0 m 13 ls []) := by
  have hx := X.1
  have hb := X.2.1
  have hml := X.2.2.1
  have hown := X.2.2.2.1
  have hts := X.2.2.2.2.1
  unfold fX12_init_J13 at hf
  refine lv_aload_n hx hb dX12_init_13 rfl (lv_at hl 0 rfl) ?_
  refine lv_sipush (v := (1002 : Int32)) hx hb dX12_init_14 (by decide) ?_
  have hw3_1 : al a0 := ha0.1
  have hv3_1 : al a0 := ha0.1
  obtain ⟨hg3, hc3, hs3, hf⟩ := hf
  refine z_newaI (N := 1002) X (hr.new hc3 hs3) hR (j := 204) (fun h9 => absurd h9 (by decide)) hg3 zs_204 zl_204 (by decide) (by decide) (by decide) zq_64 dX12_init_17 (fun ad3 al3 H hE3 hj3 hR => ?_)
  obtain ⟨w3, hw3⟩ : ∃ z : zW, z = nW w 204 := ⟨_, rfl⟩
  rw [← hw3] at hR
  replace hf := hf w3 hw3
  have hX := hX.tr hE3
  have hr := hr.after hc3 hs3
  have ha0 : al3 a0 ∧ zsh a0 = 12 := ⟨(hE3 _ ha0.1).1, ha0.2⟩
  rw [← (hE3 a0 hw3_1).2] at hl
  rw [← (hE3 a0 hv3_1).2]
  refine z_putFR X hR hin ha0.1 ha0.2 (by decide) zff_X12_24 rfl rfl (by decide) hj3 (by rw [zdc_of ha0.2 rfl]; exact zs_204) dX12_init_19 (fun H locs hR => ?_)
  obtain ⟨w4, hw4⟩ : ∃ z : zW, z = sR w3 a0 4 204 := ⟨_, rfl⟩
  rw [← hw4] at hR
  replace hf := hf w4 hw4
  exact mX12_init_J22 X hQ hin  ha0 hf hX hr hR (lv_sub hl [0] rfl)
def fX12_init (mc ms : Nat) (a0 : Nat) (w : zW) (k : zW → Prop) : Prop :=
  ¬ gI w 0 201 = 1 ∧ 1 ≤ mc ∧ 1000 ≤ ms ∧ ∀ w1 : zW, w1 = nW w 201 →
  ∀ w2 : zW, w2 = sR w1 a0 1 201 →
  fX12_init_J13 a0 k (mc - 1) (ms - 1000)  w2
set_option maxHeartbeats 4000000 in
set_option maxRecDepth 100000 in
theorem mX12_init {l : Launch} {D : va_G} {dA : Nat → ClassId} {ad : Nat → Nat} {al : Nat → Prop} {w : zW} {mc ms : Nat} {k : zW → Prop} {a0 : Nat} (ha0 : al a0 ∧ zsh a0 = 12) (hf : fX12_init mc ms a0 w k) : zmetCV l yX12_init cX12_init 1 none 4 mc ms [.ref (ad a0)] D dA false true ad al w k := by
  refine zmetCV_of (by decide) rfl (Nat.le_of_ble_eq_true rfl) ?_
  intro p e R s m below meth c Q H ls args locs cells slots X hr hQ hin hR hl
  have hx := X.1
  have hb := X.2.1
  have hml := X.2.2.1
  have hown := X.2.2.2.1
  have hts := X.2.2.2.2.1
  unfold fX12_init at hf
  have hl : lv_has ls 1 [(0, .ref (ad a0))] := hl
  have hX : zExt ad al ad al := zExt.rf
  refine lv_aload_n hx hb dX12_init_0 rfl (lv_at hl 0 rfl) ?_
  refine z_objInit (rest := []) X (hr.none (by decide)) zq_139 zq_12 zq_13 hl (Nat.le_of_ble_eq_true rfl) dX12_init_1 ?_
  refine lv_aload_n hx hb dX12_init_4 rfl (lv_at hl 0 rfl) ?_
  refine lv_sipush (v := (1000 : Int32)) hx hb dX12_init_5 (by decide) ?_
  have hw1_1 : al a0 := ha0.1
  have hv1_1 : al a0 := ha0.1
  obtain ⟨hg1, hc1, hs1, hf⟩ := hf
  refine z_newaI (N := 1000) X (hr.new hc1 hs1) hR (j := 201) (fun h9 => absurd h9 (by decide)) hg1 zs_201 zl_201 (by decide) (by decide) (by decide) zq_64 dX12_init_8 (fun ad1 al1 H hE1 hj1 hR => ?_)
  obtain ⟨w1, hw1⟩ : ∃ z : zW, z = nW w 201 := ⟨_, rfl⟩
  rw [← hw1] at hR
  replace hf := hf w1 hw1
  have hX := hX.tr hE1
  have hr := hr.after hc1 hs1
  have ha0 : al1 a0 ∧ zsh a0 = 12 := ⟨(hE1 _ ha0.1).1, ha0.2⟩
  rw [← (hE1 a0 hw1_1).2] at hl
  rw [← (hE1 a0 hv1_1).2]
  refine z_putFR X hR hin ha0.1 ha0.2 (by decide) zff_X12_14 rfl rfl (by decide) hj1 (by rw [zdc_of ha0.2 rfl]; exact zs_201) dX12_init_10 (fun H locs hR => ?_)
  obtain ⟨w2, hw2⟩ : ∃ z : zW, z = sR w1 a0 1 201 := ⟨_, rfl⟩
  rw [← hw2] at hR
  replace hf := hf w2 hw2
  exact mX12_init_J13 X hQ hin  ha0 hf hX hr hR (lv_sub hl [0] rfl)
end ZM
