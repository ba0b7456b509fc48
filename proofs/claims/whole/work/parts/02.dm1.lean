theorem dX12_init_0 : decode cX12_init 0 = .ok (.aload_n 0, 1) := by decide +kernel
theorem dX12_init_1 : decode cX12_init 1 = .ok (.invokespecial 1, 3) := by decide +kernel
theorem dX12_init_4 : decode cX12_init 4 = .ok (.aload_n 0, 1) := by decide +kernel
theorem dX12_init_5 : decode cX12_init 5 = .ok (.sipush 200, 3) := by decide +kernel
theorem dX12_init_8 : decode cX12_init 8 = .ok (.newarray .byte, 2) := by decide +kernel
theorem dX12_init_10 : decode cX12_init 10 = .ok (.putfield 7, 3) := by decide +kernel
theorem dX12_init_13 : decode cX12_init 13 = .ok (.aload_n 0, 1) := by decide +kernel
theorem dX12_init_14 : decode cX12_init 14 = .ok (.bipush 64, 2) := by decide +kernel
theorem dX12_init_16 : decode cX12_init 16 = .ok (.newarray .int, 2) := by decide +kernel
theorem dX12_init_18 : decode cX12_init 18 = .ok (.putfield 13, 3) := by decide +kernel
theorem dX12_init_21 : decode cX12_init 21 = .ok (.aload_n 0, 1) := by decide +kernel
theorem dX12_init_22 : decode cX12_init 22 = .ok (.bipush 64, 2) := by decide +kernel
theorem dX12_init_24 : decode cX12_init 24 = .ok (.newarray .int, 2) := by decide +kernel
theorem dX12_init_26 : decode cX12_init 26 = .ok (.putfield 17, 3) := by decide +kernel
theorem dX12_init_29 : decode cX12_init 29 = .ok (.aload_n 0, 1) := by decide +kernel
theorem dX12_init_30 : decode cX12_init 30 = .ok (.bipush 64, 2) := by decide +kernel
theorem dX12_init_32 : decode cX12_init 32 = .ok (.newarray .int, 2) := by decide +kernel
theorem dX12_init_34 : decode cX12_init 34 = .ok (.putfield 20, 3) := by decide +kernel
theorem dX12_init_37 : decode cX12_init 37 = .ok (.aload_n 0, 1) := by decide +kernel
theorem dX12_init_38 : decode cX12_init 38 = .ok (.bipush 30, 2) := by decide +kernel
theorem dX12_init_40 : decode cX12_init 40 = .ok (.newarray .int, 2) := by decide +kernel
theorem dX12_init_42 : decode cX12_init 42 = .ok (.putfield 23, 3) := by decide +kernel
theorem dX12_init_45 : decode cX12_init 45 = .ok (.aload_n 0, 1) := by decide +kernel
theorem dX12_init_46 : decode cX12_init 46 = .ok (.bipush 30, 2) := by decide +kernel
theorem dX12_init_48 : decode cX12_init 48 = .ok (.newarray .int, 2) := by decide +kernel
theorem dX12_init_50 : decode cX12_init 50 = .ok (.putfield 26, 3) := by decide +kernel
theorem dX12_init_53 : decode cX12_init 53 = .ok (.aload_n 0, 1) := by decide +kernel
theorem dX12_init_54 : decode cX12_init 54 = .ok (.bipush 30, 2) := by decide +kernel
theorem dX12_init_56 : decode cX12_init 56 = .ok (.newarray .int, 2) := by decide +kernel
theorem dX12_init_58 : decode cX12_init 58 = .ok (.putfield 29, 3) := by decide +kernel
theorem dX12_init_61 : decode cX12_init 61 = .ok (.aload_n 0, 1) := by decide +kernel
theorem dX12_init_62 : decode cX12_init 62 = .ok (.bipush 30, 2) := by decide +kernel
theorem dX12_init_64 : decode cX12_init 64 = .ok (.newarray .int, 2) := by decide +kernel
theorem dX12_init_66 : decode cX12_init 66 = .ok (.putfield 32, 3) := by decide +kernel
theorem dX12_init_69 : decode cX12_init 69 = .ok (.aload_n 0, 1) := by decide +kernel
theorem dX12_init_70 : decode cX12_init 70 = .ok (.bipush 30, 2) := by decide +kernel
theorem dX12_init_72 : decode cX12_init 72 = .ok (.newarray .int, 2) := by decide +kernel
theorem dX12_init_74 : decode cX12_init 74 = .ok (.putfield 35, 3) := by decide +kernel
theorem dX12_init_77 : decode cX12_init 77 = .ok (.aload_n 0, 1) := by decide +kernel
theorem dX12_init_78 : decode cX12_init 78 = .ok (.bipush 30, 2) := by decide +kernel
theorem dX12_init_80 : decode cX12_init 80 = .ok (.newarray .int, 2) := by decide +kernel
theorem dX12_init_82 : decode cX12_init 82 = .ok (.putfield 38, 3) := by decide +kernel
theorem dX12_init_85 : decode cX12_init 85 = .ok (.aload_n 0, 1) := by decide +kernel
theorem dX12_init_86 : decode cX12_init 86 = .ok (.bipush 30, 2) := by decide +kernel
theorem dX12_init_88 : decode cX12_init 88 = .ok (.newarray .int, 2) := by decide +kernel
theorem dX12_init_90 : decode cX12_init 90 = .ok (.putfield 41, 3) := by decide +kernel
theorem dX12_init_93 : decode cX12_init 93 = .ok (.aload_n 0, 1) := by decide +kernel
theorem dX12_init_94 : decode cX12_init 94 = .ok (.bipush 30, 2) := by decide +kernel
theorem dX12_init_96 : decode cX12_init 96 = .ok (.newarray .int, 2) := by decide +kernel
theorem dX12_init_98 : decode cX12_init 98 = .ok (.putfield 44, 3) := by decide +kernel
theorem dX12_init_101 : decode cX12_init 101 = .ok (.aload_n 0, 1) := by decide +kernel
theorem dX12_init_102 : decode cX12_init 102 = .ok (.sipush 360, 3) := by decide +kernel
theorem dX12_init_105 : decode cX12_init 105 = .ok (.newarray .int, 2) := by decide +kernel
theorem dX12_init_107 : decode cX12_init 107 = .ok (.putfield 47, 3) := by decide +kernel
theorem dX12_init_110 : decode cX12_init 110 = .ok (.aload_n 0, 1) := by decide +kernel
theorem dX12_init_111 : decode cX12_init 111 = .ok (.bipush 30, 2) := by decide +kernel
theorem dX12_init_113 : decode cX12_init 113 = .ok (.newarray .int, 2) := by decide +kernel
theorem dX12_init_115 : decode cX12_init 115 = .ok (.putfield 50, 3) := by decide +kernel
theorem dX12_init_118 : decode cX12_init 118 = .ok (.aload_n 0, 1) := by decide +kernel
theorem dX12_init_119 : decode cX12_init 119 = .ok (.bipush 30, 2) := by decide +kernel
theorem dX12_init_121 : decode cX12_init 121 = .ok (.newarray .long, 2) := by decide +kernel
theorem dX12_init_123 : decode cX12_init 123 = .ok (.putfield 53, 3) := by decide +kernel
theorem dX12_init_126 : decode cX12_init 126 = .ok (.aload_n 0, 1) := by decide +kernel
theorem dX12_init_127 : decode cX12_init 127 = .ok (.bipush 30, 2) := by decide +kernel
theorem dX12_init_129 : decode cX12_init 129 = .ok (.newarray .boolean, 2) := by decide +kernel
theorem dX12_init_131 : decode cX12_init 131 = .ok (.putfield 57, 3) := by decide +kernel
theorem dX12_init_134 : decode cX12_init 134 = .ok (.aload_n 0, 1) := by decide +kernel
theorem dX12_init_135 : decode cX12_init 135 = .ok (.iconst 5, 1) := by decide +kernel
theorem dX12_init_136 : decode cX12_init 136 = .ok (.newarray .int, 2) := by decide +kernel
theorem dX12_init_138 : decode cX12_init 138 = .ok (.dup, 1) := by decide +kernel
theorem dX12_init_139 : decode cX12_init 139 = .ok (.iconst 0, 1) := by decide +kernel
theorem dX12_init_140 : decode cX12_init 140 = .ok (.iconst 0, 1) := by decide +kernel
theorem dX12_init_141 : decode cX12_init 141 = .ok (.iastore, 1) := by decide +kernel
theorem dX12_init_142 : decode cX12_init 142 = .ok (.dup, 1) := by decide +kernel
theorem dX12_init_143 : decode cX12_init 143 = .ok (.iconst 1, 1) := by decide +kernel
theorem dX12_init_144 : decode cX12_init 144 = .ok (.iconst 1, 1) := by decide +kernel
theorem dX12_init_145 : decode cX12_init 145 = .ok (.iastore, 1) := by decide +kernel
theorem dX12_init_146 : decode cX12_init 146 = .ok (.dup, 1) := by decide +kernel
theorem dX12_init_147 : decode cX12_init 147 = .ok (.iconst 2, 1) := by decide +kernel
theorem dX12_init_148 : decode cX12_init 148 = .ok (.iconst 0, 1) := by decide +kernel
theorem dX12_init_149 : decode cX12_init 149 = .ok (.iastore, 1) := by decide +kernel
theorem dX12_init_150 : decode cX12_init 150 = .ok (.dup, 1) := by decide +kernel
theorem dX12_init_151 : decode cX12_init 151 = .ok (.iconst 3, 1) := by decide +kernel
theorem dX12_init_152 : decode cX12_init 152 = .ok (.sipush 999, 3) := by decide +kernel
theorem dX12_init_155 : decode cX12_init 155 = .ok (.iastore, 1) := by decide +kernel
theorem dX12_init_156 : decode cX12_init 156 = .ok (.dup, 1) := by decide +kernel
theorem dX12_init_157 : decode cX12_init 157 = .ok (.iconst 4, 1) := by decide +kernel
theorem dX12_init_158 : decode cX12_init 158 = .ok (.iconst 2, 1) := by decide +kernel
theorem dX12_init_159 : decode cX12_init 159 = .ok (.iastore, 1) := by decide +kernel
theorem dX12_init_160 : decode cX12_init 160 = .ok (.putfield 61, 3) := by decide +kernel
theorem dX12_init_163 : decode cX12_init 163 = .ok (.aload_n 0, 1) := by decide +kernel
theorem dX12_init_164 : decode cX12_init 164 = .ok (.iconst 5, 1) := by decide +kernel
theorem dX12_init_165 : decode cX12_init 165 = .ok (.newarray .int, 2) := by decide +kernel
theorem dX12_init_167 : decode cX12_init 167 = .ok (.putfield 64, 3) := by decide +kernel
theorem dX12_init_170 : decode cX12_init 170 = .ok (.aload_n 0, 1) := by decide +kernel
theorem dX12_init_171 : decode cX12_init 171 = .ok (.iconst 5, 1) := by decide +kernel
theorem dX12_init_172 : decode cX12_init 172 = .ok (.newarray .boolean, 2) := by decide +kernel
theorem dX12_init_174 : decode cX12_init 174 = .ok (.putfield 67, 3) := by decide +kernel
theorem dX12_init_177 : decode cX12_init 177 = .ok (.aload_n 0, 1) := by decide +kernel
theorem dX12_init_178 : decode cX12_init 178 = .ok (.bipush 60, 2) := by decide +kernel
theorem dX12_init_180 : decode cX12_init 180 = .ok (.newarray .int, 2) := by decide +kernel
theorem dX12_init_182 : decode cX12_init 182 = .ok (.putfield 70, 3) := by decide +kernel
theorem dX12_init_185 : decode cX12_init 185 = .ok (.aload_n 0, 1) := by decide +kernel
theorem dX12_init_186 : decode cX12_init 186 = .ok (.bipush 60, 2) := by decide +kernel
theorem dX12_init_188 : decode cX12_init 188 = .ok (.newarray .int, 2) := by decide +kernel
theorem dX12_init_190 : decode cX12_init 190 = .ok (.putfield 73, 3) := by decide +kernel
theorem dX12_init_193 : decode cX12_init 193 = .ok (.aload_n 0, 1) := by decide +kernel
theorem dX12_init_194 : decode cX12_init 194 = .ok (.bipush 60, 2) := by decide +kernel
theorem dX12_init_196 : decode cX12_init 196 = .ok (.newarray .int, 2) := by decide +kernel
theorem dX12_init_198 : decode cX12_init 198 = .ok (.putfield 76, 3) := by decide +kernel
theorem dX12_init_201 : decode cX12_init 201 = .ok (.aload_n 0, 1) := by decide +kernel
theorem dX12_init_202 : decode cX12_init 202 = .ok (.sipush 200, 3) := by decide +kernel
theorem dX12_init_205 : decode cX12_init 205 = .ok (.newarray .int, 2) := by decide +kernel
theorem dX12_init_207 : decode cX12_init 207 = .ok (.putfield 79, 3) := by decide +kernel
theorem dX12_init_210 : decode cX12_init 210 = .ok (.aload_n 0, 1) := by decide +kernel
theorem dX12_init_211 : decode cX12_init 211 = .ok (.sipush 200, 3) := by decide +kernel
theorem dX12_init_214 : decode cX12_init 214 = .ok (.newarray .int, 2) := by decide +kernel
theorem dX12_init_216 : decode cX12_init 216 = .ok (.putfield 82, 3) := by decide +kernel
theorem dX12_init_219 : decode cX12_init 219 = .ok (.aload_n 0, 1) := by decide +kernel
theorem dX12_init_220 : decode cX12_init 220 = .ok (.sipush 200, 3) := by decide +kernel
theorem dX12_init_223 : decode cX12_init 223 = .ok (.newarray .int, 2) := by decide +kernel
theorem dX12_init_225 : decode cX12_init 225 = .ok (.putfield 85, 3) := by decide +kernel
theorem dX12_init_228 : decode cX12_init 228 = .ok (.aload_n 0, 1) := by decide +kernel
theorem dX12_init_229 : decode cX12_init 229 = .ok (.sipush 200, 3) := by decide +kernel
theorem dX12_init_232 : decode cX12_init 232 = .ok (.newarray .int, 2) := by decide +kernel
theorem dX12_init_234 : decode cX12_init 234 = .ok (.putfield 88, 3) := by decide +kernel
theorem dX12_init_237 : decode cX12_init 237 = .ok (.aload_n 0, 1) := by decide +kernel
theorem dX12_init_238 : decode cX12_init 238 = .ok (.bipush 60, 2) := by decide +kernel
theorem dX12_init_240 : decode cX12_init 240 = .ok (.newarray .int, 2) := by decide +kernel
theorem dX12_init_242 : decode cX12_init 242 = .ok (.putfield 91, 3) := by decide +kernel
theorem dX12_init_245 : decode cX12_init 245 = .ok (.aload_n 0, 1) := by decide +kernel
theorem dX12_init_246 : decode cX12_init 246 = .ok (.bipush 60, 2) := by decide +kernel
theorem dX12_init_248 : decode cX12_init 248 = .ok (.newarray .int, 2) := by decide +kernel
theorem dX12_init_250 : decode cX12_init 250 = .ok (.putfield 94, 3) := by decide +kernel
theorem dX12_init_253 : decode cX12_init 253 = .ok (.aload_n 0, 1) := by decide +kernel
theorem dX12_init_254 : decode cX12_init 254 = .ok (.bipush 60, 2) := by decide +kernel
theorem dX12_init_256 : decode cX12_init 256 = .ok (.newarray .int, 2) := by decide +kernel
theorem dX12_init_258 : decode cX12_init 258 = .ok (.putfield 97, 3) := by decide +kernel
theorem dX12_init_261 : decode cX12_init 261 = .ok (.aload_n 0, 1) := by decide +kernel
theorem dX12_init_262 : decode cX12_init 262 = .ok (.bipush 30, 2) := by decide +kernel
theorem dX12_init_264 : decode cX12_init 264 = .ok (.newarray .int, 2) := by decide +kernel
theorem dX12_init_266 : decode cX12_init 266 = .ok (.putfield 100, 3) := by decide +kernel
theorem dX12_init_269 : decode cX12_init 269 = .ok (.aload_n 0, 1) := by decide +kernel
theorem dX12_init_270 : decode cX12_init 270 = .ok (.sipush 576, 3) := by decide +kernel
theorem dX12_init_273 : decode cX12_init 273 = .ok (.newarray .int, 2) := by decide +kernel
theorem dX12_init_275 : decode cX12_init 275 = .ok (.putfield 103, 3) := by decide +kernel
theorem dX12_init_278 : decode cX12_init 278 = .ok (.aload_n 0, 1) := by decide +kernel
theorem dX12_init_279 : decode cX12_init 279 = .ok (.bipush 72, 2) := by decide +kernel
theorem dX12_init_281 : decode cX12_init 281 = .ok (.newarray .int, 2) := by decide +kernel
theorem dX12_init_283 : decode cX12_init 283 = .ok (.putfield 106, 3) := by decide +kernel
theorem dX12_init_286 : decode cX12_init 286 = .ok (.aload_n 0, 1) := by decide +kernel
theorem dX12_init_287 : decode cX12_init 287 = .ok (.bipush 9, 2) := by decide +kernel
theorem dX12_init_289 : decode cX12_init 289 = .ok (.newarray .int, 2) := by decide +kernel
theorem dX12_init_291 : decode cX12_init 291 = .ok (.putfield 109, 3) := by decide +kernel
theorem dX12_init_294 : decode cX12_init 294 = .ok (.aload_n 0, 1) := by decide +kernel
theorem dX12_init_295 : decode cX12_init 295 = .ok (.bipush 73, 2) := by decide +kernel
theorem dX12_init_297 : decode cX12_init 297 = .ok (.newarray .int, 2) := by decide +kernel
theorem dX12_init_299 : decode cX12_init 299 = .ok (.putfield 112, 3) := by decide +kernel
theorem dX12_init_302 : decode cX12_init 302 = .ok (.aload_n 0, 1) := by decide +kernel
theorem dX12_init_303 : decode cX12_init 303 = .ok (.bipush 73, 2) := by decide +kernel
theorem dX12_init_305 : decode cX12_init 305 = .ok (.newarray .int, 2) := by decide +kernel
theorem dX12_init_307 : decode cX12_init 307 = .ok (.putfield 115, 3) := by decide +kernel
theorem dX12_init_310 : decode cX12_init 310 = .ok (.aload_n 0, 1) := by decide +kernel
theorem dX12_init_311 : decode cX12_init 311 = .ok (.bipush 73, 2) := by decide +kernel
theorem dX12_init_313 : decode cX12_init 313 = .ok (.newarray .int, 2) := by decide +kernel
theorem dX12_init_315 : decode cX12_init 315 = .ok (.putfield 118, 3) := by decide +kernel
theorem dX12_init_318 : decode cX12_init 318 = .ok (.aload_n 0, 1) := by decide +kernel
theorem dX12_init_319 : decode cX12_init 319 = .ok (.bipush 73, 2) := by decide +kernel
theorem dX12_init_321 : decode cX12_init 321 = .ok (.newarray .int, 2) := by decide +kernel
theorem dX12_init_323 : decode cX12_init 323 = .ok (.putfield 121, 3) := by decide +kernel
theorem dX12_init_326 : decode cX12_init 326 = .ok (.aload_n 0, 1) := by decide +kernel
theorem dX12_init_327 : decode cX12_init 327 = .ok (.bipush 8, 2) := by decide +kernel
theorem dX12_init_329 : decode cX12_init 329 = .ok (.newarray .int, 2) := by decide +kernel
theorem dX12_init_331 : decode cX12_init 331 = .ok (.dup, 1) := by decide +kernel
theorem dX12_init_332 : decode cX12_init 332 = .ok (.iconst 0, 1) := by decide +kernel
theorem dX12_init_333 : decode cX12_init 333 = .ok (.iconst (-1), 1) := by decide +kernel
theorem dX12_init_334 : decode cX12_init 334 = .ok (.iastore, 1) := by decide +kernel
theorem dX12_init_335 : decode cX12_init 335 = .ok (.dup, 1) := by decide +kernel
theorem dX12_init_336 : decode cX12_init 336 = .ok (.iconst 1, 1) := by decide +kernel
theorem dX12_init_337 : decode cX12_init 337 = .ok (.iconst (-1), 1) := by decide +kernel
theorem dX12_init_338 : decode cX12_init 338 = .ok (.iastore, 1) := by decide +kernel
theorem dX12_init_339 : decode cX12_init 339 = .ok (.dup, 1) := by decide +kernel
theorem dX12_init_340 : decode cX12_init 340 = .ok (.iconst 2, 1) := by decide +kernel
theorem dX12_init_341 : decode cX12_init 341 = .ok (.iconst (-1), 1) := by decide +kernel
theorem dX12_init_342 : decode cX12_init 342 = .ok (.iastore, 1) := by decide +kernel
theorem dX12_init_343 : decode cX12_init 343 = .ok (.dup, 1) := by decide +kernel
theorem dX12_init_344 : decode cX12_init 344 = .ok (.iconst 3, 1) := by decide +kernel
theorem dX12_init_345 : decode cX12_init 345 = .ok (.iconst (-1), 1) := by decide +kernel
theorem dX12_init_346 : decode cX12_init 346 = .ok (.iastore, 1) := by decide +kernel
theorem dX12_init_347 : decode cX12_init 347 = .ok (.dup, 1) := by decide +kernel
theorem dX12_init_348 : decode cX12_init 348 = .ok (.iconst 4, 1) := by decide +kernel
theorem dX12_init_349 : decode cX12_init 349 = .ok (.iconst (-1), 1) := by decide +kernel
theorem dX12_init_350 : decode cX12_init 350 = .ok (.iastore, 1) := by decide +kernel
theorem dX12_init_351 : decode cX12_init 351 = .ok (.dup, 1) := by decide +kernel
theorem dX12_init_352 : decode cX12_init 352 = .ok (.iconst 5, 1) := by decide +kernel
theorem dX12_init_353 : decode cX12_init 353 = .ok (.iconst (-1), 1) := by decide +kernel
theorem dX12_init_354 : decode cX12_init 354 = .ok (.iastore, 1) := by decide +kernel
theorem dX12_init_355 : decode cX12_init 355 = .ok (.dup, 1) := by decide +kernel
theorem dX12_init_356 : decode cX12_init 356 = .ok (.bipush 6, 2) := by decide +kernel
theorem dX12_init_358 : decode cX12_init 358 = .ok (.iconst (-1), 1) := by decide +kernel
theorem dX12_init_359 : decode cX12_init 359 = .ok (.iastore, 1) := by decide +kernel
theorem dX12_init_360 : decode cX12_init 360 = .ok (.dup, 1) := by decide +kernel
theorem dX12_init_361 : decode cX12_init 361 = .ok (.bipush 7, 2) := by decide +kernel
theorem dX12_init_363 : decode cX12_init 363 = .ok (.iconst (-1), 1) := by decide +kernel
theorem dX12_init_364 : decode cX12_init 364 = .ok (.iastore, 1) := by decide +kernel
theorem dX12_init_365 : decode cX12_init 365 = .ok (.putfield 124, 3) := by decide +kernel
theorem dX12_init_368 : decode cX12_init 368 = .ok (.aload_n 0, 1) := by decide +kernel
theorem dX12_init_369 : decode cX12_init 369 = .ok (.bipush 73, 2) := by decide +kernel
theorem dX12_init_371 : decode cX12_init 371 = .ok (.newarray .boolean, 2) := by decide +kernel
theorem dX12_init_373 : decode cX12_init 373 = .ok (.putfield 127, 3) := by decide +kernel
theorem dX12_init_376 : decode cX12_init 376 = .ok (.aload_n 0, 1) := by decide +kernel
theorem dX12_init_377 : decode cX12_init 377 = .ok (.sipush 360, 3) := by decide +kernel
theorem dX12_init_380 : decode cX12_init 380 = .ok (.newarray .int, 2) := by decide +kernel
theorem dX12_init_382 : decode cX12_init 382 = .ok (.putfield 130, 3) := by decide +kernel
theorem dX12_init_385 : decode cX12_init 385 = .ok (.return_, 1) := by decide +kernel
theorem dX12_thrown_0 : decode cX12_thrown 0 = .ok (.aload_n 0, 1) := by decide +kernel
theorem dX12_thrown_1 : decode cX12_thrown 1 = .ok (.getfield 133, 3) := by decide +kernel
theorem dX12_thrown_4 : decode cX12_thrown 4 = .ok (.ireturn, 1) := by decide +kernel
theorem dX12_throwsIf_0 : decode cX12_throwsIf 0 = .ok (.aload_n 0, 1) := by decide +kernel
theorem dX12_throwsIf_1 : decode cX12_throwsIf 1 = .ok (.iload_n 1, 1) := by decide +kernel
theorem dX12_throwsIf_2 : decode cX12_throwsIf 2 = .ok (.ifCond .eq 7, 3) := by decide +kernel
theorem dX12_throwsIf_5 : decode cX12_throwsIf 5 = .ok (.iconst 1, 1) := by decide +kernel
theorem dX12_throwsIf_6 : decode cX12_throwsIf 6 = .ok (.goto 4, 3) := by decide +kernel
theorem dX12_throwsIf_9 : decode cX12_throwsIf 9 = .ok (.iconst 0, 1) := by decide +kernel
theorem dX12_throwsIf_10 : decode cX12_throwsIf 10 = .ok (.putfield 133, 3) := by decide +kernel
theorem dX12_throwsIf_13 : decode cX12_throwsIf 13 = .ok (.iload_n 1, 1) := by decide +kernel
theorem dX12_throwsIf_14 : decode cX12_throwsIf 14 = .ok (.ireturn, 1) := by decide +kernel
set_option maxRecDepth 20000 in
theorem ggX12_feed_X12_four : GoodIn wsX12_feed wsX12_four := goodIn_r _ [7, 8, 2, 9, 10, 11, 12, 13, 14, 15, 16, 17, 18, 19, 20, 21, 22, 23, 24, 25, 26, 27, 28, 29, 30, 31, 32, 33, 34, 35, 36, 37, 38, 39, 40, 41, 42, 43, 44, 45, 46, 47, 48, 49, 50, 51, 52, 53, 54, 55, 56, 57, 58, 59, 60, 61, 62, 63, 64, 65, 66, 67, 68, 69, 70] (by decide +kernel) (by decide +kernel)
set_option maxRecDepth 20000 in
theorem gX12_feed_X12_four : GoodIn wsX12_feed (wsV RX12 140 RX12 yX12_four wsX12_four) := goodIn_app (goodIn_of _ (by decide +kernel)) ggX12_feed_X12_four
theorem dX12_feed_0 : decode cX12_feed 0 = .ok (.aload_n 0, 1) := by decide +kernel
theorem dX12_feed_1 : decode cX12_feed 1 = .ok (.iconst 0, 1) := by decide +kernel
theorem dX12_feed_2 : decode cX12_feed 2 = .ok (.putfield 133, 3) := by decide +kernel
theorem dX12_feed_5 : decode cX12_feed 5 = .ok (.aload_n 0, 1) := by decide +kernel
theorem dX12_feed_6 : decode cX12_feed 6 = .ok (.getfield 137, 3) := by decide +kernel
theorem dX12_feed_9 : decode cX12_feed 9 = .ok (.bipush 20, 2) := by decide +kernel
theorem dX12_feed_11 : decode cX12_feed 11 = .ok (.iadd, 1) := by decide +kernel
theorem dX12_feed_12 : decode cX12_feed 12 = .ok (.sipush 200, 3) := by decide +kernel
theorem dX12_feed_15 : decode cX12_feed 15 = .ok (.if_icmp .le 5, 3) := by decide +kernel
theorem dX12_feed_18 : decode cX12_feed 18 = .ok (.iconst (-1), 1) := by decide +kernel
theorem dX12_feed_19 : decode cX12_feed 19 = .ok (.ireturn, 1) := by decide +kernel
theorem dX12_feed_20 : decode cX12_feed 20 = .ok (.aload_n 0, 1) := by decide +kernel
theorem dX12_feed_21 : decode cX12_feed 21 = .ok (.iload_n 1, 1) := by decide +kernel
theorem dX12_feed_22 : decode cX12_feed 22 = .ok (.invokevirtual 140, 3) := by decide +kernel
theorem dX12_feed_25 : decode cX12_feed 25 = .ok (.aload_n 0, 1) := by decide +kernel
theorem dX12_feed_26 : decode cX12_feed 26 = .ok (.iload_n 2, 1) := by decide +kernel
theorem dX12_feed_27 : decode cX12_feed 27 = .ok (.invokevirtual 140, 3) := by decide +kernel
theorem dX12_feed_30 : decode cX12_feed 30 = .ok (.aload_n 0, 1) := by decide +kernel
theorem dX12_feed_31 : decode cX12_feed 31 = .ok (.iload_n 3, 1) := by decide +kernel
theorem dX12_feed_32 : decode cX12_feed 32 = .ok (.invokevirtual 140, 3) := by decide +kernel
theorem dX12_feed_35 : decode cX12_feed 35 = .ok (.aload_n 0, 1) := by decide +kernel
theorem dX12_feed_36 : decode cX12_feed 36 = .ok (.iload 4, 2) := by decide +kernel
theorem dX12_feed_38 : decode cX12_feed 38 = .ok (.invokevirtual 140, 3) := by decide +kernel
theorem dX12_feed_41 : decode cX12_feed 41 = .ok (.aload_n 0, 1) := by decide +kernel
theorem dX12_feed_42 : decode cX12_feed 42 = .ok (.iload 5, 2) := by decide +kernel
theorem dX12_feed_44 : decode cX12_feed 44 = .ok (.invokevirtual 140, 3) := by decide +kernel
theorem dX12_feed_47 : decode cX12_feed 47 = .ok (.aload_n 0, 1) := by decide +kernel
theorem dX12_feed_48 : decode cX12_feed 48 = .ok (.getfield 137, 3) := by decide +kernel
theorem dX12_feed_51 : decode cX12_feed 51 = .ok (.ireturn, 1) := by decide +kernel
theorem dX12_four_0 : decode cX12_four 0 = .ok (.bipush 24, 2) := by decide +kernel
theorem dX12_four_2 : decode cX12_four 2 = .ok (.istore_n 2, 1) := by decide +kernel
theorem dX12_four_3 : decode cX12_four 3 = .ok (.iload_n 2, 1) := by decide +kernel
theorem dX12_four_4 : decode cX12_four 4 = .ok (.ifCond .lt 32, 3) := by decide +kernel
theorem dX12_four_7 : decode cX12_four 7 = .ok (.aload_n 0, 1) := by decide +kernel
theorem dX12_four_8 : decode cX12_four 8 = .ok (.getfield 7, 3) := by decide +kernel
theorem dX12_four_11 : decode cX12_four 11 = .ok (.aload_n 0, 1) := by decide +kernel
theorem dX12_four_12 : decode cX12_four 12 = .ok (.getfield 137, 3) := by decide +kernel
theorem dX12_four_15 : decode cX12_four 15 = .ok (.iload_n 1, 1) := by decide +kernel
theorem dX12_four_16 : decode cX12_four 16 = .ok (.iload_n 2, 1) := by decide +kernel
theorem dX12_four_17 : decode cX12_four 17 = .ok (.ishr, 1) := by decide +kernel
theorem dX12_four_18 : decode cX12_four 18 = .ok (.i2b, 1) := by decide +kernel
theorem dX12_four_19 : decode cX12_four 19 = .ok (.bastore, 1) := by decide +kernel
theorem dX12_four_20 : decode cX12_four 20 = .ok (.aload_n 0, 1) := by decide +kernel
theorem dX12_four_21 : decode cX12_four 21 = .ok (.dup, 1) := by decide +kernel
theorem dX12_four_22 : decode cX12_four 22 = .ok (.getfield 137, 3) := by decide +kernel
theorem dX12_four_25 : decode cX12_four 25 = .ok (.iconst 1, 1) := by decide +kernel
theorem dX12_four_26 : decode cX12_four 26 = .ok (.iadd, 1) := by decide +kernel
theorem dX12_four_27 : decode cX12_four 27 = .ok (.putfield 137, 3) := by decide +kernel
theorem dX12_four_30 : decode cX12_four 30 = .ok (.iinc 2 (-8), 3) := by decide +kernel
theorem dX12_four_33 : decode cX12_four 33 = .ok (.goto (-30), 3) := by decide +kernel
theorem dX12_four_36 : decode cX12_four 36 = .ok (.return_, 1) := by decide +kernel
theorem dX12_end_0 : decode cX12_end 0 = .ok (.aload_n 0, 1) := by decide +kernel
theorem dX12_end_1 : decode cX12_end 1 = .ok (.iconst 0, 1) := by decide +kernel
theorem dX12_end_2 : decode cX12_end 2 = .ok (.putfield 133, 3) := by decide +kernel
theorem dX12_end_5 : decode cX12_end 5 = .ok (.iload_n 1, 1) := by decide +kernel
theorem dX12_end_6 : decode cX12_end 6 = .ok (.ifCond .lt 11, 3) := by decide +kernel
theorem dX12_end_9 : decode cX12_end 9 = .ok (.iload_n 1, 1) := by decide +kernel
theorem dX12_end_10 : decode cX12_end 10 = .ok (.aload_n 0, 1) := by decide +kernel
theorem dX12_end_11 : decode cX12_end 11 = .ok (.getfield 137, 3) := by decide +kernel
theorem dX12_end_14 : decode cX12_end 14 = .ok (.if_icmp .le 5, 3) := by decide +kernel
theorem dX12_end_17 : decode cX12_end 17 = .ok (.iconst 0, 1) := by decide +kernel
theorem dX12_end_18 : decode cX12_end 18 = .ok (.ireturn, 1) := by decide +kernel
theorem dX12_end_19 : decode cX12_end 19 = .ok (.aload_n 0, 1) := by decide +kernel
theorem dX12_end_20 : decode cX12_end 20 = .ok (.iload_n 1, 1) := by decide +kernel
theorem dX12_end_21 : decode cX12_end 21 = .ok (.putfield 137, 3) := by decide +kernel
theorem dX12_end_24 : decode cX12_end 24 = .ok (.iconst 1, 1) := by decide +kernel
theorem dX12_end_25 : decode cX12_end 25 = .ok (.ireturn, 1) := by decide +kernel
theorem dX12_taken_0 : decode cX12_taken 0 = .ok (.aload_n 0, 1) := by decide +kernel
theorem dX12_taken_1 : decode cX12_taken 1 = .ok (.aload_n 0, 1) := by decide +kernel
theorem dX12_taken_2 : decode cX12_taken 2 = .ok (.getfield 137, 3) := by decide +kernel
theorem dX12_taken_5 : decode cX12_taken 5 = .ok (.putfield 144, 3) := by decide +kernel
theorem dX12_taken_8 : decode cX12_taken 8 = .ok (.aload_n 0, 1) := by decide +kernel
theorem dX12_taken_9 : decode cX12_taken 9 = .ok (.iconst 0, 1) := by decide +kernel
theorem dX12_taken_10 : decode cX12_taken 10 = .ok (.putfield 137, 3) := by decide +kernel
theorem dX12_taken_13 : decode cX12_taken 13 = .ok (.aload_n 0, 1) := by decide +kernel
theorem dX12_taken_14 : decode cX12_taken 14 = .ok (.iconst 0, 1) := by decide +kernel
theorem dX12_taken_15 : decode cX12_taken 15 = .ok (.putfield 147, 3) := by decide +kernel
theorem dX12_taken_18 : decode cX12_taken 18 = .ok (.return_, 1) := by decide +kernel
theorem dX12_isIn_0 : decode cX12_isIn 0 = .ok (.iload_n 0, 1) := by decide +kernel
theorem dX12_isIn_1 : decode cX12_isIn 1 = .ok (.iload_n 1, 1) := by decide +kernel
theorem dX12_isIn_2 : decode cX12_isIn 2 = .ok (.if_icmp .lt 12, 3) := by decide +kernel
theorem dX12_isIn_5 : decode cX12_isIn 5 = .ok (.iload_n 0, 1) := by decide +kernel
theorem dX12_isIn_6 : decode cX12_isIn 6 = .ok (.iload_n 2, 1) := by decide +kernel
theorem dX12_isIn_7 : decode cX12_isIn 7 = .ok (.if_icmp .gt 7, 3) := by decide +kernel
theorem dX12_isIn_10 : decode cX12_isIn 10 = .ok (.iconst 1, 1) := by decide +kernel
theorem dX12_isIn_11 : decode cX12_isIn 11 = .ok (.goto 4, 3) := by decide +kernel
theorem dX12_isIn_14 : decode cX12_isIn 14 = .ok (.iconst 0, 1) := by decide +kernel
theorem dX12_isIn_15 : decode cX12_isIn 15 = .ok (.ireturn, 1) := by decide +kernel
theorem dX12_isPerson_0 : decode cX12_isPerson 0 = .ok (.iload_n 1, 1) := by decide +kernel
theorem dX12_isPerson_1 : decode cX12_isPerson 1 = .ok (.ifCond .lt 15, 3) := by decide +kernel
theorem dX12_isPerson_4 : decode cX12_isPerson 4 = .ok (.iload_n 1, 1) := by decide +kernel
theorem dX12_isPerson_5 : decode cX12_isPerson 5 = .ok (.aload_n 0, 1) := by decide +kernel
theorem dX12_isPerson_6 : decode cX12_isPerson 6 = .ok (.getfield 150, 3) := by decide +kernel
theorem dX12_isPerson_9 : decode cX12_isPerson 9 = .ok (.if_icmp .ge 7, 3) := by decide +kernel
theorem dX12_isPerson_12 : decode cX12_isPerson 12 = .ok (.iconst 1, 1) := by decide +kernel
theorem dX12_isPerson_13 : decode cX12_isPerson 13 = .ok (.goto 4, 3) := by decide +kernel
theorem dX12_isPerson_16 : decode cX12_isPerson 16 = .ok (.iconst 0, 1) := by decide +kernel
theorem dX12_isPerson_17 : decode cX12_isPerson 17 = .ok (.ireturn, 1) := by decide +kernel
theorem dX12_isQuarter_0 : decode cX12_isQuarter 0 = .ok (.iload_n 0, 1) := by decide +kernel
theorem dX12_isQuarter_1 : decode cX12_isQuarter 1 = .ok (.ifCond .lt 13, 3) := by decide +kernel
theorem dX12_isQuarter_4 : decode cX12_isQuarter 4 = .ok (.iload_n 0, 1) := by decide +kernel
theorem dX12_isQuarter_5 : decode cX12_isQuarter 5 = .ok (.bipush 64, 2) := by decide +kernel
theorem dX12_isQuarter_7 : decode cX12_isQuarter 7 = .ok (.if_icmp .ge 7, 3) := by decide +kernel
theorem dX12_isQuarter_10 : decode cX12_isQuarter 10 = .ok (.iconst 1, 1) := by decide +kernel
theorem dX12_isQuarter_11 : decode cX12_isQuarter 11 = .ok (.goto 4, 3) := by decide +kernel
theorem dX12_isQuarter_14 : decode cX12_isQuarter 14 = .ok (.iconst 0, 1) := by decide +kernel
theorem dX12_isQuarter_15 : decode cX12_isQuarter 15 = .ok (.ireturn, 1) := by decide +kernel
set_option maxRecDepth 20000 in
theorem ggX12_land_X12_isQuarter : GoodIn wsX12_land wsX12_isQuarter := goodIn_r _ [8] (by decide +kernel) (by decide +kernel)
set_option maxRecDepth 20000 in
theorem gX12_land_X12_isQuarter : GoodIn wsX12_land (va_wsS RX12 157 yX12_isQuarter wsX12_isQuarter) := goodIn_app (goodIn_of _ (by decide +kernel)) ggX12_land_X12_isQuarter
set_option maxRecDepth 20000 in
theorem ggX12_land_X12_isIn : GoodIn wsX12_land wsX12_isIn := goodIn_r _ [11] (by decide +kernel) (by decide +kernel)
set_option maxRecDepth 20000 in
theorem gX12_land_X12_isIn : GoodIn wsX12_land (va_wsS RX12 161 yX12_isIn wsX12_isIn) := goodIn_app (goodIn_of _ (by decide +kernel)) ggX12_land_X12_isIn
theorem dX12_land_0 : decode cX12_land 0 = .ok (.aload_n 0, 1) := by decide +kernel
theorem dX12_land_1 : decode cX12_land 1 = .ok (.iconst 0, 1) := by decide +kernel
theorem dX12_land_2 : decode cX12_land 2 = .ok (.putfield 133, 3) := by decide +kernel
theorem dX12_land_5 : decode cX12_land 5 = .ok (.aload_n 0, 1) := by decide +kernel
theorem dX12_land_6 : decode cX12_land 6 = .ok (.getfield 153, 3) := by decide +kernel
theorem dX12_land_9 : decode cX12_land 9 = .ok (.ifCond .ne 29, 3) := by decide +kernel
theorem dX12_land_12 : decode cX12_land 12 = .ok (.iload_n 1, 1) := by decide +kernel
theorem dX12_land_13 : decode cX12_land 13 = .ok (.invokestatic 157, 3) := by decide +kernel
theorem dX12_land_16 : decode cX12_land 16 = .ok (.ifCond .eq 22, 3) := by decide +kernel
theorem dX12_land_19 : decode cX12_land 19 = .ok (.iload_n 2, 1) := by decide +kernel
theorem dX12_land_20 : decode cX12_land 20 = .ok (.iconst 0, 1) := by decide +kernel
theorem dX12_land_21 : decode cX12_land 21 = .ok (.bipush 99, 2) := by decide +kernel
theorem dX12_land_23 : decode cX12_land 23 = .ok (.invokestatic 161, 3) := by decide +kernel
theorem dX12_land_26 : decode cX12_land 26 = .ok (.ifCond .eq 12, 3) := by decide +kernel
theorem dX12_land_29 : decode cX12_land 29 = .ok (.iload_n 3, 1) := by decide +kernel
theorem dX12_land_30 : decode cX12_land 30 = .ok (.iconst 0, 1) := by decide +kernel
theorem dX12_land_31 : decode cX12_land 31 = .ok (.iconst 3, 1) := by decide +kernel
theorem dX12_land_32 : decode cX12_land 32 = .ok (.invokestatic 161, 3) := by decide +kernel
theorem dX12_land_35 : decode cX12_land 35 = .ok (.ifCond .ne 5, 3) := by decide +kernel
theorem dX12_land_38 : decode cX12_land 38 = .ok (.iconst 0, 1) := by decide +kernel
theorem dX12_land_39 : decode cX12_land 39 = .ok (.ireturn, 1) := by decide +kernel
theorem dX12_land_40 : decode cX12_land 40 = .ok (.aload_n 0, 1) := by decide +kernel
theorem dX12_land_41 : decode cX12_land 41 = .ok (.getfield 13, 3) := by decide +kernel
theorem dX12_land_44 : decode cX12_land 44 = .ok (.iload_n 1, 1) := by decide +kernel
theorem dX12_land_45 : decode cX12_land 45 = .ok (.iload_n 2, 1) := by decide +kernel
theorem dX12_land_46 : decode cX12_land 46 = .ok (.iastore, 1) := by decide +kernel
theorem dX12_land_47 : decode cX12_land 47 = .ok (.aload_n 0, 1) := by decide +kernel
theorem dX12_land_48 : decode cX12_land 48 = .ok (.getfield 17, 3) := by decide +kernel
theorem dX12_land_51 : decode cX12_land 51 = .ok (.iload_n 1, 1) := by decide +kernel
theorem dX12_land_52 : decode cX12_land 52 = .ok (.iload_n 3, 1) := by decide +kernel
theorem dX12_land_53 : decode cX12_land 53 = .ok (.iastore, 1) := by decide +kernel
theorem dX12_land_54 : decode cX12_land 54 = .ok (.iconst 1, 1) := by decide +kernel
theorem dX12_land_55 : decode cX12_land 55 = .ok (.ireturn, 1) := by decide +kernel
set_option maxRecDepth 20000 in
theorem ggX12_person_X12_taken : GoodIn wsX12_person wsX12_taken := goodIn_r _ [21, 22, 4, 23, 30, 31, 32, 33, 34, 35, 36, 37, 38, 39, 40, 41, 42, 43, 44, 45, 46, 47, 48, 49, 50, 51, 52, 53, 54, 55, 56, 57, 58, 59, 60, 61, 62, 63, 64, 65, 66, 67, 68, 69, 70, 71, 72, 73, 74, 75, 76, 77, 78, 79, 80, 81, 82, 83, 84, 85, 86, 87, 88, 89, 90, 91] (by decide +kernel) (by decide +kernel)
set_option maxRecDepth 20000 in
theorem gX12_person_X12_taken : GoodIn wsX12_person (wsV RX12 165 RX12 yX12_taken wsX12_taken) := goodIn_app (goodIn_of _ (by decide +kernel)) ggX12_person_X12_taken
set_option maxRecDepth 20000 in
theorem ggX12_person_X12_isIn : GoodIn wsX12_person wsX12_isIn := goodIn_r _ [26] (by decide +kernel) (by decide +kernel)
set_option maxRecDepth 20000 in
theorem gX12_person_X12_isIn : GoodIn wsX12_person (va_wsS RX12 161 yX12_isIn wsX12_isIn) := goodIn_app (goodIn_of _ (by decide +kernel)) ggX12_person_X12_isIn
set_option maxRecDepth 20000 in
theorem ggX12_person_X12_isQuarter : GoodIn wsX12_person wsX12_isQuarter := goodIn_r _ [29] (by decide +kernel) (by decide +kernel)
set_option maxRecDepth 20000 in
theorem gX12_person_X12_isQuarter : GoodIn wsX12_person (va_wsS RX12 157 yX12_isQuarter wsX12_isQuarter) := goodIn_app (goodIn_of _ (by decide +kernel)) ggX12_person_X12_isQuarter
theorem dX12_person_0 : decode cX12_person 0 = .ok (.aload_n 0, 1) := by decide +kernel
theorem dX12_person_1 : decode cX12_person 1 = .ok (.iconst 0, 1) := by decide +kernel
theorem dX12_person_2 : decode cX12_person 2 = .ok (.putfield 133, 3) := by decide +kernel
theorem dX12_person_5 : decode cX12_person 5 = .ok (.aload_n 0, 1) := by decide +kernel
theorem dX12_person_6 : decode cX12_person 6 = .ok (.invokevirtual 165, 3) := by decide +kernel
theorem dX12_person_9 : decode cX12_person 9 = .ok (.aload_n 0, 1) := by decide +kernel
theorem dX12_person_10 : decode cX12_person 10 = .ok (.getfield 150, 3) := by decide +kernel
theorem dX12_person_13 : decode cX12_person 13 = .ok (.bipush 30, 2) := by decide +kernel
theorem dX12_person_15 : decode cX12_person 15 = .ok (.if_icmp .eq 59, 3) := by decide +kernel
theorem dX12_person_18 : decode cX12_person 18 = .ok (.aload_n 0, 1) := by decide +kernel
theorem dX12_person_19 : decode cX12_person 19 = .ok (.getfield 153, 3) := by decide +kernel
theorem dX12_person_22 : decode cX12_person 22 = .ok (.ifCond .ne 52, 3) := by decide +kernel
theorem dX12_person_25 : decode cX12_person 25 = .ok (.aload_n 0, 1) := by decide +kernel
theorem dX12_person_26 : decode cX12_person 26 = .ok (.getfield 144, 3) := by decide +kernel
theorem dX12_person_29 : decode cX12_person 29 = .ok (.bipush 12, 2) := by decide +kernel
theorem dX12_person_31 : decode cX12_person 31 = .ok (.if_icmp .gt 43, 3) := by decide +kernel
theorem dX12_person_34 : decode cX12_person 34 = .ok (.iload_n 1, 1) := by decide +kernel
theorem dX12_person_35 : decode cX12_person 35 = .ok (.iconst 0, 1) := by decide +kernel
theorem dX12_person_36 : decode cX12_person 36 = .ok (.iload_n 2, 1) := by decide +kernel
theorem dX12_person_37 : decode cX12_person 37 = .ok (.ifCond .eq 8, 3) := by decide +kernel
theorem dX12_person_40 : decode cX12_person 40 = .ok (.bipush 63, 2) := by decide +kernel
theorem dX12_person_42 : decode cX12_person 42 = .ok (.goto 5, 3) := by decide +kernel
theorem dX12_person_45 : decode cX12_person 45 = .ok (.bipush 7, 2) := by decide +kernel
theorem dX12_person_47 : decode cX12_person 47 = .ok (.invokestatic 161, 3) := by decide +kernel
theorem dX12_person_50 : decode cX12_person 50 = .ok (.ifCond .eq 24, 3) := by decide +kernel
theorem dX12_person_53 : decode cX12_person 53 = .ok (.iload_n 3, 1) := by decide +kernel
theorem dX12_person_54 : decode cX12_person 54 = .ok (.iconst 1, 1) := by decide +kernel
theorem dX12_person_55 : decode cX12_person 55 = .ok (.bipush 9, 2) := by decide +kernel
theorem dX12_person_57 : decode cX12_person 57 = .ok (.invokestatic 161, 3) := by decide +kernel
theorem dX12_person_60 : decode cX12_person 60 = .ok (.ifCond .eq 14, 3) := by decide +kernel
theorem dX12_person_63 : decode cX12_person 63 = .ok (.iload 4, 2) := by decide +kernel
theorem dX12_person_65 : decode cX12_person 65 = .ok (.iconst 0, 1) := by decide +kernel
theorem dX12_person_66 : decode cX12_person 66 = .ok (.bipush 120, 2) := by decide +kernel
theorem dX12_person_68 : decode cX12_person 68 = .ok (.invokestatic 161, 3) := by decide +kernel
theorem dX12_person_71 : decode cX12_person 71 = .ok (.ifCond .ne 5, 3) := by decide +kernel
theorem dX12_person_74 : decode cX12_person 74 = .ok (.iconst (-1), 1) := by decide +kernel
theorem dX12_person_75 : decode cX12_person 75 = .ok (.ireturn, 1) := by decide +kernel
theorem dX12_person_76 : decode cX12_person 76 = .ok (.lconst 0, 1) := by decide +kernel
theorem dX12_person_77 : decode cX12_person 77 = .ok (.lstore 5, 2) := by decide +kernel
theorem dX12_person_79 : decode cX12_person 79 = .ok (.iconst 0, 1) := by decide +kernel
theorem dX12_person_80 : decode cX12_person 80 = .ok (.istore 7, 2) := by decide +kernel
theorem dX12_person_82 : decode cX12_person 82 = .ok (.iload 7, 2) := by decide +kernel
theorem dX12_person_84 : decode cX12_person 84 = .ok (.aload_n 0, 1) := by decide +kernel
theorem dX12_person_85 : decode cX12_person 85 = .ok (.getfield 144, 3) := by decide +kernel
theorem dX12_person_88 : decode cX12_person 88 = .ok (.if_icmp .ge 77, 3) := by decide +kernel
theorem dX12_person_91 : decode cX12_person 91 = .ok (.aload_n 0, 1) := by decide +kernel
theorem dX12_person_92 : decode cX12_person 92 = .ok (.getfield 7, 3) := by decide +kernel
theorem dX12_person_95 : decode cX12_person 95 = .ok (.iload 7, 2) := by decide +kernel
theorem dX12_person_97 : decode cX12_person 97 = .ok (.baload, 1) := by decide +kernel
theorem dX12_person_98 : decode cX12_person 98 = .ok (.invokestatic 157, 3) := by decide +kernel
theorem dX12_person_101 : decode cX12_person 101 = .ok (.ifCond .eq 20, 3) := by decide +kernel
theorem dX12_person_104 : decode cX12_person 104 = .ok (.lload 5, 2) := by decide +kernel
theorem dX12_person_106 : decode cX12_person 106 = .ok (.aload_n 0, 1) := by decide +kernel
theorem dX12_person_107 : decode cX12_person 107 = .ok (.getfield 7, 3) := by decide +kernel
theorem dX12_person_110 : decode cX12_person 110 = .ok (.iload 7, 2) := by decide +kernel
theorem dX12_person_112 : decode cX12_person 112 = .ok (.baload, 1) := by decide +kernel
theorem dX12_person_113 : decode cX12_person 113 = .ok (.lshr, 1) := by decide +kernel
theorem dX12_person_114 : decode cX12_person 114 = .ok (.lconst 1, 1) := by decide +kernel
theorem dX12_person_115 : decode cX12_person 115 = .ok (.land, 1) := by decide +kernel
theorem dX12_person_116 : decode cX12_person 116 = .ok (.lconst 1, 1) := by decide +kernel
theorem dX12_person_117 : decode cX12_person 117 = .ok (.lcmp, 1) := by decide +kernel
theorem dX12_person_118 : decode cX12_person 118 = .ok (.ifCond .ne 5, 3) := by decide +kernel
theorem dX12_person_121 : decode cX12_person 121 = .ok (.iconst (-1), 1) := by decide +kernel
theorem dX12_person_122 : decode cX12_person 122 = .ok (.ireturn, 1) := by decide +kernel
theorem dX12_person_123 : decode cX12_person 123 = .ok (.lload 5, 2) := by decide +kernel
theorem dX12_person_125 : decode cX12_person 125 = .ok (.lconst 1, 1) := by decide +kernel
theorem dX12_person_126 : decode cX12_person 126 = .ok (.aload_n 0, 1) := by decide +kernel
theorem dX12_person_127 : decode cX12_person 127 = .ok (.getfield 7, 3) := by decide +kernel
theorem dX12_person_130 : decode cX12_person 130 = .ok (.iload 7, 2) := by decide +kernel
theorem dX12_person_132 : decode cX12_person 132 = .ok (.baload, 1) := by decide +kernel
theorem dX12_person_133 : decode cX12_person 133 = .ok (.lshl, 1) := by decide +kernel
theorem dX12_person_134 : decode cX12_person 134 = .ok (.lor, 1) := by decide +kernel
theorem dX12_person_135 : decode cX12_person 135 = .ok (.lstore 5, 2) := by decide +kernel
theorem dX12_person_137 : decode cX12_person 137 = .ok (.aload_n 0, 1) := by decide +kernel
theorem dX12_person_138 : decode cX12_person 138 = .ok (.getfield 47, 3) := by decide +kernel
theorem dX12_person_141 : decode cX12_person 141 = .ok (.bipush 12, 2) := by decide +kernel
theorem dX12_person_143 : decode cX12_person 143 = .ok (.aload_n 0, 1) := by decide +kernel
theorem dX12_person_144 : decode cX12_person 144 = .ok (.getfield 150, 3) := by decide +kernel
theorem dX12_person_147 : decode cX12_person 147 = .ok (.imul, 1) := by decide +kernel
theorem dX12_person_148 : decode cX12_person 148 = .ok (.iload 7, 2) := by decide +kernel
theorem dX12_person_150 : decode cX12_person 150 = .ok (.iadd, 1) := by decide +kernel
theorem dX12_person_151 : decode cX12_person 151 = .ok (.aload_n 0, 1) := by decide +kernel
theorem dX12_person_152 : decode cX12_person 152 = .ok (.getfield 7, 3) := by decide +kernel
theorem dX12_person_155 : decode cX12_person 155 = .ok (.iload 7, 2) := by decide +kernel
theorem dX12_person_157 : decode cX12_person 157 = .ok (.baload, 1) := by decide +kernel
theorem dX12_person_158 : decode cX12_person 158 = .ok (.iastore, 1) := by decide +kernel
theorem dX12_person_159 : decode cX12_person 159 = .ok (.iinc 7 1, 3) := by decide +kernel
theorem dX12_person_162 : decode cX12_person 162 = .ok (.goto (-80), 3) := by decide +kernel
theorem dX12_person_165 : decode cX12_person 165 = .ok (.aload_n 0, 1) := by decide +kernel
theorem dX12_person_166 : decode cX12_person 166 = .ok (.getfield 50, 3) := by decide +kernel
theorem dX12_person_169 : decode cX12_person 169 = .ok (.aload_n 0, 1) := by decide +kernel
theorem dX12_person_170 : decode cX12_person 170 = .ok (.getfield 150, 3) := by decide +kernel
theorem dX12_person_173 : decode cX12_person 173 = .ok (.aload_n 0, 1) := by decide +kernel
theorem dX12_person_174 : decode cX12_person 174 = .ok (.getfield 144, 3) := by decide +kernel
theorem dX12_person_177 : decode cX12_person 177 = .ok (.iastore, 1) := by decide +kernel
theorem dX12_person_178 : decode cX12_person 178 = .ok (.aload_n 0, 1) := by decide +kernel
theorem dX12_person_179 : decode cX12_person 179 = .ok (.getfield 23, 3) := by decide +kernel
theorem dX12_person_182 : decode cX12_person 182 = .ok (.aload_n 0, 1) := by decide +kernel
theorem dX12_person_183 : decode cX12_person 183 = .ok (.getfield 150, 3) := by decide +kernel
theorem dX12_person_186 : decode cX12_person 186 = .ok (.iload_n 2, 1) := by decide +kernel
theorem dX12_person_187 : decode cX12_person 187 = .ok (.ifCond .eq 7, 3) := by decide +kernel
theorem dX12_person_190 : decode cX12_person 190 = .ok (.iload_n 1, 1) := by decide +kernel
theorem dX12_person_191 : decode cX12_person 191 = .ok (.goto 4, 3) := by decide +kernel
theorem dX12_person_194 : decode cX12_person 194 = .ok (.iconst (-1), 1) := by decide +kernel
theorem dX12_person_195 : decode cX12_person 195 = .ok (.iastore, 1) := by decide +kernel
theorem dX12_person_196 : decode cX12_person 196 = .ok (.aload_n 0, 1) := by decide +kernel
theorem dX12_person_197 : decode cX12_person 197 = .ok (.getfield 26, 3) := by decide +kernel
theorem dX12_person_200 : decode cX12_person 200 = .ok (.aload_n 0, 1) := by decide +kernel
theorem dX12_person_201 : decode cX12_person 201 = .ok (.getfield 150, 3) := by decide +kernel
theorem dX12_person_204 : decode cX12_person 204 = .ok (.iload_n 2, 1) := by decide +kernel
theorem dX12_person_205 : decode cX12_person 205 = .ok (.ifCond .eq 10, 3) := by decide +kernel
theorem dX12_person_208 : decode cX12_person 208 = .ok (.iload_n 1, 1) := by decide +kernel
theorem dX12_person_209 : decode cX12_person 209 = .ok (.bipush 8, 2) := by decide +kernel
theorem dX12_person_211 : decode cX12_person 211 = .ok (.idiv, 1) := by decide +kernel
theorem dX12_person_212 : decode cX12_person 212 = .ok (.goto 4, 3) := by decide +kernel
theorem dX12_person_215 : decode cX12_person 215 = .ok (.iload_n 1, 1) := by decide +kernel
theorem dX12_person_216 : decode cX12_person 216 = .ok (.iastore, 1) := by decide +kernel
theorem dX12_person_217 : decode cX12_person 217 = .ok (.aload_n 0, 1) := by decide +kernel
theorem dX12_person_218 : decode cX12_person 218 = .ok (.getfield 57, 3) := by decide +kernel
theorem dX12_person_221 : decode cX12_person 221 = .ok (.aload_n 0, 1) := by decide +kernel
theorem dX12_person_222 : decode cX12_person 222 = .ok (.getfield 150, 3) := by decide +kernel
theorem dX12_person_225 : decode cX12_person 225 = .ok (.iload_n 2, 1) := by decide +kernel
theorem dX12_person_226 : decode cX12_person 226 = .ok (.bastore, 1) := by decide +kernel
theorem dX12_person_227 : decode cX12_person 227 = .ok (.aload_n 0, 1) := by decide +kernel
theorem dX12_person_228 : decode cX12_person 228 = .ok (.getfield 29, 3) := by decide +kernel
theorem dX12_person_231 : decode cX12_person 231 = .ok (.aload_n 0, 1) := by decide +kernel
theorem dX12_person_232 : decode cX12_person 232 = .ok (.getfield 150, 3) := by decide +kernel
theorem dX12_person_235 : decode cX12_person 235 = .ok (.iload_n 3, 1) := by decide +kernel
theorem dX12_person_236 : decode cX12_person 236 = .ok (.iastore, 1) := by decide +kernel
theorem dX12_person_237 : decode cX12_person 237 = .ok (.aload_n 0, 1) := by decide +kernel
theorem dX12_person_238 : decode cX12_person 238 = .ok (.getfield 32, 3) := by decide +kernel
theorem dX12_person_241 : decode cX12_person 241 = .ok (.aload_n 0, 1) := by decide +kernel
theorem dX12_person_242 : decode cX12_person 242 = .ok (.getfield 150, 3) := by decide +kernel
theorem dX12_person_245 : decode cX12_person 245 = .ok (.iload 4, 2) := by decide +kernel
theorem dX12_person_247 : decode cX12_person 247 = .ok (.iastore, 1) := by decide +kernel
theorem dX12_person_248 : decode cX12_person 248 = .ok (.aload_n 0, 1) := by decide +kernel
theorem dX12_person_249 : decode cX12_person 249 = .ok (.getfield 35, 3) := by decide +kernel
theorem dX12_person_252 : decode cX12_person 252 = .ok (.aload_n 0, 1) := by decide +kernel
theorem dX12_person_253 : decode cX12_person 253 = .ok (.getfield 150, 3) := by decide +kernel
theorem dX12_person_256 : decode cX12_person 256 = .ok (.iconst (-1), 1) := by decide +kernel
theorem dX12_person_257 : decode cX12_person 257 = .ok (.iastore, 1) := by decide +kernel
theorem dX12_person_258 : decode cX12_person 258 = .ok (.aload_n 0, 1) := by decide +kernel
theorem dX12_person_259 : decode cX12_person 259 = .ok (.getfield 41, 3) := by decide +kernel
theorem dX12_person_262 : decode cX12_person 262 = .ok (.aload_n 0, 1) := by decide +kernel
theorem dX12_person_263 : decode cX12_person 263 = .ok (.getfield 150, 3) := by decide +kernel
theorem dX12_person_266 : decode cX12_person 266 = .ok (.iconst (-1), 1) := by decide +kernel
theorem dX12_person_267 : decode cX12_person 267 = .ok (.iastore, 1) := by decide +kernel
theorem dX12_person_268 : decode cX12_person 268 = .ok (.aload_n 0, 1) := by decide +kernel
theorem dX12_person_269 : decode cX12_person 269 = .ok (.getfield 44, 3) := by decide +kernel
theorem dX12_person_272 : decode cX12_person 272 = .ok (.aload_n 0, 1) := by decide +kernel
theorem dX12_person_273 : decode cX12_person 273 = .ok (.getfield 150, 3) := by decide +kernel
theorem dX12_person_276 : decode cX12_person 276 = .ok (.iconst (-1), 1) := by decide +kernel
theorem dX12_person_277 : decode cX12_person 277 = .ok (.iastore, 1) := by decide +kernel
theorem dX12_person_278 : decode cX12_person 278 = .ok (.aload_n 0, 1) := by decide +kernel
theorem dX12_person_279 : decode cX12_person 279 = .ok (.getfield 53, 3) := by decide +kernel
theorem dX12_person_282 : decode cX12_person 282 = .ok (.aload_n 0, 1) := by decide +kernel
theorem dX12_person_283 : decode cX12_person 283 = .ok (.getfield 150, 3) := by decide +kernel
theorem dX12_person_286 : decode cX12_person 286 = .ok (.lconst 0, 1) := by decide +kernel
theorem dX12_person_287 : decode cX12_person 287 = .ok (.lastore, 1) := by decide +kernel
theorem dX12_person_288 : decode cX12_person 288 = .ok (.aload_n 0, 1) := by decide +kernel
theorem dX12_person_289 : decode cX12_person 289 = .ok (.dup, 1) := by decide +kernel
theorem dX12_person_290 : decode cX12_person 290 = .ok (.getfield 150, 3) := by decide +kernel
theorem dX12_person_293 : decode cX12_person 293 = .ok (.iconst 1, 1) := by decide +kernel
theorem dX12_person_294 : decode cX12_person 294 = .ok (.iadd, 1) := by decide +kernel
theorem dX12_person_295 : decode cX12_person 295 = .ok (.putfield 150, 3) := by decide +kernel
theorem dX12_person_298 : decode cX12_person 298 = .ok (.aload_n 0, 1) := by decide +kernel
theorem dX12_person_299 : decode cX12_person 299 = .ok (.getfield 150, 3) := by decide +kernel
theorem dX12_person_302 : decode cX12_person 302 = .ok (.iconst 1, 1) := by decide +kernel
theorem dX12_person_303 : decode cX12_person 303 = .ok (.isub, 1) := by decide +kernel
theorem dX12_person_304 : decode cX12_person 304 = .ok (.ireturn, 1) := by decide +kernel
theorem dX12_columnOf_0 : decode cX12_columnOf 0 = .ok (.aload_n 0, 1) := by decide +kernel
theorem dX12_columnOf_1 : decode cX12_columnOf 1 = .ok (.getfield 23, 3) := by decide +kernel
theorem dX12_columnOf_4 : decode cX12_columnOf 4 = .ok (.iload_n 1, 1) := by decide +kernel
theorem dX12_columnOf_5 : decode cX12_columnOf 5 = .ok (.iaload, 1) := by decide +kernel
theorem dX12_columnOf_6 : decode cX12_columnOf 6 = .ok (.ifCond .ge 7, 3) := by decide +kernel
theorem dX12_columnOf_9 : decode cX12_columnOf 9 = .ok (.iconst (-1), 1) := by decide +kernel
theorem dX12_columnOf_10 : decode cX12_columnOf 10 = .ok (.goto 12, 3) := by decide +kernel
theorem dX12_columnOf_13 : decode cX12_columnOf 13 = .ok (.aload_n 0, 1) := by decide +kernel
theorem dX12_columnOf_14 : decode cX12_columnOf 14 = .ok (.getfield 23, 3) := by decide +kernel
theorem dX12_columnOf_17 : decode cX12_columnOf 17 = .ok (.iload_n 1, 1) := by decide +kernel
theorem dX12_columnOf_18 : decode cX12_columnOf 18 = .ok (.iaload, 1) := by decide +kernel
theorem dX12_columnOf_19 : decode cX12_columnOf 19 = .ok (.bipush 8, 2) := by decide +kernel
theorem dX12_columnOf_21 : decode cX12_columnOf 21 = .ok (.irem, 1) := by decide +kernel
theorem dX12_columnOf_22 : decode cX12_columnOf 22 = .ok (.ireturn, 1) := by decide +kernel
set_option maxRecDepth 20000 in
theorem ggX12_far_X12_columnOf : GoodIn wsX12_far wsX12_columnOf := goodIn_r _ [6, 7, 8, 9, 10, 11, 12, 13, 14, 15, 16, 17, 18, 19, 20, 21, 22, 23, 24, 25, 26, 27, 28, 29, 30, 31, 32, 33, 34, 35, 36, 37, 38, 39, 40, 41, 42, 43, 44, 45, 46, 47, 48, 49, 50, 51, 52, 53, 54, 55, 56, 57, 58, 59, 60, 61, 62, 63, 64, 65, 66, 67, 68, 69] (by decide +kernel) (by decide +kernel)
set_option maxRecDepth 20000 in
theorem gX12_far_X12_columnOf : GoodIn wsX12_far (wsV RX12 168 RX12 yX12_columnOf wsX12_columnOf) := goodIn_app (goodIn_of _ (by decide +kernel)) ggX12_far_X12_columnOf
theorem dX12_far_0 : decode cX12_far 0 = .ok (.iload_n 2, 1) := by decide +kernel
theorem dX12_far_1 : decode cX12_far 1 = .ok (.bipush 8, 2) := by decide +kernel
theorem dX12_far_3 : decode cX12_far 3 = .ok (.idiv, 1) := by decide +kernel
theorem dX12_far_4 : decode cX12_far 4 = .ok (.aload_n 0, 1) := by decide +kernel
theorem dX12_far_5 : decode cX12_far 5 = .ok (.getfield 26, 3) := by decide +kernel
theorem dX12_far_8 : decode cX12_far 8 = .ok (.iload_n 1, 1) := by decide +kernel
theorem dX12_far_9 : decode cX12_far 9 = .ok (.iaload, 1) := by decide +kernel
theorem dX12_far_10 : decode cX12_far 10 = .ok (.isub, 1) := by decide +kernel
theorem dX12_far_11 : decode cX12_far 11 = .ok (.istore_n 3, 1) := by decide +kernel
theorem dX12_far_12 : decode cX12_far 12 = .ok (.iload_n 2, 1) := by decide +kernel
theorem dX12_far_13 : decode cX12_far 13 = .ok (.bipush 8, 2) := by decide +kernel
theorem dX12_far_15 : decode cX12_far 15 = .ok (.irem, 1) := by decide +kernel
theorem dX12_far_16 : decode cX12_far 16 = .ok (.aload_n 0, 1) := by decide +kernel
theorem dX12_far_17 : decode cX12_far 17 = .ok (.iload_n 1, 1) := by decide +kernel
theorem dX12_far_18 : decode cX12_far 18 = .ok (.invokevirtual 168, 3) := by decide +kernel
theorem dX12_far_21 : decode cX12_far 21 = .ok (.isub, 1) := by decide +kernel
theorem dX12_far_22 : decode cX12_far 22 = .ok (.istore 4, 2) := by decide +kernel
theorem dX12_far_24 : decode cX12_far 24 = .ok (.iload_n 3, 1) := by decide +kernel
theorem dX12_far_25 : decode cX12_far 25 = .ok (.ifCond .ge 8, 3) := by decide +kernel
theorem dX12_far_28 : decode cX12_far 28 = .ok (.iload_n 3, 1) := by decide +kernel
theorem dX12_far_29 : decode cX12_far 29 = .ok (.ineg, 1) := by decide +kernel
theorem dX12_far_30 : decode cX12_far 30 = .ok (.goto 4, 3) := by decide +kernel
theorem dX12_far_33 : decode cX12_far 33 = .ok (.iload_n 3, 1) := by decide +kernel
theorem dX12_far_34 : decode cX12_far 34 = .ok (.iload 4, 2) := by decide +kernel
theorem dX12_far_36 : decode cX12_far 36 = .ok (.ifCond .ge 9, 3) := by decide +kernel
theorem dX12_far_39 : decode cX12_far 39 = .ok (.iload 4, 2) := by decide +kernel
theorem dX12_far_41 : decode cX12_far 41 = .ok (.ineg, 1) := by decide +kernel
theorem dX12_far_42 : decode cX12_far 42 = .ok (.goto 5, 3) := by decide +kernel
theorem dX12_far_45 : decode cX12_far 45 = .ok (.iload 4, 2) := by decide +kernel
theorem dX12_far_47 : decode cX12_far 47 = .ok (.iadd, 1) := by decide +kernel
theorem dX12_far_48 : decode cX12_far 48 = .ok (.ireturn, 1) := by decide +kernel
set_option maxRecDepth 20000 in
theorem ggX12_isBetter_X12_far : GoodIn wsX12_isBetter wsX12_far := goodIn_r _ [6, 7, 8, 9, 10, 5, 11, 12, 13, 14, 15, 16, 17, 18, 19, 20, 21, 22, 23, 24, 25, 26, 27, 28, 29, 30, 31, 32, 33, 34, 35, 36, 37, 38, 39, 40, 41, 42, 43, 44, 45, 46, 47, 48, 49, 50, 51, 52, 53, 54, 55, 56, 57, 58, 59, 60, 61, 62, 63, 64, 65, 66, 67, 68, 69, 70, 71, 72, 73, 74] (by decide +kernel) (by decide +kernel)
set_option maxRecDepth 20000 in
theorem gX12_isBetter_X12_far : GoodIn wsX12_isBetter (wsV RX12 172 RX12 yX12_far wsX12_far) := goodIn_app (goodIn_of _ (by decide +kernel)) ggX12_isBetter_X12_far
theorem dX12_isBetter_0 : decode cX12_isBetter 0 = .ok (.iload_n 3, 1) := by decide +kernel
theorem dX12_isBetter_1 : decode cX12_isBetter 1 = .ok (.ifCond .ge 5, 3) := by decide +kernel
theorem dX12_isBetter_4 : decode cX12_isBetter 4 = .ok (.iconst 1, 1) := by decide +kernel
theorem dX12_isBetter_5 : decode cX12_isBetter 5 = .ok (.ireturn, 1) := by decide +kernel
theorem dX12_isBetter_6 : decode cX12_isBetter 6 = .ok (.aload_n 0, 1) := by decide +kernel
theorem dX12_isBetter_7 : decode cX12_isBetter 7 = .ok (.getfield 13, 3) := by decide +kernel
theorem dX12_isBetter_10 : decode cX12_isBetter 10 = .ok (.iload_n 2, 1) := by decide +kernel
theorem dX12_isBetter_11 : decode cX12_isBetter 11 = .ok (.iaload, 1) := by decide +kernel
theorem dX12_isBetter_12 : decode cX12_isBetter 12 = .ok (.aload_n 0, 1) := by decide +kernel
theorem dX12_isBetter_13 : decode cX12_isBetter 13 = .ok (.getfield 13, 3) := by decide +kernel
theorem dX12_isBetter_16 : decode cX12_isBetter 16 = .ok (.iload_n 3, 1) := by decide +kernel
theorem dX12_isBetter_17 : decode cX12_isBetter 17 = .ok (.iaload, 1) := by decide +kernel
theorem dX12_isBetter_18 : decode cX12_isBetter 18 = .ok (.if_icmp .eq 24, 3) := by decide +kernel
theorem dX12_isBetter_21 : decode cX12_isBetter 21 = .ok (.aload_n 0, 1) := by decide +kernel
theorem dX12_isBetter_22 : decode cX12_isBetter 22 = .ok (.getfield 13, 3) := by decide +kernel
theorem dX12_isBetter_25 : decode cX12_isBetter 25 = .ok (.iload_n 2, 1) := by decide +kernel
theorem dX12_isBetter_26 : decode cX12_isBetter 26 = .ok (.iaload, 1) := by decide +kernel
theorem dX12_isBetter_27 : decode cX12_isBetter 27 = .ok (.aload_n 0, 1) := by decide +kernel
theorem dX12_isBetter_28 : decode cX12_isBetter 28 = .ok (.getfield 13, 3) := by decide +kernel
theorem dX12_isBetter_31 : decode cX12_isBetter 31 = .ok (.iload_n 3, 1) := by decide +kernel
theorem dX12_isBetter_32 : decode cX12_isBetter 32 = .ok (.iaload, 1) := by decide +kernel
theorem dX12_isBetter_33 : decode cX12_isBetter 33 = .ok (.if_icmp .le 7, 3) := by decide +kernel
theorem dX12_isBetter_36 : decode cX12_isBetter 36 = .ok (.iconst 1, 1) := by decide +kernel
theorem dX12_isBetter_37 : decode cX12_isBetter 37 = .ok (.goto 4, 3) := by decide +kernel
theorem dX12_isBetter_40 : decode cX12_isBetter 40 = .ok (.iconst 0, 1) := by decide +kernel
theorem dX12_isBetter_41 : decode cX12_isBetter 41 = .ok (.ireturn, 1) := by decide +kernel
theorem dX12_isBetter_42 : decode cX12_isBetter 42 = .ok (.aload_n 0, 1) := by decide +kernel
theorem dX12_isBetter_43 : decode cX12_isBetter 43 = .ok (.iload_n 1, 1) := by decide +kernel
theorem dX12_isBetter_44 : decode cX12_isBetter 44 = .ok (.iload_n 2, 1) := by decide +kernel
theorem dX12_isBetter_45 : decode cX12_isBetter 45 = .ok (.invokevirtual 172, 3) := by decide +kernel
theorem dX12_isBetter_48 : decode cX12_isBetter 48 = .ok (.aload_n 0, 1) := by decide +kernel
theorem dX12_isBetter_49 : decode cX12_isBetter 49 = .ok (.iload_n 1, 1) := by decide +kernel
theorem dX12_isBetter_50 : decode cX12_isBetter 50 = .ok (.iload_n 3, 1) := by decide +kernel
theorem dX12_isBetter_51 : decode cX12_isBetter 51 = .ok (.invokevirtual 172, 3) := by decide +kernel
theorem dX12_isBetter_54 : decode cX12_isBetter 54 = .ok (.if_icmp .eq 26, 3) := by decide +kernel
theorem dX12_isBetter_57 : decode cX12_isBetter 57 = .ok (.aload_n 0, 1) := by decide +kernel
theorem dX12_isBetter_58 : decode cX12_isBetter 58 = .ok (.iload_n 1, 1) := by decide +kernel
theorem dX12_isBetter_59 : decode cX12_isBetter 59 = .ok (.iload_n 2, 1) := by decide +kernel
theorem dX12_isBetter_60 : decode cX12_isBetter 60 = .ok (.invokevirtual 172, 3) := by decide +kernel
theorem dX12_isBetter_63 : decode cX12_isBetter 63 = .ok (.aload_n 0, 1) := by decide +kernel
theorem dX12_isBetter_64 : decode cX12_isBetter 64 = .ok (.iload_n 1, 1) := by decide +kernel
theorem dX12_isBetter_65 : decode cX12_isBetter 65 = .ok (.iload_n 3, 1) := by decide +kernel
theorem dX12_isBetter_66 : decode cX12_isBetter 66 = .ok (.invokevirtual 172, 3) := by decide +kernel
theorem dX12_isBetter_69 : decode cX12_isBetter 69 = .ok (.if_icmp .ge 7, 3) := by decide +kernel
theorem dX12_isBetter_72 : decode cX12_isBetter 72 = .ok (.iconst 1, 1) := by decide +kernel
theorem dX12_isBetter_73 : decode cX12_isBetter 73 = .ok (.goto 17, 3) := by decide +kernel
theorem dX12_isBetter_76 : decode cX12_isBetter 76 = .ok (.iconst 0, 1) := by decide +kernel
theorem dX12_isBetter_77 : decode cX12_isBetter 77 = .ok (.goto 13, 3) := by decide +kernel
theorem dX12_isBetter_80 : decode cX12_isBetter 80 = .ok (.iload_n 2, 1) := by decide +kernel
theorem dX12_isBetter_81 : decode cX12_isBetter 81 = .ok (.iload_n 3, 1) := by decide +kernel
theorem dX12_isBetter_82 : decode cX12_isBetter 82 = .ok (.if_icmp .ge 7, 3) := by decide +kernel
theorem dX12_isBetter_85 : decode cX12_isBetter 85 = .ok (.iconst 1, 1) := by decide +kernel
theorem dX12_isBetter_86 : decode cX12_isBetter 86 = .ok (.goto 4, 3) := by decide +kernel
theorem dX12_isBetter_89 : decode cX12_isBetter 89 = .ok (.iconst 0, 1) := by decide +kernel
theorem dX12_isBetter_90 : decode cX12_isBetter 90 = .ok (.ireturn, 1) := by decide +kernel
set_option maxRecDepth 20000 in
theorem ggX12_nextOf_X12_columnOf : GoodIn wsX12_nextOf wsX12_columnOf := goodIn_r _ [8, 3, 9, 10, 11, 12, 13, 14, 15, 16, 17, 18, 19, 20, 21, 22, 23, 24, 25, 26, 27, 28, 29, 30, 31, 32, 33, 34, 35, 36, 37, 38, 39, 40, 41, 42, 43, 44, 45, 46, 47, 48, 49, 50, 51, 52, 53, 54, 55, 56, 57, 58, 59, 60, 61, 62, 63, 64, 65, 66, 67, 68, 69, 70] (by decide +kernel) (by decide +kernel)
set_option maxRecDepth 20000 in
theorem gX12_nextOf_X12_columnOf : GoodIn wsX12_nextOf (wsV RX12 168 RX12 yX12_columnOf wsX12_columnOf) := goodIn_app (goodIn_of _ (by decide +kernel)) ggX12_nextOf_X12_columnOf
theorem dX12_nextOf_0 : decode cX12_nextOf 0 = .ok (.aload_n 0, 1) := by decide +kernel
theorem dX12_nextOf_1 : decode cX12_nextOf 1 = .ok (.iload_n 1, 1) := by decide +kernel
theorem dX12_nextOf_2 : decode cX12_nextOf 2 = .ok (.invokevirtual 168, 3) := by decide +kernel
theorem dX12_nextOf_5 : decode cX12_nextOf 5 = .ok (.istore_n 2, 1) := by decide +kernel
theorem dX12_nextOf_6 : decode cX12_nextOf 6 = .ok (.aload_n 0, 1) := by decide +kernel
theorem dX12_nextOf_7 : decode cX12_nextOf 7 = .ok (.getfield 35, 3) := by decide +kernel
theorem dX12_nextOf_10 : decode cX12_nextOf 10 = .ok (.iload_n 1, 1) := by decide +kernel
theorem dX12_nextOf_11 : decode cX12_nextOf 11 = .ok (.iaload, 1) := by decide +kernel
theorem dX12_nextOf_12 : decode cX12_nextOf 12 = .ok (.bipush 8, 2) := by decide +kernel
theorem dX12_nextOf_14 : decode cX12_nextOf 14 = .ok (.irem, 1) := by decide +kernel
theorem dX12_nextOf_15 : decode cX12_nextOf 15 = .ok (.istore_n 3, 1) := by decide +kernel
theorem dX12_nextOf_16 : decode cX12_nextOf 16 = .ok (.iload_n 2, 1) := by decide +kernel
theorem dX12_nextOf_17 : decode cX12_nextOf 17 = .ok (.iload_n 3, 1) := by decide +kernel
theorem dX12_nextOf_18 : decode cX12_nextOf 18 = .ok (.if_icmp .eq 26, 3) := by decide +kernel
theorem dX12_nextOf_21 : decode cX12_nextOf 21 = .ok (.bipush 8, 2) := by decide +kernel
theorem dX12_nextOf_23 : decode cX12_nextOf 23 = .ok (.aload_n 0, 1) := by decide +kernel
theorem dX12_nextOf_24 : decode cX12_nextOf 24 = .ok (.getfield 26, 3) := by decide +kernel
theorem dX12_nextOf_27 : decode cX12_nextOf 27 = .ok (.iload_n 1, 1) := by decide +kernel
theorem dX12_nextOf_28 : decode cX12_nextOf 28 = .ok (.iaload, 1) := by decide +kernel
theorem dX12_nextOf_29 : decode cX12_nextOf 29 = .ok (.imul, 1) := by decide +kernel
theorem dX12_nextOf_30 : decode cX12_nextOf 30 = .ok (.iload_n 2, 1) := by decide +kernel
theorem dX12_nextOf_31 : decode cX12_nextOf 31 = .ok (.iadd, 1) := by decide +kernel
theorem dX12_nextOf_32 : decode cX12_nextOf 32 = .ok (.iload_n 3, 1) := by decide +kernel
theorem dX12_nextOf_33 : decode cX12_nextOf 33 = .ok (.iload_n 2, 1) := by decide +kernel
theorem dX12_nextOf_34 : decode cX12_nextOf 34 = .ok (.if_icmp .le 7, 3) := by decide +kernel
theorem dX12_nextOf_37 : decode cX12_nextOf 37 = .ok (.iconst 1, 1) := by decide +kernel
theorem dX12_nextOf_38 : decode cX12_nextOf 38 = .ok (.goto 4, 3) := by decide +kernel
theorem dX12_nextOf_41 : decode cX12_nextOf 41 = .ok (.iconst (-1), 1) := by decide +kernel
theorem dX12_nextOf_42 : decode cX12_nextOf 42 = .ok (.iadd, 1) := by decide +kernel
theorem dX12_nextOf_43 : decode cX12_nextOf 43 = .ok (.ireturn, 1) := by decide +kernel
theorem dX12_nextOf_44 : decode cX12_nextOf 44 = .ok (.aload_n 0, 1) := by decide +kernel
theorem dX12_nextOf_45 : decode cX12_nextOf 45 = .ok (.getfield 23, 3) := by decide +kernel
theorem dX12_nextOf_48 : decode cX12_nextOf 48 = .ok (.iload_n 1, 1) := by decide +kernel
theorem dX12_nextOf_49 : decode cX12_nextOf 49 = .ok (.iaload, 1) := by decide +kernel
theorem dX12_nextOf_50 : decode cX12_nextOf 50 = .ok (.aload_n 0, 1) := by decide +kernel
theorem dX12_nextOf_51 : decode cX12_nextOf 51 = .ok (.getfield 35, 3) := by decide +kernel
theorem dX12_nextOf_54 : decode cX12_nextOf 54 = .ok (.iload_n 1, 1) := by decide +kernel
theorem dX12_nextOf_55 : decode cX12_nextOf 55 = .ok (.iaload, 1) := by decide +kernel
theorem dX12_nextOf_56 : decode cX12_nextOf 56 = .ok (.bipush 8, 2) := by decide +kernel
theorem dX12_nextOf_58 : decode cX12_nextOf 58 = .ok (.idiv, 1) := by decide +kernel
theorem dX12_nextOf_59 : decode cX12_nextOf 59 = .ok (.aload_n 0, 1) := by decide +kernel
theorem dX12_nextOf_60 : decode cX12_nextOf 60 = .ok (.getfield 26, 3) := by decide +kernel
theorem dX12_nextOf_63 : decode cX12_nextOf 63 = .ok (.iload_n 1, 1) := by decide +kernel
theorem dX12_nextOf_64 : decode cX12_nextOf 64 = .ok (.iaload, 1) := by decide +kernel
theorem dX12_nextOf_65 : decode cX12_nextOf 65 = .ok (.if_icmp .le 8, 3) := by decide +kernel
theorem dX12_nextOf_68 : decode cX12_nextOf 68 = .ok (.bipush 8, 2) := by decide +kernel
theorem dX12_nextOf_70 : decode cX12_nextOf 70 = .ok (.goto 5, 3) := by decide +kernel
theorem dX12_nextOf_73 : decode cX12_nextOf 73 = .ok (.bipush (-8), 2) := by decide +kernel
theorem dX12_nextOf_75 : decode cX12_nextOf 75 = .ok (.iadd, 1) := by decide +kernel
theorem dX12_nextOf_76 : decode cX12_nextOf 76 = .ok (.ireturn, 1) := by decide +kernel
set_option maxRecDepth 20000 in
theorem ggX12_setOut_X12_nextOf : GoodIn wsX12_setOut wsX12_nextOf := goodIn_r _ [9, 10, 11, 12, 13, 14, 15, 8, 16, 17, 18, 19, 20, 21, 22, 23, 24, 25, 26, 27, 28, 29, 30, 31, 32, 33, 34, 35, 36, 37, 38, 39, 40, 41, 42, 43, 44, 45, 46, 47, 48, 49, 50, 51, 52, 53, 54, 55, 56, 57, 58, 59, 60, 61, 62, 63, 64, 65, 66, 67, 68, 69, 70, 71, 72, 73, 74, 75, 76, 77, 78] (by decide +kernel) (by decide +kernel)
set_option maxRecDepth 20000 in
theorem gX12_setOut_X12_nextOf : GoodIn wsX12_setOut (wsV RX12 179 RX12 yX12_nextOf wsX12_nextOf) := goodIn_app (goodIn_of _ (by decide +kernel)) ggX12_setOut_X12_nextOf
theorem dX12_setOut_0 : decode cX12_setOut 0 = .ok (.aload_n 0, 1) := by decide +kernel
theorem dX12_setOut_1 : decode cX12_setOut 1 = .ok (.getfield 38, 3) := by decide +kernel
theorem dX12_setOut_4 : decode cX12_setOut 4 = .ok (.iload_n 1, 1) := by decide +kernel
theorem dX12_setOut_5 : decode cX12_setOut 5 = .ok (.aload_n 0, 1) := by decide +kernel
theorem dX12_setOut_6 : decode cX12_setOut 6 = .ok (.getfield 176, 3) := by decide +kernel
theorem dX12_setOut_9 : decode cX12_setOut 9 = .ok (.aload_n 0, 1) := by decide +kernel
theorem dX12_setOut_10 : decode cX12_setOut 10 = .ok (.getfield 29, 3) := by decide +kernel
theorem dX12_setOut_13 : decode cX12_setOut 13 = .ok (.iload_n 1, 1) := by decide +kernel
theorem dX12_setOut_14 : decode cX12_setOut 14 = .ok (.iaload, 1) := by decide +kernel
theorem dX12_setOut_15 : decode cX12_setOut 15 = .ok (.iconst 1, 1) := by decide +kernel
theorem dX12_setOut_16 : decode cX12_setOut 16 = .ok (.aload_n 0, 1) := by decide +kernel
theorem dX12_setOut_17 : decode cX12_setOut 17 = .ok (.getfield 17, 3) := by decide +kernel
theorem dX12_setOut_20 : decode cX12_setOut 20 = .ok (.aload_n 0, 1) := by decide +kernel
theorem dX12_setOut_21 : decode cX12_setOut 21 = .ok (.iload_n 1, 1) := by decide +kernel
theorem dX12_setOut_22 : decode cX12_setOut 22 = .ok (.invokevirtual 179, 3) := by decide +kernel
theorem dX12_setOut_25 : decode cX12_setOut 25 = .ok (.iaload, 1) := by decide +kernel
theorem dX12_setOut_26 : decode cX12_setOut 26 = .ok (.iadd, 1) := by decide +kernel
theorem dX12_setOut_27 : decode cX12_setOut 27 = .ok (.imul, 1) := by decide +kernel
theorem dX12_setOut_28 : decode cX12_setOut 28 = .ok (.iadd, 1) := by decide +kernel
theorem dX12_setOut_29 : decode cX12_setOut 29 = .ok (.iastore, 1) := by decide +kernel
theorem dX12_setOut_30 : decode cX12_setOut 30 = .ok (.return_, 1) := by decide +kernel
set_option maxRecDepth 20000 in
theorem ggX12_choose_X12_isBetter : GoodIn wsX12_choose wsX12_isBetter := goodIn_r _ [11, 12, 13, 14, 15, 10, 16, 17, 18, 19, 20, 21, 5, 40, 41, 42, 43, 44, 45, 46, 47, 48, 49, 50, 51, 52, 53, 54, 55, 56, 57, 58, 59, 60, 61, 62, 63, 64, 65, 66, 67, 68, 69, 70, 71, 72, 73, 74, 75, 76, 77, 78, 79, 80, 81, 82, 83, 84, 85, 86, 87, 88, 89, 90, 91, 92, 93, 94, 95, 96, 97, 98, 99, 100, 101] (by decide +kernel) (by decide +kernel)
set_option maxRecDepth 20000 in
theorem gX12_choose_X12_isBetter : GoodIn wsX12_choose (wsV RX12 182 RX12 yX12_isBetter wsX12_isBetter) := goodIn_app (goodIn_of _ (by decide +kernel)) ggX12_choose_X12_isBetter
set_option maxRecDepth 20000 in
theorem ggX12_choose_X12_setOut : GoodIn wsX12_choose wsX12_setOut := goodIn_r _ [25, 26, 27, 28, 29, 30, 31, 32, 10, 33, 4, 17, 5, 18, 19, 20, 21, 40, 41, 42, 43, 44, 45, 46, 47, 48, 49, 50, 51, 52, 53, 54, 55, 56, 57, 58, 59, 60, 61, 62, 63, 64, 65, 66, 67, 68, 69, 70, 71, 72, 73, 74, 75, 76, 77, 78, 79, 80, 81, 82, 83, 84, 85, 86, 87, 88, 89, 90, 91, 92, 93, 94, 95, 96, 97, 98, 99, 100, 101] (by decide +kernel) (by decide +kernel)
set_option maxRecDepth 20000 in
theorem gX12_choose_X12_setOut : GoodIn wsX12_choose (wsV RX12 185 RX12 yX12_setOut wsX12_setOut) := goodIn_app (goodIn_of _ (by decide +kernel)) ggX12_choose_X12_setOut
set_option maxRecDepth 20000 in
theorem ggX12_choose_X12_stakes : GoodIn wsX12_choose wsX12_stakes := goodIn_r _ [37, 6, 5, 38, 39, 27, 4, 40, 41, 42, 43, 44, 45, 46, 47, 48, 49, 50, 51, 52, 53, 54, 55, 56, 57, 58, 59, 60, 61, 62, 63, 64, 65, 66, 67, 68, 69, 70, 71, 72, 73, 74, 75, 76, 77, 78, 79, 80, 81, 82, 83, 84, 85, 86, 87, 88, 89, 90, 91, 92, 93, 94, 95, 96, 97, 98, 99, 100, 101] (by decide +kernel) (by decide +kernel)
set_option maxRecDepth 20000 in
theorem gX12_choose_X12_stakes : GoodIn wsX12_choose (wsV RX12 188 RX12 yX12_stakes wsX12_stakes) := goodIn_app (goodIn_of _ (by decide +kernel)) ggX12_choose_X12_stakes
theorem dX12_choose_0 : decode cX12_choose 0 = .ok (.iconst (-1), 1) := by decide +kernel
theorem dX12_choose_1 : decode cX12_choose 1 = .ok (.istore_n 2, 1) := by decide +kernel
theorem dX12_choose_2 : decode cX12_choose 2 = .ok (.iconst 0, 1) := by decide +kernel
theorem dX12_choose_3 : decode cX12_choose 3 = .ok (.istore_n 3, 1) := by decide +kernel
theorem dX12_choose_4 : decode cX12_choose 4 = .ok (.iload_n 3, 1) := by decide +kernel
theorem dX12_choose_5 : decode cX12_choose 5 = .ok (.aload_n 0, 1) := by decide +kernel
theorem dX12_choose_6 : decode cX12_choose 6 = .ok (.getfield 50, 3) := by decide +kernel
theorem dX12_choose_9 : decode cX12_choose 9 = .ok (.iload_n 1, 1) := by decide +kernel
theorem dX12_choose_10 : decode cX12_choose 10 = .ok (.iaload, 1) := by decide +kernel
theorem dX12_choose_11 : decode cX12_choose 11 = .ok (.if_icmp .ge 52, 3) := by decide +kernel
theorem dX12_choose_14 : decode cX12_choose 14 = .ok (.aload_n 0, 1) := by decide +kernel
theorem dX12_choose_15 : decode cX12_choose 15 = .ok (.getfield 47, 3) := by decide +kernel
theorem dX12_choose_18 : decode cX12_choose 18 = .ok (.bipush 12, 2) := by decide +kernel
theorem dX12_choose_20 : decode cX12_choose 20 = .ok (.iload_n 1, 1) := by decide +kernel
theorem dX12_choose_21 : decode cX12_choose 21 = .ok (.imul, 1) := by decide +kernel
theorem dX12_choose_22 : decode cX12_choose 22 = .ok (.iload_n 3, 1) := by decide +kernel
