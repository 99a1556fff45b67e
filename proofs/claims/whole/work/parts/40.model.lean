/-! functions and ties, printed by program (wip/gen/dec.py) -/
theorem dX12_init_0 : decode cX12_init 0 = .ok (.aload_n 0, 1) := by decide +kernel
theorem dX12_init_1 : decode cX12_init 1 = .ok (.invokespecial 3, 3) := by decide +kernel
theorem dX12_init_4 : decode cX12_init 4 = .ok (.aload_n 0, 1) := by decide +kernel
theorem dX12_init_5 : decode cX12_init 5 = .ok (.iconst 4, 1) := by decide +kernel
theorem dX12_init_6 : decode cX12_init 6 = .ok (.newarray .int, 2) := by decide +kernel
theorem dX12_init_8 : decode cX12_init 8 = .ok (.dup, 1) := by decide +kernel
theorem dX12_init_9 : decode cX12_init 9 = .ok (.iconst 0, 1) := by decide +kernel
theorem dX12_init_10 : decode cX12_init 10 = .ok (.iconst (-1), 1) := by decide +kernel
theorem dX12_init_11 : decode cX12_init 11 = .ok (.iastore, 1) := by decide +kernel
theorem dX12_init_12 : decode cX12_init 12 = .ok (.dup, 1) := by decide +kernel
theorem dX12_init_13 : decode cX12_init 13 = .ok (.iconst 1, 1) := by decide +kernel
theorem dX12_init_14 : decode cX12_init 14 = .ok (.iconst (-1), 1) := by decide +kernel
theorem dX12_init_15 : decode cX12_init 15 = .ok (.iastore, 1) := by decide +kernel
theorem dX12_init_16 : decode cX12_init 16 = .ok (.dup, 1) := by decide +kernel
theorem dX12_init_17 : decode cX12_init 17 = .ok (.iconst 2, 1) := by decide +kernel
theorem dX12_init_18 : decode cX12_init 18 = .ok (.iconst (-1), 1) := by decide +kernel
theorem dX12_init_19 : decode cX12_init 19 = .ok (.iastore, 1) := by decide +kernel
theorem dX12_init_20 : decode cX12_init 20 = .ok (.dup, 1) := by decide +kernel
theorem dX12_init_21 : decode cX12_init 21 = .ok (.iconst 3, 1) := by decide +kernel
theorem dX12_init_22 : decode cX12_init 22 = .ok (.iconst (-1), 1) := by decide +kernel
theorem dX12_init_23 : decode cX12_init 23 = .ok (.iastore, 1) := by decide +kernel
theorem dX12_init_24 : decode cX12_init 24 = .ok (.putfield 9, 3) := by decide +kernel
theorem dX12_init_27 : decode cX12_init 27 = .ok (.aload_n 0, 1) := by decide +kernel
theorem dX12_init_28 : decode cX12_init 28 = .ok (.iconst 4, 1) := by decide +kernel
theorem dX12_init_29 : decode cX12_init 29 = .ok (.newarray .int, 2) := by decide +kernel
theorem dX12_init_31 : decode cX12_init 31 = .ok (.putfield 13, 3) := by decide +kernel
theorem dX12_init_34 : decode cX12_init 34 = .ok (.aload_n 0, 1) := by decide +kernel
theorem dX12_init_35 : decode cX12_init 35 = .ok (.sipush 240, 3) := by decide +kernel
theorem dX12_init_38 : decode cX12_init 38 = .ok (.newarray .long, 2) := by decide +kernel
theorem dX12_init_40 : decode cX12_init 40 = .ok (.putfield 16, 3) := by decide +kernel
theorem dX12_init_43 : decode cX12_init 43 = .ok (.aload_n 0, 1) := by decide +kernel
theorem dX12_init_44 : decode cX12_init 44 = .ok (.bipush 60, 2) := by decide +kernel
theorem dX12_init_46 : decode cX12_init 46 = .ok (.newarray .long, 2) := by decide +kernel
theorem dX12_init_48 : decode cX12_init 48 = .ok (.putfield 20, 3) := by decide +kernel
theorem dX12_init_51 : decode cX12_init 51 = .ok (.aload_n 0, 1) := by decide +kernel
theorem dX12_init_52 : decode cX12_init 52 = .ok (.bipush 30, 2) := by decide +kernel
theorem dX12_init_54 : decode cX12_init 54 = .ok (.putfield 23, 3) := by decide +kernel
theorem dX12_init_57 : decode cX12_init 57 = .ok (.aload_n 0, 1) := by decide +kernel
theorem dX12_init_58 : decode cX12_init 58 = .ok (.bipush 60, 2) := by decide +kernel
theorem dX12_init_60 : decode cX12_init 60 = .ok (.putfield 27, 3) := by decide +kernel
theorem dX12_init_63 : decode cX12_init 63 = .ok (.aload_n 0, 1) := by decide +kernel
theorem dX12_init_64 : decode cX12_init 64 = .ok (.sipush 4000, 3) := by decide +kernel
theorem dX12_init_67 : decode cX12_init 67 = .ok (.putfield 30, 3) := by decide +kernel
theorem dX12_init_70 : decode cX12_init 70 = .ok (.aload_n 0, 1) := by decide +kernel
theorem dX12_init_71 : decode cX12_init 71 = .ok (.iconst 3, 1) := by decide +kernel
theorem dX12_init_72 : decode cX12_init 72 = .ok (.putfield 33, 3) := by decide +kernel
theorem dX12_init_75 : decode cX12_init 75 = .ok (.aload_n 0, 1) := by decide +kernel
theorem dX12_init_76 : decode cX12_init 76 = .ok (.bipush 10, 2) := by decide +kernel
theorem dX12_init_78 : decode cX12_init 78 = .ok (.putfield 36, 3) := by decide +kernel
theorem dX12_init_81 : decode cX12_init 81 = .ok (.aload_n 0, 1) := by decide +kernel
theorem dX12_init_82 : decode cX12_init 82 = .ok (.bipush 8, 2) := by decide +kernel
theorem dX12_init_84 : decode cX12_init 84 = .ok (.newarray .int, 2) := by decide +kernel
theorem dX12_init_86 : decode cX12_init 86 = .ok (.putfield 39, 3) := by decide +kernel
theorem dX12_init_89 : decode cX12_init 89 = .ok (.aload_n 0, 1) := by decide +kernel
theorem dX12_init_90 : decode cX12_init 90 = .ok (.bipush 8, 2) := by decide +kernel
theorem dX12_init_92 : decode cX12_init 92 = .ok (.newarray .int, 2) := by decide +kernel
theorem dX12_init_94 : decode cX12_init 94 = .ok (.putfield 42, 3) := by decide +kernel
theorem dX12_init_97 : decode cX12_init 97 = .ok (.aload_n 0, 1) := by decide +kernel
theorem dX12_init_98 : decode cX12_init 98 = .ok (.bipush 8, 2) := by decide +kernel
theorem dX12_init_100 : decode cX12_init 100 = .ok (.newarray .int, 2) := by decide +kernel
theorem dX12_init_102 : decode cX12_init 102 = .ok (.putfield 45, 3) := by decide +kernel
theorem dX12_init_105 : decode cX12_init 105 = .ok (.aload_n 0, 1) := by decide +kernel
theorem dX12_init_106 : decode cX12_init 106 = .ok (.bipush 8, 2) := by decide +kernel
theorem dX12_init_108 : decode cX12_init 108 = .ok (.newarray .int, 2) := by decide +kernel
theorem dX12_init_110 : decode cX12_init 110 = .ok (.putfield 48, 3) := by decide +kernel
theorem dX12_init_113 : decode cX12_init 113 = .ok (.aload_n 0, 1) := by decide +kernel
theorem dX12_init_114 : decode cX12_init 114 = .ok (.bipush 8, 2) := by decide +kernel
theorem dX12_init_116 : decode cX12_init 116 = .ok (.newarray .int, 2) := by decide +kernel
theorem dX12_init_118 : decode cX12_init 118 = .ok (.putfield 51, 3) := by decide +kernel
theorem dX12_init_121 : decode cX12_init 121 = .ok (.aload_n 0, 1) := by decide +kernel
theorem dX12_init_122 : decode cX12_init 122 = .ok (.bipush 8, 2) := by decide +kernel
theorem dX12_init_124 : decode cX12_init 124 = .ok (.newarray .int, 2) := by decide +kernel
theorem dX12_init_126 : decode cX12_init 126 = .ok (.putfield 54, 3) := by decide +kernel
theorem dX12_init_129 : decode cX12_init 129 = .ok (.aload_n 0, 1) := by decide +kernel
theorem dX12_init_130 : decode cX12_init 130 = .ok (.bipush 8, 2) := by decide +kernel
theorem dX12_init_132 : decode cX12_init 132 = .ok (.newarray .boolean, 2) := by decide +kernel
theorem dX12_init_134 : decode cX12_init 134 = .ok (.putfield 57, 3) := by decide +kernel
theorem dX12_init_137 : decode cX12_init 137 = .ok (.aload_n 0, 1) := by decide +kernel
theorem dX12_init_138 : decode cX12_init 138 = .ok (.bipush 12, 2) := by decide +kernel
theorem dX12_init_140 : decode cX12_init 140 = .ok (.newarray .int, 2) := by decide +kernel
theorem dX12_init_142 : decode cX12_init 142 = .ok (.putfield 61, 3) := by decide +kernel
theorem dX12_init_145 : decode cX12_init 145 = .ok (.aload_n 0, 1) := by decide +kernel
theorem dX12_init_146 : decode cX12_init 146 = .ok (.bipush 12, 2) := by decide +kernel
theorem dX12_init_148 : decode cX12_init 148 = .ok (.newarray .int, 2) := by decide +kernel
theorem dX12_init_150 : decode cX12_init 150 = .ok (.putfield 64, 3) := by decide +kernel
theorem dX12_init_153 : decode cX12_init 153 = .ok (.aload_n 0, 1) := by decide +kernel
theorem dX12_init_154 : decode cX12_init 154 = .ok (.bipush 12, 2) := by decide +kernel
theorem dX12_init_156 : decode cX12_init 156 = .ok (.newarray .int, 2) := by decide +kernel
theorem dX12_init_158 : decode cX12_init 158 = .ok (.putfield 67, 3) := by decide +kernel
theorem dX12_init_161 : decode cX12_init 161 = .ok (.aload_n 0, 1) := by decide +kernel
theorem dX12_init_162 : decode cX12_init 162 = .ok (.bipush 12, 2) := by decide +kernel
theorem dX12_init_164 : decode cX12_init 164 = .ok (.newarray .boolean, 2) := by decide +kernel
theorem dX12_init_166 : decode cX12_init 166 = .ok (.putfield 70, 3) := by decide +kernel
theorem dX12_init_169 : decode cX12_init 169 = .ok (.aload_n 0, 1) := by decide +kernel
theorem dX12_init_170 : decode cX12_init 170 = .ok (.sipush 1600, 3) := by decide +kernel
theorem dX12_init_173 : decode cX12_init 173 = .ok (.newarray .int, 2) := by decide +kernel
theorem dX12_init_175 : decode cX12_init 175 = .ok (.putfield 73, 3) := by decide +kernel
theorem dX12_init_178 : decode cX12_init 178 = .ok (.aload_n 0, 1) := by decide +kernel
theorem dX12_init_179 : decode cX12_init 179 = .ok (.bipush 100, 2) := by decide +kernel
theorem dX12_init_181 : decode cX12_init 181 = .ok (.newarray .int, 2) := by decide +kernel
theorem dX12_init_183 : decode cX12_init 183 = .ok (.putfield 76, 3) := by decide +kernel
theorem dX12_init_186 : decode cX12_init 186 = .ok (.aload_n 0, 1) := by decide +kernel
theorem dX12_init_187 : decode cX12_init 187 = .ok (.bipush 100, 2) := by decide +kernel
theorem dX12_init_189 : decode cX12_init 189 = .ok (.newarray .int, 2) := by decide +kernel
theorem dX12_init_191 : decode cX12_init 191 = .ok (.putfield 79, 3) := by decide +kernel
theorem dX12_init_194 : decode cX12_init 194 = .ok (.aload_n 0, 1) := by decide +kernel
theorem dX12_init_195 : decode cX12_init 195 = .ok (.bipush 100, 2) := by decide +kernel
theorem dX12_init_197 : decode cX12_init 197 = .ok (.newarray .int, 2) := by decide +kernel
theorem dX12_init_199 : decode cX12_init 199 = .ok (.putfield 82, 3) := by decide +kernel
theorem dX12_init_202 : decode cX12_init 202 = .ok (.aload_n 0, 1) := by decide +kernel
theorem dX12_init_203 : decode cX12_init 203 = .ok (.bipush 100, 2) := by decide +kernel
theorem dX12_init_205 : decode cX12_init 205 = .ok (.newarray .int, 2) := by decide +kernel
theorem dX12_init_207 : decode cX12_init 207 = .ok (.putfield 85, 3) := by decide +kernel
theorem dX12_init_210 : decode cX12_init 210 = .ok (.aload_n 0, 1) := by decide +kernel
theorem dX12_init_211 : decode cX12_init 211 = .ok (.bipush 100, 2) := by decide +kernel
theorem dX12_init_213 : decode cX12_init 213 = .ok (.newarray .int, 2) := by decide +kernel
theorem dX12_init_215 : decode cX12_init 215 = .ok (.putfield 88, 3) := by decide +kernel
theorem dX12_init_218 : decode cX12_init 218 = .ok (.aload_n 0, 1) := by decide +kernel
theorem dX12_init_219 : decode cX12_init 219 = .ok (.bipush 100, 2) := by decide +kernel
theorem dX12_init_221 : decode cX12_init 221 = .ok (.newarray .int, 2) := by decide +kernel
theorem dX12_init_223 : decode cX12_init 223 = .ok (.putfield 91, 3) := by decide +kernel
theorem dX12_init_226 : decode cX12_init 226 = .ok (.aload_n 0, 1) := by decide +kernel
theorem dX12_init_227 : decode cX12_init 227 = .ok (.bipush 100, 2) := by decide +kernel
theorem dX12_init_229 : decode cX12_init 229 = .ok (.newarray .int, 2) := by decide +kernel
theorem dX12_init_231 : decode cX12_init 231 = .ok (.putfield 94, 3) := by decide +kernel
theorem dX12_init_234 : decode cX12_init 234 = .ok (.aload_n 0, 1) := by decide +kernel
theorem dX12_init_235 : decode cX12_init 235 = .ok (.bipush 100, 2) := by decide +kernel
theorem dX12_init_237 : decode cX12_init 237 = .ok (.newarray .int, 2) := by decide +kernel
theorem dX12_init_239 : decode cX12_init 239 = .ok (.putfield 97, 3) := by decide +kernel
theorem dX12_init_242 : decode cX12_init 242 = .ok (.aload_n 0, 1) := by decide +kernel
theorem dX12_init_243 : decode cX12_init 243 = .ok (.bipush 100, 2) := by decide +kernel
theorem dX12_init_245 : decode cX12_init 245 = .ok (.newarray .int, 2) := by decide +kernel
theorem dX12_init_247 : decode cX12_init 247 = .ok (.putfield 100, 3) := by decide +kernel
theorem dX12_init_250 : decode cX12_init 250 = .ok (.aload_n 0, 1) := by decide +kernel
theorem dX12_init_251 : decode cX12_init 251 = .ok (.bipush 100, 2) := by decide +kernel
theorem dX12_init_253 : decode cX12_init 253 = .ok (.newarray .int, 2) := by decide +kernel
theorem dX12_init_255 : decode cX12_init 255 = .ok (.putfield 103, 3) := by decide +kernel
theorem dX12_init_258 : decode cX12_init 258 = .ok (.aload_n 0, 1) := by decide +kernel
theorem dX12_init_259 : decode cX12_init 259 = .ok (.bipush 100, 2) := by decide +kernel
theorem dX12_init_261 : decode cX12_init 261 = .ok (.newarray .int, 2) := by decide +kernel
theorem dX12_init_263 : decode cX12_init 263 = .ok (.putfield 106, 3) := by decide +kernel
theorem dX12_init_266 : decode cX12_init 266 = .ok (.aload_n 0, 1) := by decide +kernel
theorem dX12_init_267 : decode cX12_init 267 = .ok (.bipush 100, 2) := by decide +kernel
theorem dX12_init_269 : decode cX12_init 269 = .ok (.newarray .boolean, 2) := by decide +kernel
theorem dX12_init_271 : decode cX12_init 271 = .ok (.putfield 109, 3) := by decide +kernel
theorem dX12_init_274 : decode cX12_init 274 = .ok (.aload_n 0, 1) := by decide +kernel
theorem dX12_init_275 : decode cX12_init 275 = .ok (.bipush 100, 2) := by decide +kernel
theorem dX12_init_277 : decode cX12_init 277 = .ok (.newarray .long, 2) := by decide +kernel
theorem dX12_init_279 : decode cX12_init 279 = .ok (.putfield 112, 3) := by decide +kernel
theorem dX12_init_282 : decode cX12_init 282 = .ok (.aload_n 0, 1) := by decide +kernel
theorem dX12_init_283 : decode cX12_init 283 = .ok (.bipush 8, 2) := by decide +kernel
theorem dX12_init_285 : decode cX12_init 285 = .ok (.newarray .int, 2) := by decide +kernel
theorem dX12_init_287 : decode cX12_init 287 = .ok (.putfield 115, 3) := by decide +kernel
theorem dX12_init_290 : decode cX12_init 290 = .ok (.aload_n 0, 1) := by decide +kernel
theorem dX12_init_291 : decode cX12_init 291 = .ok (.bipush 8, 2) := by decide +kernel
theorem dX12_init_293 : decode cX12_init 293 = .ok (.newarray .int, 2) := by decide +kernel
theorem dX12_init_295 : decode cX12_init 295 = .ok (.putfield 118, 3) := by decide +kernel
theorem dX12_init_298 : decode cX12_init 298 = .ok (.aload_n 0, 1) := by decide +kernel
theorem dX12_init_299 : decode cX12_init 299 = .ok (.bipush 8, 2) := by decide +kernel
theorem dX12_init_301 : decode cX12_init 301 = .ok (.newarray .int, 2) := by decide +kernel
theorem dX12_init_303 : decode cX12_init 303 = .ok (.putfield 121, 3) := by decide +kernel
theorem dX12_init_306 : decode cX12_init 306 = .ok (.aload_n 0, 1) := by decide +kernel
theorem dX12_init_307 : decode cX12_init 307 = .ok (.bipush 8, 2) := by decide +kernel
theorem dX12_init_309 : decode cX12_init 309 = .ok (.newarray .int, 2) := by decide +kernel
theorem dX12_init_311 : decode cX12_init 311 = .ok (.putfield 124, 3) := by decide +kernel
theorem dX12_init_314 : decode cX12_init 314 = .ok (.aload_n 0, 1) := by decide +kernel
theorem dX12_init_315 : decode cX12_init 315 = .ok (.bipush 96, 2) := by decide +kernel
theorem dX12_init_317 : decode cX12_init 317 = .ok (.newarray .int, 2) := by decide +kernel
theorem dX12_init_319 : decode cX12_init 319 = .ok (.putfield 127, 3) := by decide +kernel
theorem dX12_init_322 : decode cX12_init 322 = .ok (.aload_n 0, 1) := by decide +kernel
theorem dX12_init_323 : decode cX12_init 323 = .ok (.sipush 2400, 3) := by decide +kernel
theorem dX12_init_326 : decode cX12_init 326 = .ok (.newarray .int, 2) := by decide +kernel
theorem dX12_init_328 : decode cX12_init 328 = .ok (.putfield 130, 3) := by decide +kernel
theorem dX12_init_331 : decode cX12_init 331 = .ok (.aload_n 0, 1) := by decide +kernel
theorem dX12_init_332 : decode cX12_init 332 = .ok (.sipush 2400, 3) := by decide +kernel
theorem dX12_init_335 : decode cX12_init 335 = .ok (.newarray .int, 2) := by decide +kernel
theorem dX12_init_337 : decode cX12_init 337 = .ok (.putfield 133, 3) := by decide +kernel
theorem dX12_init_340 : decode cX12_init 340 = .ok (.aload_n 0, 1) := by decide +kernel
theorem dX12_init_341 : decode cX12_init 341 = .ok (.sipush 2400, 3) := by decide +kernel
theorem dX12_init_344 : decode cX12_init 344 = .ok (.newarray .int, 2) := by decide +kernel
theorem dX12_init_346 : decode cX12_init 346 = .ok (.putfield 136, 3) := by decide +kernel
theorem dX12_init_349 : decode cX12_init 349 = .ok (.aload_n 0, 1) := by decide +kernel
theorem dX12_init_350 : decode cX12_init 350 = .ok (.sipush 2400, 3) := by decide +kernel
theorem dX12_init_353 : decode cX12_init 353 = .ok (.newarray .int, 2) := by decide +kernel
theorem dX12_init_355 : decode cX12_init 355 = .ok (.putfield 139, 3) := by decide +kernel
theorem dX12_init_358 : decode cX12_init 358 = .ok (.aload_n 0, 1) := by decide +kernel
theorem dX12_init_359 : decode cX12_init 359 = .ok (.sipush 2400, 3) := by decide +kernel
theorem dX12_init_362 : decode cX12_init 362 = .ok (.newarray .boolean, 2) := by decide +kernel
theorem dX12_init_364 : decode cX12_init 364 = .ok (.putfield 142, 3) := by decide +kernel
theorem dX12_init_367 : decode cX12_init 367 = .ok (.aload_n 0, 1) := by decide +kernel
theorem dX12_init_368 : decode cX12_init 368 = .ok (.sipush 256, 3) := by decide +kernel
theorem dX12_init_371 : decode cX12_init 371 = .ok (.newarray .int, 2) := by decide +kernel
theorem dX12_init_373 : decode cX12_init 373 = .ok (.putfield 145, 3) := by decide +kernel
theorem dX12_init_376 : decode cX12_init 376 = .ok (.aload_n 0, 1) := by decide +kernel
theorem dX12_init_377 : decode cX12_init 377 = .ok (.sipush 256, 3) := by decide +kernel
theorem dX12_init_380 : decode cX12_init 380 = .ok (.newarray .boolean, 2) := by decide +kernel
theorem dX12_init_382 : decode cX12_init 382 = .ok (.putfield 148, 3) := by decide +kernel
theorem dX12_init_385 : decode cX12_init 385 = .ok (.aload_n 0, 1) := by decide +kernel
theorem dX12_init_386 : decode cX12_init 386 = .ok (.sipush 3328, 3) := by decide +kernel
theorem dX12_init_389 : decode cX12_init 389 = .ok (.newarray .long, 2) := by decide +kernel
theorem dX12_init_391 : decode cX12_init 391 = .ok (.putfield 151, 3) := by decide +kernel
theorem dX12_init_394 : decode cX12_init 394 = .ok (.aload_n 0, 1) := by decide +kernel
theorem dX12_init_395 : decode cX12_init 395 = .ok (.bipush 12, 2) := by decide +kernel
theorem dX12_init_397 : decode cX12_init 397 = .ok (.newarray .int, 2) := by decide +kernel
theorem dX12_init_399 : decode cX12_init 399 = .ok (.putfield 154, 3) := by decide +kernel
theorem dX12_init_402 : decode cX12_init 402 = .ok (.aload_n 0, 1) := by decide +kernel
theorem dX12_init_403 : decode cX12_init 403 = .ok (.bipush 12, 2) := by decide +kernel
theorem dX12_init_405 : decode cX12_init 405 = .ok (.newarray .int, 2) := by decide +kernel
theorem dX12_init_407 : decode cX12_init 407 = .ok (.putfield 157, 3) := by decide +kernel
theorem dX12_init_410 : decode cX12_init 410 = .ok (.aload_n 0, 1) := by decide +kernel
theorem dX12_init_411 : decode cX12_init 411 = .ok (.bipush 12, 2) := by decide +kernel
theorem dX12_init_413 : decode cX12_init 413 = .ok (.newarray .long, 2) := by decide +kernel
theorem dX12_init_415 : decode cX12_init 415 = .ok (.putfield 160, 3) := by decide +kernel
theorem dX12_init_418 : decode cX12_init 418 = .ok (.aload_n 0, 1) := by decide +kernel
theorem dX12_init_419 : decode cX12_init 419 = .ok (.bipush 12, 2) := by decide +kernel
theorem dX12_init_421 : decode cX12_init 421 = .ok (.newarray .int, 2) := by decide +kernel
theorem dX12_init_423 : decode cX12_init 423 = .ok (.putfield 163, 3) := by decide +kernel
theorem dX12_init_426 : decode cX12_init 426 = .ok (.aload_n 0, 1) := by decide +kernel
theorem dX12_init_427 : decode cX12_init 427 = .ok (.bipush 12, 2) := by decide +kernel
theorem dX12_init_429 : decode cX12_init 429 = .ok (.newarray .int, 2) := by decide +kernel
theorem dX12_init_431 : decode cX12_init 431 = .ok (.putfield 166, 3) := by decide +kernel
theorem dX12_init_434 : decode cX12_init 434 = .ok (.aload_n 0, 1) := by decide +kernel
theorem dX12_init_435 : decode cX12_init 435 = .ok (.bipush 12, 2) := by decide +kernel
theorem dX12_init_437 : decode cX12_init 437 = .ok (.newarray .int, 2) := by decide +kernel
theorem dX12_init_439 : decode cX12_init 439 = .ok (.putfield 169, 3) := by decide +kernel
theorem dX12_init_442 : decode cX12_init 442 = .ok (.aload_n 0, 1) := by decide +kernel
theorem dX12_init_443 : decode cX12_init 443 = .ok (.bipush 12, 2) := by decide +kernel
theorem dX12_init_445 : decode cX12_init 445 = .ok (.newarray .int, 2) := by decide +kernel
theorem dX12_init_447 : decode cX12_init 447 = .ok (.putfield 172, 3) := by decide +kernel
theorem dX12_init_450 : decode cX12_init 450 = .ok (.aload_n 0, 1) := by decide +kernel
theorem dX12_init_451 : decode cX12_init 451 = .ok (.bipush 12, 2) := by decide +kernel
theorem dX12_init_453 : decode cX12_init 453 = .ok (.newarray .int, 2) := by decide +kernel
theorem dX12_init_455 : decode cX12_init 455 = .ok (.putfield 175, 3) := by decide +kernel
theorem dX12_init_458 : decode cX12_init 458 = .ok (.aload_n 0, 1) := by decide +kernel
theorem dX12_init_459 : decode cX12_init 459 = .ok (.bipush 12, 2) := by decide +kernel
theorem dX12_init_461 : decode cX12_init 461 = .ok (.newarray .boolean, 2) := by decide +kernel
theorem dX12_init_463 : decode cX12_init 463 = .ok (.putfield 178, 3) := by decide +kernel
theorem dX12_init_466 : decode cX12_init 466 = .ok (.aload_n 0, 1) := by decide +kernel
theorem dX12_init_467 : decode cX12_init 467 = .ok (.sipush 256, 3) := by decide +kernel
theorem dX12_init_470 : decode cX12_init 470 = .ok (.newarray .int, 2) := by decide +kernel
theorem dX12_init_472 : decode cX12_init 472 = .ok (.putfield 181, 3) := by decide +kernel
theorem dX12_init_475 : decode cX12_init 475 = .ok (.aload_n 0, 1) := by decide +kernel
theorem dX12_init_476 : decode cX12_init 476 = .ok (.sipush 256, 3) := by decide +kernel
theorem dX12_init_479 : decode cX12_init 479 = .ok (.newarray .boolean, 2) := by decide +kernel
theorem dX12_init_481 : decode cX12_init 481 = .ok (.putfield 184, 3) := by decide +kernel
theorem dX12_init_484 : decode cX12_init 484 = .ok (.aload_n 0, 1) := by decide +kernel
theorem dX12_init_485 : decode cX12_init 485 = .ok (.sipush 3341, 3) := by decide +kernel
theorem dX12_init_488 : decode cX12_init 488 = .ok (.newarray .long, 2) := by decide +kernel
theorem dX12_init_490 : decode cX12_init 490 = .ok (.putfield 187, 3) := by decide +kernel
theorem dX12_init_493 : decode cX12_init 493 = .ok (.aload_n 0, 1) := by decide +kernel
theorem dX12_init_494 : decode cX12_init 494 = .ok (.bipush 12, 2) := by decide +kernel
theorem dX12_init_496 : decode cX12_init 496 = .ok (.newarray .int, 2) := by decide +kernel
theorem dX12_init_498 : decode cX12_init 498 = .ok (.putfield 190, 3) := by decide +kernel
theorem dX12_init_501 : decode cX12_init 501 = .ok (.aload_n 0, 1) := by decide +kernel
theorem dX12_init_502 : decode cX12_init 502 = .ok (.bipush 12, 2) := by decide +kernel
theorem dX12_init_504 : decode cX12_init 504 = .ok (.newarray .int, 2) := by decide +kernel
theorem dX12_init_506 : decode cX12_init 506 = .ok (.putfield 193, 3) := by decide +kernel
theorem dX12_init_509 : decode cX12_init 509 = .ok (.aload_n 0, 1) := by decide +kernel
theorem dX12_init_510 : decode cX12_init 510 = .ok (.bipush 12, 2) := by decide +kernel
theorem dX12_init_512 : decode cX12_init 512 = .ok (.newarray .boolean, 2) := by decide +kernel
theorem dX12_init_514 : decode cX12_init 514 = .ok (.putfield 196, 3) := by decide +kernel
theorem dX12_init_517 : decode cX12_init 517 = .ok (.aload_n 0, 1) := by decide +kernel
theorem dX12_init_518 : decode cX12_init 518 = .ok (.bipush 12, 2) := by decide +kernel
theorem dX12_init_520 : decode cX12_init 520 = .ok (.newarray .boolean, 2) := by decide +kernel
theorem dX12_init_522 : decode cX12_init 522 = .ok (.putfield 199, 3) := by decide +kernel
theorem dX12_init_525 : decode cX12_init 525 = .ok (.aload_n 0, 1) := by decide +kernel
theorem dX12_init_526 : decode cX12_init 526 = .ok (.bipush 60, 2) := by decide +kernel
theorem dX12_init_528 : decode cX12_init 528 = .ok (.newarray .int, 2) := by decide +kernel
theorem dX12_init_530 : decode cX12_init 530 = .ok (.putfield 202, 3) := by decide +kernel
theorem dX12_init_533 : decode cX12_init 533 = .ok (.aload_n 0, 1) := by decide +kernel
theorem dX12_init_534 : decode cX12_init 534 = .ok (.sipush 256, 3) := by decide +kernel
theorem dX12_init_537 : decode cX12_init 537 = .ok (.newarray .boolean, 2) := by decide +kernel
theorem dX12_init_539 : decode cX12_init 539 = .ok (.putfield 205, 3) := by decide +kernel
theorem dX12_init_542 : decode cX12_init 542 = .ok (.iconst 0, 1) := by decide +kernel
theorem dX12_init_543 : decode cX12_init 543 = .ok (.istore_n 1, 1) := by decide +kernel
theorem dX12_init_544 : decode cX12_init 544 = .ok (.iload_n 1, 1) := by decide +kernel
theorem dX12_init_545 : decode cX12_init 545 = .ok (.aload_n 0, 1) := by decide +kernel
theorem dX12_init_546 : decode cX12_init 546 = .ok (.getfield 73, 3) := by decide +kernel
theorem dX12_init_549 : decode cX12_init 549 = .ok (.arraylength, 1) := by decide +kernel
theorem dX12_init_550 : decode cX12_init 550 = .ok (.if_icmp .ge 16, 3) := by decide +kernel
theorem dX12_init_553 : decode cX12_init 553 = .ok (.aload_n 0, 1) := by decide +kernel
theorem dX12_init_554 : decode cX12_init 554 = .ok (.getfield 73, 3) := by decide +kernel
theorem dX12_init_557 : decode cX12_init 557 = .ok (.iload_n 1, 1) := by decide +kernel
theorem dX12_init_558 : decode cX12_init 558 = .ok (.iconst (-1), 1) := by decide +kernel
theorem dX12_init_559 : decode cX12_init 559 = .ok (.iastore, 1) := by decide +kernel
theorem dX12_init_560 : decode cX12_init 560 = .ok (.iinc 1 1, 3) := by decide +kernel
theorem dX12_init_563 : decode cX12_init 563 = .ok (.goto (-19), 3) := by decide +kernel
theorem dX12_init_566 : decode cX12_init 566 = .ok (.iconst 0, 1) := by decide +kernel
theorem dX12_init_567 : decode cX12_init 567 = .ok (.istore_n 1, 1) := by decide +kernel
theorem dX12_init_568 : decode cX12_init 568 = .ok (.iload_n 1, 1) := by decide +kernel
theorem dX12_init_569 : decode cX12_init 569 = .ok (.aload_n 0, 1) := by decide +kernel
theorem dX12_init_570 : decode cX12_init 570 = .ok (.getfield 130, 3) := by decide +kernel
theorem dX12_init_573 : decode cX12_init 573 = .ok (.arraylength, 1) := by decide +kernel
theorem dX12_init_574 : decode cX12_init 574 = .ok (.if_icmp .ge 16, 3) := by decide +kernel
theorem dX12_init_577 : decode cX12_init 577 = .ok (.aload_n 0, 1) := by decide +kernel
theorem dX12_init_578 : decode cX12_init 578 = .ok (.getfield 130, 3) := by decide +kernel
theorem dX12_init_581 : decode cX12_init 581 = .ok (.iload_n 1, 1) := by decide +kernel
theorem dX12_init_582 : decode cX12_init 582 = .ok (.iconst (-1), 1) := by decide +kernel
theorem dX12_init_583 : decode cX12_init 583 = .ok (.iastore, 1) := by decide +kernel
theorem dX12_init_584 : decode cX12_init 584 = .ok (.iinc 1 1, 3) := by decide +kernel
theorem dX12_init_587 : decode cX12_init 587 = .ok (.goto (-19), 3) := by decide +kernel
theorem dX12_init_590 : decode cX12_init 590 = .ok (.return_, 1) := by decide +kernel
def fX12_init_L544 : Nat → Nat → Int32 → Hp → Option ((Int32) × Hp)
  | 0, _, _, _ => none
  | n + 1, a0, a1, h => lb (gR h 12 a0 29) (fun o190 => mt o190 none (fun z191 => br (((Int32.ofNat 1600)) ≤ a1) (some ((a1), h)) (lb (gR h 12 a0 29) (fun o192 => mt o192 none (fun z193 => gd (ib a1 1600) (lb (sI h 69 z193 (ix a1) (-1)) (fun h195 => lb (a1 + 1) (fun v196 => fX12_init_L544 n a0 v196 h195))))))))
def fX12_init_L568 : Nat → Nat → Int32 → Hp → Option ((Int32) × Hp)
  | 0, _, _, _ => none
  | n + 1, a0, a1, h => lb (gR h 12 a0 48) (fun o200 => mt o200 none (fun z201 => br (((Int32.ofNat 2400)) ≤ a1) (some ((a1), h)) (lb (gR h 12 a0 48) (fun o202 => mt o202 none (fun z203 => gd (ib a1 2400) (lb (sI h 88 z203 (ix a1) (-1)) (fun h205 => lb (a1 + 1) (fun v206 => fX12_init_L568 n a0 v206 h205))))))))
set_option maxRecDepth 100000 in
def fX12_init (a0 : Nat) (h : Hp) : Option (Unit × Hp) := lb (gN h 54) (fun z1 => lb (nw h 54 4) (fun h2 => lb (sI h2 54 z1 (ix 0) (-1)) (fun h3 => lb (sI h3 54 z1 (ix 1) (-1)) (fun h4 => lb (sI h4 54 z1 (ix 2) (-1)) (fun h5 => lb (sI h5 54 z1 (ix 3) (-1)) (fun h6 => lb (sR h6 12 a0 1 (some z1)) (fun h7 => lb (gN h7 55) (fun z8 => lb (nw h7 55 4) (fun h9 => lb (sR h9 12 a0 2 (some z8)) (fun h10 => lb (gN h10 56) (fun z11 => lb (nw h10 56 240) (fun h12 => lb (sR h12 12 a0 3 (some z11)) (fun h13 => lb (gN h13 57) (fun z14 => lb (nw h13 57 60) (fun h15 => lb (sR h15 12 a0 4 (some z14)) (fun h16 => lb (sI h16 12 a0 13 30) (fun h17 => lb (sI h17 12 a0 14 60) (fun h18 => lb (sI h18 12 a0 15 4000) (fun h19 => lb (sI h19 12 a0 16 3) (fun h20 => lb (sI h20 12 a0 17 10) (fun h21 => lb (gN h21 58) (fun z22 => lb (nw h21 58 8) (fun h23 => lb (sR h23 12 a0 18 (some z22)) (fun h24 => lb (gN h24 59) (fun z25 => lb (nw h24 59 8) (fun h26 => lb (sR h26 12 a0 19 (some z25)) (fun h27 => lb (gN h27 60) (fun z28 => lb (nw h27 60 8) (fun h29 => lb (sR h29 12 a0 20 (some z28)) (fun h30 => lb (gN h30 61) (fun z31 => lb (nw h30 61 8) (fun h32 => lb (sR h32 12 a0 21 (some z31)) (fun h33 => lb (gN h33 62) (fun z34 => lb (nw h33 62 8) (fun h35 => lb (sR h35 12 a0 22 (some z34)) (fun h36 => lb (gN h36 63) (fun z37 => lb (nw h36 63 8) (fun h38 => lb (sR h38 12 a0 23 (some z37)) (fun h39 => lb (gN h39 64) (fun z40 => lb (nw h39 64 8) (fun h41 => lb (sR h41 12 a0 24 (some z40)) (fun h42 => lb (gN h42 65) (fun z43 => lb (nw h42 65 12) (fun h44 => lb (sR h44 12 a0 25 (some z43)) (fun h45 => lb (gN h45 66) (fun z46 => lb (nw h45 66 12) (fun h47 => lb (sR h47 12 a0 26 (some z46)) (fun h48 => lb (gN h48 67) (fun z49 => lb (nw h48 67 12) (fun h50 => lb (sR h50 12 a0 27 (some z49)) (fun h51 => lb (gN h51 68) (fun z52 => lb (nw h51 68 12) (fun h53 => lb (sR h53 12 a0 28 (some z52)) (fun h54 => lb (gN h54 69) (fun z55 => lb (nw h54 69 1600) (fun h56 => lb (sR h56 12 a0 29 (some z55)) (fun h57 => lb (gN h57 70) (fun z58 => lb (nw h57 70 100) (fun h59 => lb (sR h59 12 a0 30 (some z58)) (fun h60 => lb (gN h60 71) (fun z61 => lb (nw h60 71 100) (fun h62 => lb (sR h62 12 a0 31 (some z61)) (fun h63 => lb (gN h63 72) (fun z64 => lb (nw h63 72 100) (fun h65 => lb (sR h65 12 a0 32 (some z64)) (fun h66 => lb (gN h66 73) (fun z67 => lb (nw h66 73 100) (fun h68 => lb (sR h68 12 a0 33 (some z67)) (fun h69 => lb (gN h69 74) (fun z70 => lb (nw h69 74 100) (fun h71 => lb (sR h71 12 a0 34 (some z70)) (fun h72 => lb (gN h72 75) (fun z73 => lb (nw h72 75 100) (fun h74 => lb (sR h74 12 a0 35 (some z73)) (fun h75 => lb (gN h75 76) (fun z76 => lb (nw h75 76 100) (fun h77 => lb (sR h77 12 a0 36 (some z76)) (fun h78 => lb (gN h78 77) (fun z79 => lb (nw h78 77 100) (fun h80 => lb (sR h80 12 a0 37 (some z79)) (fun h81 => lb (gN h81 78) (fun z82 => lb (nw h81 78 100) (fun h83 => lb (sR h83 12 a0 38 (some z82)) (fun h84 => lb (gN h84 79) (fun z85 => lb (nw h84 79 100) (fun h86 => lb (sR h86 12 a0 39 (some z85)) (fun h87 => lb (gN h87 80) (fun z88 => lb (nw h87 80 100) (fun h89 => lb (sR h89 12 a0 40 (some z88)) (fun h90 => lb (gN h90 81) (fun z91 => lb (nw h90 81 100) (fun h92 => lb (sR h92 12 a0 41 (some z91)) (fun h93 => lb (gN h93 82) (fun z94 => lb (nw h93 82 100) (fun h95 => lb (sR h95 12 a0 42 (some z94)) (fun h96 => lb (gN h96 83) (fun z97 => lb (nw h96 83 8) (fun h98 => lb (sR h98 12 a0 43 (some z97)) (fun h99 => lb (gN h99 84) (fun z100 => lb (nw h99 84 8) (fun h101 => lb (sR h101 12 a0 44 (some z100)) (fun h102 => lb (gN h102 85) (fun z103 => lb (nw h102 85 8) (fun h104 => lb (sR h104 12 a0 45 (some z103)) (fun h105 => lb (gN h105 86) (fun z106 => lb (nw h105 86 8) (fun h107 => lb (sR h107 12 a0 46 (some z106)) (fun h108 => lb (gN h108 87) (fun z109 => lb (nw h108 87 96) (fun h110 => lb (sR h110 12 a0 47 (some z109)) (fun h111 => lb (gN h111 88) (fun z112 => lb (nw h111 88 2400) (fun h113 => lb (sR h113 12 a0 48 (some z112)) (fun h114 => lb (gN h114 89) (fun z115 => lb (nw h114 89 2400) (fun h116 => lb (sR h116 12 a0 49 (some z115)) (fun h117 => lb (gN h117 90) (fun z118 => lb (nw h117 90 2400) (fun h119 => lb (sR h119 12 a0 50 (some z118)) (fun h120 => lb (gN h120 91) (fun z121 => lb (nw h120 91 2400) (fun h122 => lb (sR h122 12 a0 51 (some z121)) (fun h123 => lb (gN h123 92) (fun z124 => lb (nw h123 92 2400) (fun h125 => lb (sR h125 12 a0 52 (some z124)) (fun h126 => lb (gN h126 93) (fun z127 => lb (nw h126 93 256) (fun h128 => lb (sR h128 12 a0 53 (some z127)) (fun h129 => lb (gN h129 94) (fun z130 => lb (nw h129 94 256) (fun h131 => lb (sR h131 12 a0 54 (some z130)) (fun h132 => lb (gN h132 95) (fun z133 => lb (nw h132 95 3328) (fun h134 => lb (sR h134 12 a0 55 (some z133)) (fun h135 => lb (gN h135 96) (fun z136 => lb (nw h135 96 12) (fun h137 => lb (sR h137 12 a0 57 (some z136)) (fun h138 => lb (gN h138 97) (fun z139 => lb (nw h138 97 12) (fun h140 => lb (sR h140 12 a0 58 (some z139)) (fun h141 => lb (gN h141 98) (fun z142 => lb (nw h141 98 12) (fun h143 => lb (sR h143 12 a0 59 (some z142)) (fun h144 => lb (gN h144 99) (fun z145 => lb (nw h144 99 12) (fun h146 => lb (sR h146 12 a0 62 (some z145)) (fun h147 => lb (gN h147 100) (fun z148 => lb (nw h147 100 12) (fun h149 => lb (sR h149 12 a0 63 (some z148)) (fun h150 => lb (gN h150 101) (fun z151 => lb (nw h150 101 12) (fun h152 => lb (sR h152 12 a0 64 (some z151)) (fun h153 => lb (gN h153 102) (fun z154 => lb (nw h153 102 12) (fun h155 => lb (sR h155 12 a0 65 (some z154)) (fun h156 => lb (gN h156 103) (fun z157 => lb (nw h156 103 12) (fun h158 => lb (sR h158 12 a0 66 (some z157)) (fun h159 => lb (gN h159 104) (fun z160 => lb (nw h159 104 12) (fun h161 => lb (sR h161 12 a0 67 (some z160)) (fun h162 => lb (gN h162 105) (fun z163 => lb (nw h162 105 256) (fun h164 => lb (sR h164 12 a0 68 (some z163)) (fun h165 => lb (gN h165 106) (fun z166 => lb (nw h165 106 256) (fun h167 => lb (sR h167 12 a0 69 (some z166)) (fun h168 => lb (gN h168 107) (fun z169 => lb (nw h168 107 3341) (fun h170 => lb (sR h170 12 a0 70 (some z169)) (fun h171 => lb (gN h171 108) (fun z172 => lb (nw h171 108 12) (fun h173 => lb (sR h173 12 a0 71 (some z172)) (fun h174 => lb (gN h174 109) (fun z175 => lb (nw h174 109 12) (fun h176 => lb (sR h176 12 a0 72 (some z175)) (fun h177 => lb (gN h177 110) (fun z178 => lb (nw h177 110 12) (fun h179 => lb (sR h179 12 a0 73 (some z178)) (fun h180 => lb (gN h180 111) (fun z181 => lb (nw h180 111 12) (fun h182 => lb (sR h182 12 a0 74 (some z181)) (fun h183 => lb (gN h183 112) (fun z184 => lb (nw h183 112 60) (fun h185 => lb (sR h185 12 a0 76 (some z184)) (fun h186 => lb (gN h186 113) (fun z187 => lb (nw h186 113 256) (fun h188 => lb (sR h188 12 a0 78 (some z187)) (fun h189 => bd (fX12_init_L544 FU a0 0 h189) (fun v199 h197 => bd (fX12_init_L568 FU a0 0 h197) (fun v209 h207 => some ((), h207))))))))))))))))))))))))))))))))))))))))))))))))))))))))))))))))))))))))))))))))))))))))))))))))))))))))))))))))))))))))))))))))))))))))))))))))))))))))))))))))))))))))))))))))))))))))))))))))
set_option maxHeartbeats 4000000 in
set_option maxRecDepth 100000 in
theorem tX12_init_L544 {X : Cz} {h0 : Hp} {r : Option AV} {hE : Hp} : ∀ (n : Nat) (a0 : Nat) (a1 : Int32) (h : Hp) (z : (Int32) × Hp), fX12_init_L544 n a0 a1 h = some z → V X mX12_init false h0 566 [(0, zr 12 a0), (1, zi z.1)] [] z.2 r hE → V X mX12_init false h0 544 [(0, zr 12 a0), (1, zi a1)] [] h r hE := by
  intro n
  induction n with
  | zero => intro a0 a1 h z hF k; cases hF
  | succ n ih =>
    intro a0 a1 h z hF k
    rw [fX12_init_L544] at hF
    refine v_iload_n (j := 1) dX12_init_544 rfl ?_
    refine v_aload_n (j := 0) dX12_init_545 rfl ?_
    refine v_getR (c := 12) (k2 := 69) rfl rfl rfl cz12 flX12_73 dX12_init_546 ?_
    refine v_topq fun o190 eo190 => ?_
    replace hF := lb_use eo190 hF
    clear eo190
    replace hF := mt_use hF
    obtain ⟨z191, ez191, hF⟩ := hF
    subst ez191
    refine v_alen rfl dX12_init_549 ?_
    refine v_icmp_ge dX12_init_550 (by decide : _ = ((566 : Nat) : Int)) (fun q => ?_) (fun q => ?_)
    · replace hF := brT q hF
      cases hF
      exact k
    · replace hF := brF q hF
      refine v_aload_n (j := 0) dX12_init_553 rfl ?_
      refine v_getR (c := 12) (k2 := 69) rfl rfl rfl cz12 flX12_73 dX12_init_554 ?_
      refine v_topq fun o192 eo192 => ?_
      replace hF := lb_use eo192 hF
      clear eo192
      refine v_iload_n (j := 1) dX12_init_557 rfl ?_
      refine v_iconst (v := (-1)) dX12_init_558 (by decide) ?_
      replace hF := mt_use hF
      obtain ⟨z193, ez193, hF⟩ := hF
      subst ez193
      replace hF := gd_use hF
      obtain ⟨q194, hF⟩ := hF
      refine v_iast rfl q194 dX12_init_559 ?_
      refine v_toph fun h195 eh195 => ?_
      replace hF := lb_use eh195 hF
      clear eh195
      obtain ⟨v196, ev196⟩ : ∃ y : Int32, y = a1 + 1 := ⟨_, rfl⟩
      replace hF := lb_use ev196 hF
      refine v_iinc (j := 1) (v := v196) (ls' := [(1, zi v196), (0, zr 12 a0)]) dX12_init_560 rfl (by rw [ev196]; rfl) (by decide) rfl ?_
      clear ev196
      refine v_goto (tgt := 544) dX12_init_563 (by decide) ?_
      refine v_sub [1, 0] rfl ?_
      exact ih a0 v196 h195 _ hF k
set_option maxHeartbeats 4000000 in
set_option maxRecDepth 100000 in
theorem tX12_init_L568 {X : Cz} {h0 : Hp} {r : Option AV} {hE : Hp} : ∀ (n : Nat) (a0 : Nat) (a1 : Int32) (h : Hp) (z : (Int32) × Hp), fX12_init_L568 n a0 a1 h = some z → V X mX12_init false h0 590 [(0, zr 12 a0), (1, zi z.1)] [] z.2 r hE → V X mX12_init false h0 568 [(0, zr 12 a0), (1, zi a1)] [] h r hE := by
  intro n
  induction n with
  | zero => intro a0 a1 h z hF k; cases hF
  | succ n ih =>
    intro a0 a1 h z hF k
    rw [fX12_init_L568] at hF
    refine v_iload_n (j := 1) dX12_init_568 rfl ?_
    refine v_aload_n (j := 0) dX12_init_569 rfl ?_
    refine v_getR (c := 12) (k2 := 88) rfl rfl rfl cz12 flX12_130 dX12_init_570 ?_
    refine v_topq fun o200 eo200 => ?_
    replace hF := lb_use eo200 hF
    clear eo200
    replace hF := mt_use hF
    obtain ⟨z201, ez201, hF⟩ := hF
    subst ez201
    refine v_alen rfl dX12_init_573 ?_
    refine v_icmp_ge dX12_init_574 (by decide : _ = ((590 : Nat) : Int)) (fun q => ?_) (fun q => ?_)
    · replace hF := brT q hF
      cases hF
      exact k
    · replace hF := brF q hF
      refine v_aload_n (j := 0) dX12_init_577 rfl ?_
      refine v_getR (c := 12) (k2 := 88) rfl rfl rfl cz12 flX12_130 dX12_init_578 ?_
      refine v_topq fun o202 eo202 => ?_
      replace hF := lb_use eo202 hF
      clear eo202
      refine v_iload_n (j := 1) dX12_init_581 rfl ?_
      refine v_iconst (v := (-1)) dX12_init_582 (by decide) ?_
      replace hF := mt_use hF
      obtain ⟨z203, ez203, hF⟩ := hF
      subst ez203
      replace hF := gd_use hF
      obtain ⟨q204, hF⟩ := hF
      refine v_iast rfl q204 dX12_init_583 ?_
      refine v_toph fun h205 eh205 => ?_
      replace hF := lb_use eh205 hF
      clear eh205
      obtain ⟨v206, ev206⟩ : ∃ y : Int32, y = a1 + 1 := ⟨_, rfl⟩
      replace hF := lb_use ev206 hF
      refine v_iinc (j := 1) (v := v206) (ls' := [(1, zi v206), (0, zr 12 a0)]) dX12_init_584 rfl (by rw [ev206]; rfl) (by decide) rfl ?_
      clear ev206
      refine v_goto (tgt := 568) dX12_init_587 (by decide) ?_
      refine v_sub [1, 0] rfl ?_
      exact ih a0 v206 h205 _ hF k
set_option maxHeartbeats 4000000 in
set_option maxRecDepth 100000 in
theorem tX12_init {X : Cz} {a0 : Nat} {h hE : Hp} {rE : Unit} (hF : fX12_init a0 h = some (rE, hE)) : Ct X mX12_init false [zr 12 a0] h (none) hE := by
  refine Ct_of (by decide) (Nat.le_of_ble_eq_true rfl) (ls := [(0, zr 12 a0)]) rfl ?_
  unfold fX12_init at hF
  refine v_aload_n (j := 0) dX12_init_0 rfl ?_
  refine v_objI mlX12_3 oiI oiC (by decide) (Nat.le_of_ble_eq_true rfl) dX12_init_1 ?_
  refine v_aload_n (j := 0) dX12_init_4 rfl ?_
  refine v_iconst (v := 4) dX12_init_5 (by decide) ?_
  refine v_newa (k := 54) (idx := 0) (at0 := .int) rfl (by decide) rfl ac_int (by decide) (by decide) (by decide) (Or.inl rfl) dX12_init_6 ?_
  refine v_topr fun z1 ez1 => ?_
  replace hF := lb_use ez1 hF
  clear ez1
  refine v_toph fun h2 eh2 => ?_
  replace hF := lb_use eh2 hF
  clear eh2
  refine v_dup dX12_init_8 rfl ?_
  refine v_iconst (v := 0) dX12_init_9 (by decide) ?_
  refine v_iconst (v := (-1)) dX12_init_10 (by decide) ?_
  refine v_iast rfl (by decide) dX12_init_11 ?_
  refine v_toph fun h3 eh3 => ?_
  replace hF := lb_use eh3 hF
  clear eh3
  refine v_dup dX12_init_12 rfl ?_
  refine v_iconst (v := 1) dX12_init_13 (by decide) ?_
  refine v_iconst (v := (-1)) dX12_init_14 (by decide) ?_
  refine v_iast rfl (by decide) dX12_init_15 ?_
  refine v_toph fun h4 eh4 => ?_
  replace hF := lb_use eh4 hF
  clear eh4
  refine v_dup dX12_init_16 rfl ?_
  refine v_iconst (v := 2) dX12_init_17 (by decide) ?_
  refine v_iconst (v := (-1)) dX12_init_18 (by decide) ?_
  refine v_iast rfl (by decide) dX12_init_19 ?_
  refine v_toph fun h5 eh5 => ?_
  replace hF := lb_use eh5 hF
  clear eh5
  refine v_dup dX12_init_20 rfl ?_
  refine v_iconst (v := 3) dX12_init_21 (by decide) ?_
  refine v_iconst (v := (-1)) dX12_init_22 (by decide) ?_
  refine v_iast rfl (by decide) dX12_init_23 ?_
  refine v_toph fun h6 eh6 => ?_
  replace hF := lb_use eh6 hF
  clear eh6
  refine v_putFR (o := some z1) (c := 12) (k2 := 54) rfl rfl (Nat.le_of_ble_eq_true rfl) rfl (Or.inl rfl) cz12 flX12_9 rfl (fun q hq => by cases hq; rfl) dX12_init_24 ?_
  refine v_toph fun h7 eh7 => ?_
  replace hF := lb_use eh7 hF
  clear eh7
  refine v_aload_n (j := 0) dX12_init_27 rfl ?_
  refine v_iconst (v := 4) dX12_init_28 (by decide) ?_
  refine v_newa (k := 55) (idx := 0) (at0 := .int) rfl (by decide) rfl ac_int (by decide) (by decide) (by decide) (Or.inl rfl) dX12_init_29 ?_
  refine v_topr fun z8 ez8 => ?_
  replace hF := lb_use ez8 hF
  clear ez8
  refine v_toph fun h9 eh9 => ?_
  replace hF := lb_use eh9 hF
  clear eh9
  refine v_putFR (o := some z8) (c := 12) (k2 := 55) rfl rfl (Nat.le_of_ble_eq_true rfl) rfl (Or.inl rfl) cz12 flX12_13 rfl (fun q hq => by cases hq; rfl) dX12_init_31 ?_
  refine v_toph fun h10 eh10 => ?_
  replace hF := lb_use eh10 hF
  clear eh10
  refine v_aload_n (j := 0) dX12_init_34 rfl ?_
  refine v_sipush (v := 240) dX12_init_35 (by decide) ?_
  refine v_newa (k := 56) (idx := 0) (at0 := .long) rfl (by decide) rfl ac_long (by decide) (by decide) (by decide) (Or.inl rfl) dX12_init_38 ?_
  refine v_topr fun z11 ez11 => ?_
  replace hF := lb_use ez11 hF
  clear ez11
  refine v_toph fun h12 eh12 => ?_
  replace hF := lb_use eh12 hF
  clear eh12
  refine v_putFR (o := some z11) (c := 12) (k2 := 56) rfl rfl (Nat.le_of_ble_eq_true rfl) rfl (Or.inl rfl) cz12 flX12_16 rfl (fun q hq => by cases hq; rfl) dX12_init_40 ?_
  refine v_toph fun h13 eh13 => ?_
  replace hF := lb_use eh13 hF
  clear eh13
  refine v_aload_n (j := 0) dX12_init_43 rfl ?_
  refine v_bipush (v := 60) dX12_init_44 (by decide) ?_
  refine v_newa (k := 57) (idx := 0) (at0 := .long) rfl (by decide) rfl ac_long (by decide) (by decide) (by decide) (Or.inl rfl) dX12_init_46 ?_
  refine v_topr fun z14 ez14 => ?_
  replace hF := lb_use ez14 hF
  clear ez14
  refine v_toph fun h15 eh15 => ?_
  replace hF := lb_use eh15 hF
  clear eh15
  refine v_putFR (o := some z14) (c := 12) (k2 := 57) rfl rfl (Nat.le_of_ble_eq_true rfl) rfl (Or.inl rfl) cz12 flX12_20 rfl (fun q hq => by cases hq; rfl) dX12_init_48 ?_
  refine v_toph fun h16 eh16 => ?_
  replace hF := lb_use eh16 hF
  clear eh16
  refine v_aload_n (j := 0) dX12_init_51 rfl ?_
  refine v_bipush (v := 30) dX12_init_52 (by decide) ?_
  refine v_putI (c := 12) rfl rfl (Nat.le_of_ble_eq_true rfl) cz12 flX12_23 dX12_init_54 ?_
  refine v_toph fun h17 eh17 => ?_
  replace hF := lb_use eh17 hF
  clear eh17
  refine v_aload_n (j := 0) dX12_init_57 rfl ?_
  refine v_bipush (v := 60) dX12_init_58 (by decide) ?_
  refine v_putI (c := 12) rfl rfl (Nat.le_of_ble_eq_true rfl) cz12 flX12_27 dX12_init_60 ?_
  refine v_toph fun h18 eh18 => ?_
  replace hF := lb_use eh18 hF
  clear eh18
  refine v_aload_n (j := 0) dX12_init_63 rfl ?_
  refine v_sipush (v := 4000) dX12_init_64 (by decide) ?_
  refine v_putI (c := 12) rfl rfl (Nat.le_of_ble_eq_true rfl) cz12 flX12_30 dX12_init_67 ?_
  refine v_toph fun h19 eh19 => ?_
  replace hF := lb_use eh19 hF
  clear eh19
  refine v_aload_n (j := 0) dX12_init_70 rfl ?_
  refine v_iconst (v := 3) dX12_init_71 (by decide) ?_
  refine v_putI (c := 12) rfl rfl (Nat.le_of_ble_eq_true rfl) cz12 flX12_33 dX12_init_72 ?_
  refine v_toph fun h20 eh20 => ?_
  replace hF := lb_use eh20 hF
  clear eh20
  refine v_aload_n (j := 0) dX12_init_75 rfl ?_
  refine v_bipush (v := 10) dX12_init_76 (by decide) ?_
  refine v_putI (c := 12) rfl rfl (Nat.le_of_ble_eq_true rfl) cz12 flX12_36 dX12_init_78 ?_
  refine v_toph fun h21 eh21 => ?_
  replace hF := lb_use eh21 hF
  clear eh21
  refine v_aload_n (j := 0) dX12_init_81 rfl ?_
  refine v_bipush (v := 8) dX12_init_82 (by decide) ?_
  refine v_newa (k := 58) (idx := 0) (at0 := .int) rfl (by decide) rfl ac_int (by decide) (by decide) (by decide) (Or.inl rfl) dX12_init_84 ?_
  refine v_topr fun z22 ez22 => ?_
  replace hF := lb_use ez22 hF
  clear ez22
  refine v_toph fun h23 eh23 => ?_
  replace hF := lb_use eh23 hF
  clear eh23
  refine v_putFR (o := some z22) (c := 12) (k2 := 58) rfl rfl (Nat.le_of_ble_eq_true rfl) rfl (Or.inl rfl) cz12 flX12_39 rfl (fun q hq => by cases hq; rfl) dX12_init_86 ?_
  refine v_toph fun h24 eh24 => ?_
  replace hF := lb_use eh24 hF
  clear eh24
  refine v_aload_n (j := 0) dX12_init_89 rfl ?_
  refine v_bipush (v := 8) dX12_init_90 (by decide) ?_
  refine v_newa (k := 59) (idx := 0) (at0 := .int) rfl (by decide) rfl ac_int (by decide) (by decide) (by decide) (Or.inl rfl) dX12_init_92 ?_
  refine v_topr fun z25 ez25 => ?_
  replace hF := lb_use ez25 hF
  clear ez25
  refine v_toph fun h26 eh26 => ?_
  replace hF := lb_use eh26 hF
  clear eh26
  refine v_putFR (o := some z25) (c := 12) (k2 := 59) rfl rfl (Nat.le_of_ble_eq_true rfl) rfl (Or.inl rfl) cz12 flX12_42 rfl (fun q hq => by cases hq; rfl) dX12_init_94 ?_
  refine v_toph fun h27 eh27 => ?_
  replace hF := lb_use eh27 hF
  clear eh27
  refine v_aload_n (j := 0) dX12_init_97 rfl ?_
  refine v_bipush (v := 8) dX12_init_98 (by decide) ?_
  refine v_newa (k := 60) (idx := 0) (at0 := .int) rfl (by decide) rfl ac_int (by decide) (by decide) (by decide) (Or.inl rfl) dX12_init_100 ?_
  refine v_topr fun z28 ez28 => ?_
  replace hF := lb_use ez28 hF
  clear ez28
  refine v_toph fun h29 eh29 => ?_
  replace hF := lb_use eh29 hF
  clear eh29
  refine v_putFR (o := some z28) (c := 12) (k2 := 60) rfl rfl (Nat.le_of_ble_eq_true rfl) rfl (Or.inl rfl) cz12 flX12_45 rfl (fun q hq => by cases hq; rfl) dX12_init_102 ?_
  refine v_toph fun h30 eh30 => ?_
  replace hF := lb_use eh30 hF
  clear eh30
  refine v_aload_n (j := 0) dX12_init_105 rfl ?_
  refine v_bipush (v := 8) dX12_init_106 (by decide) ?_
  refine v_newa (k := 61) (idx := 0) (at0 := .int) rfl (by decide) rfl ac_int (by decide) (by decide) (by decide) (Or.inl rfl) dX12_init_108 ?_
  refine v_topr fun z31 ez31 => ?_
  replace hF := lb_use ez31 hF
  clear ez31
  refine v_toph fun h32 eh32 => ?_
  replace hF := lb_use eh32 hF
  clear eh32
  refine v_putFR (o := some z31) (c := 12) (k2 := 61) rfl rfl (Nat.le_of_ble_eq_true rfl) rfl (Or.inl rfl) cz12 flX12_48 rfl (fun q hq => by cases hq; rfl) dX12_init_110 ?_
  refine v_toph fun h33 eh33 => ?_
  replace hF := lb_use eh33 hF
  clear eh33
  refine v_aload_n (j := 0) dX12_init_113 rfl ?_
  refine v_bipush (v := 8) dX12_init_114 (by decide) ?_
  refine v_newa (k := 62) (idx := 0) (at0 := .int) rfl (by decide) rfl ac_int (by decide) (by decide) (by decide) (Or.inl rfl) dX12_init_116 ?_
  refine v_topr fun z34 ez34 => ?_
  replace hF := lb_use ez34 hF
  clear ez34
  refine v_toph fun h35 eh35 => ?_
  replace hF := lb_use eh35 hF
  clear eh35
  refine v_putFR (o := some z34) (c := 12) (k2 := 62) rfl rfl (Nat.le_of_ble_eq_true rfl) rfl (Or.inl rfl) cz12 flX12_51 rfl (fun q hq => by cases hq; rfl) dX12_init_118 ?_
  refine v_toph fun h36 eh36 => ?_
  replace hF := lb_use eh36 hF
  clear eh36
  refine v_aload_n (j := 0) dX12_init_121 rfl ?_
  refine v_bipush (v := 8) dX12_init_122 (by decide) ?_
  refine v_newa (k := 63) (idx := 0) (at0 := .int) rfl (by decide) rfl ac_int (by decide) (by decide) (by decide) (Or.inl rfl) dX12_init_124 ?_
  refine v_topr fun z37 ez37 => ?_
  replace hF := lb_use ez37 hF
  clear ez37
  refine v_toph fun h38 eh38 => ?_
  replace hF := lb_use eh38 hF
  clear eh38
  refine v_putFR (o := some z37) (c := 12) (k2 := 63) rfl rfl (Nat.le_of_ble_eq_true rfl) rfl (Or.inl rfl) cz12 flX12_54 rfl (fun q hq => by cases hq; rfl) dX12_init_126 ?_
  refine v_toph fun h39 eh39 => ?_
  replace hF := lb_use eh39 hF
  clear eh39
  refine v_aload_n (j := 0) dX12_init_129 rfl ?_
  refine v_bipush (v := 8) dX12_init_130 (by decide) ?_
  refine v_newa (k := 64) (idx := 0) (at0 := .boolean) rfl (by decide) rfl ac_boolean (by decide) (by decide) (by decide) (Or.inl rfl) dX12_init_132 ?_
  refine v_topr fun z40 ez40 => ?_
  replace hF := lb_use ez40 hF
  clear ez40
  refine v_toph fun h41 eh41 => ?_
  replace hF := lb_use eh41 hF
  clear eh41
  refine v_putFR (o := some z40) (c := 12) (k2 := 64) rfl rfl (Nat.le_of_ble_eq_true rfl) rfl (Or.inl rfl) cz12 flX12_57 rfl (fun q hq => by cases hq; rfl) dX12_init_134 ?_
  refine v_toph fun h42 eh42 => ?_
  replace hF := lb_use eh42 hF
  clear eh42
  refine v_aload_n (j := 0) dX12_init_137 rfl ?_
  refine v_bipush (v := 12) dX12_init_138 (by decide) ?_
  refine v_newa (k := 65) (idx := 0) (at0 := .int) rfl (by decide) rfl ac_int (by decide) (by decide) (by decide) (Or.inl rfl) dX12_init_140 ?_
  refine v_topr fun z43 ez43 => ?_
  replace hF := lb_use ez43 hF
  clear ez43
  refine v_toph fun h44 eh44 => ?_
  replace hF := lb_use eh44 hF
  clear eh44
  refine v_putFR (o := some z43) (c := 12) (k2 := 65) rfl rfl (Nat.le_of_ble_eq_true rfl) rfl (Or.inl rfl) cz12 flX12_61 rfl (fun q hq => by cases hq; rfl) dX12_init_142 ?_
  refine v_toph fun h45 eh45 => ?_
  replace hF := lb_use eh45 hF
  clear eh45
  refine v_aload_n (j := 0) dX12_init_145 rfl ?_
  refine v_bipush (v := 12) dX12_init_146 (by decide) ?_
  refine v_newa (k := 66) (idx := 0) (at0 := .int) rfl (by decide) rfl ac_int (by decide) (by decide) (by decide) (Or.inl rfl) dX12_init_148 ?_
  refine v_topr fun z46 ez46 => ?_
  replace hF := lb_use ez46 hF
  clear ez46
  refine v_toph fun h47 eh47 => ?_
  replace hF := lb_use eh47 hF
  clear eh47
  refine v_putFR (o := some z46) (c := 12) (k2 := 66) rfl rfl (Nat.le_of_ble_eq_true rfl) rfl (Or.inl rfl) cz12 flX12_64 rfl (fun q hq => by cases hq; rfl) dX12_init_150 ?_
  refine v_toph fun h48 eh48 => ?_
  replace hF := lb_use eh48 hF
  clear eh48
  refine v_aload_n (j := 0) dX12_init_153 rfl ?_
  refine v_bipush (v := 12) dX12_init_154 (by decide) ?_
  refine v_newa (k := 67) (idx := 0) (at0 := .int) rfl (by decide) rfl ac_int (by decide) (by decide) (by decide) (Or.inl rfl) dX12_init_156 ?_
  refine v_topr fun z49 ez49 => ?_
  replace hF := lb_use ez49 hF
  clear ez49
  refine v_toph fun h50 eh50 => ?_
  replace hF := lb_use eh50 hF
  clear eh50
  refine v_putFR (o := some z49) (c := 12) (k2 := 67) rfl rfl (Nat.le_of_ble_eq_true rfl) rfl (Or.inl rfl) cz12 flX12_67 rfl (fun q hq => by cases hq; rfl) dX12_init_158 ?_
  refine v_toph fun h51 eh51 => ?_
  replace hF := lb_use eh51 hF
  clear eh51
  refine v_aload_n (j := 0) dX12_init_161 rfl ?_
  refine v_bipush (v := 12) dX12_init_162 (by decide) ?_
  refine v_newa (k := 68) (idx := 0) (at0 := .boolean) rfl (by decide) rfl ac_boolean (by decide) (by decide) (by decide) (Or.inl rfl) dX12_init_164 ?_
  refine v_topr fun z52 ez52 => ?_
  replace hF := lb_use ez52 hF
  clear ez52
  refine v_toph fun h53 eh53 => ?_
  replace hF := lb_use eh53 hF
  clear eh53
  refine v_putFR (o := some z52) (c := 12) (k2 := 68) rfl rfl (Nat.le_of_ble_eq_true rfl) rfl (Or.inl rfl) cz12 flX12_70 rfl (fun q hq => by cases hq; rfl) dX12_init_166 ?_
  refine v_toph fun h54 eh54 => ?_
  replace hF := lb_use eh54 hF
  clear eh54
  refine v_aload_n (j := 0) dX12_init_169 rfl ?_
  refine v_sipush (v := 1600) dX12_init_170 (by decide) ?_
  refine v_newa (k := 69) (idx := 0) (at0 := .int) rfl (by decide) rfl ac_int (by decide) (by decide) (by decide) (Or.inl rfl) dX12_init_173 ?_
  refine v_topr fun z55 ez55 => ?_
  replace hF := lb_use ez55 hF
  clear ez55
  refine v_toph fun h56 eh56 => ?_
  replace hF := lb_use eh56 hF
  clear eh56
  refine v_putFR (o := some z55) (c := 12) (k2 := 69) rfl rfl (Nat.le_of_ble_eq_true rfl) rfl (Or.inl rfl) cz12 flX12_73 rfl (fun q hq => by cases hq; rfl) dX12_init_175 ?_
  refine v_toph fun h57 eh57 => ?_
  replace hF := lb_use eh57 hF
  clear eh57
  refine v_aload_n (j := 0) dX12_init_178 rfl ?_
  refine v_bipush (v := 100) dX12_init_179 (by decide) ?_
  refine v_newa (k := 70) (idx := 0) (at0 := .int) rfl (by decide) rfl ac_int (by decide) (by decide) (by decide) (Or.inl rfl) dX12_init_181 ?_
  refine v_topr fun z58 ez58 => ?_
  replace hF := lb_use ez58 hF
  clear ez58
  refine v_toph fun h59 eh59 => ?_
  replace hF := lb_use eh59 hF
  clear eh59
  refine v_putFR (o := some z58) (c := 12) (k2 := 70) rfl rfl (Nat.le_of_ble_eq_true rfl) rfl (Or.inl rfl) cz12 flX12_76 rfl (fun q hq => by cases hq; rfl) dX12_init_183 ?_
  refine v_toph fun h60 eh60 => ?_
  replace hF := lb_use eh60 hF
  clear eh60
  refine v_aload_n (j := 0) dX12_init_186 rfl ?_
  refine v_bipush (v := 100) dX12_init_187 (by decide) ?_
  refine v_newa (k := 71) (idx := 0) (at0 := .int) rfl (by decide) rfl ac_int (by decide) (by decide) (by decide) (Or.inl rfl) dX12_init_189 ?_
  refine v_topr fun z61 ez61 => ?_
  replace hF := lb_use ez61 hF
  clear ez61
  refine v_toph fun h62 eh62 => ?_
  replace hF := lb_use eh62 hF
  clear eh62
  refine v_putFR (o := some z61) (c := 12) (k2 := 71) rfl rfl (Nat.le_of_ble_eq_true rfl) rfl (Or.inl rfl) cz12 flX12_79 rfl (fun q hq => by cases hq; rfl) dX12_init_191 ?_
  refine v_toph fun h63 eh63 => ?_
  replace hF := lb_use eh63 hF
  clear eh63
  refine v_aload_n (j := 0) dX12_init_194 rfl ?_
  refine v_bipush (v := 100) dX12_init_195 (by decide) ?_
  refine v_newa (k := 72) (idx := 0) (at0 := .int) rfl (by decide) rfl ac_int (by decide) (by decide) (by decide) (Or.inl rfl) dX12_init_197 ?_
  refine v_topr fun z64 ez64 => ?_
  replace hF := lb_use ez64 hF
  clear ez64
  refine v_toph fun h65 eh65 => ?_
  replace hF := lb_use eh65 hF
  clear eh65
  refine v_putFR (o := some z64) (c := 12) (k2 := 72) rfl rfl (Nat.le_of_ble_eq_true rfl) rfl (Or.inl rfl) cz12 flX12_82 rfl (fun q hq => by cases hq; rfl) dX12_init_199 ?_
  refine v_toph fun h66 eh66 => ?_
  replace hF := lb_use eh66 hF
  clear eh66
  refine v_aload_n (j := 0) dX12_init_202 rfl ?_
  refine v_bipush (v := 100) dX12_init_203 (by decide) ?_
  refine v_newa (k := 73) (idx := 0) (at0 := .int) rfl (by decide) rfl ac_int (by decide) (by decide) (by decide) (Or.inl rfl) dX12_init_205 ?_
  refine v_topr fun z67 ez67 => ?_
  replace hF := lb_use ez67 hF
  clear ez67
  refine v_toph fun h68 eh68 => ?_
  replace hF := lb_use eh68 hF
  clear eh68
  refine v_putFR (o := some z67) (c := 12) (k2 := 73) rfl rfl (Nat.le_of_ble_eq_true rfl) rfl (Or.inl rfl) cz12 flX12_85 rfl (fun q hq => by cases hq; rfl) dX12_init_207 ?_
  refine v_toph fun h69 eh69 => ?_
  replace hF := lb_use eh69 hF
  clear eh69
  refine v_aload_n (j := 0) dX12_init_210 rfl ?_
  refine v_bipush (v := 100) dX12_init_211 (by decide) ?_
  refine v_newa (k := 74) (idx := 0) (at0 := .int) rfl (by decide) rfl ac_int (by decide) (by decide) (by decide) (Or.inl rfl) dX12_init_213 ?_
  refine v_topr fun z70 ez70 => ?_
  replace hF := lb_use ez70 hF
  clear ez70
  refine v_toph fun h71 eh71 => ?_
  replace hF := lb_use eh71 hF
  clear eh71
  refine v_putFR (o := some z70) (c := 12) (k2 := 74) rfl rfl (Nat.le_of_ble_eq_true rfl) rfl (Or.inl rfl) cz12 flX12_88 rfl (fun q hq => by cases hq; rfl) dX12_init_215 ?_
  refine v_toph fun h72 eh72 => ?_
  replace hF := lb_use eh72 hF
  clear eh72
  refine v_aload_n (j := 0) dX12_init_218 rfl ?_
  refine v_bipush (v := 100) dX12_init_219 (by decide) ?_
  refine v_newa (k := 75) (idx := 0) (at0 := .int) rfl (by decide) rfl ac_int (by decide) (by decide) (by decide) (Or.inl rfl) dX12_init_221 ?_
  refine v_topr fun z73 ez73 => ?_
  replace hF := lb_use ez73 hF
  clear ez73
  refine v_toph fun h74 eh74 => ?_
  replace hF := lb_use eh74 hF
  clear eh74
  refine v_putFR (o := some z73) (c := 12) (k2 := 75) rfl rfl (Nat.le_of_ble_eq_true rfl) rfl (Or.inl rfl) cz12 flX12_91 rfl (fun q hq => by cases hq; rfl) dX12_init_223 ?_
  refine v_toph fun h75 eh75 => ?_
  replace hF := lb_use eh75 hF
  clear eh75
  refine v_aload_n (j := 0) dX12_init_226 rfl ?_
  refine v_bipush (v := 100) dX12_init_227 (by decide) ?_
  refine v_newa (k := 76) (idx := 0) (at0 := .int) rfl (by decide) rfl ac_int (by decide) (by decide) (by decide) (Or.inl rfl) dX12_init_229 ?_
  refine v_topr fun z76 ez76 => ?_
  replace hF := lb_use ez76 hF
  clear ez76
  refine v_toph fun h77 eh77 => ?_
  replace hF := lb_use eh77 hF
  clear eh77
  refine v_putFR (o := some z76) (c := 12) (k2 := 76) rfl rfl (Nat.le_of_ble_eq_true rfl) rfl (Or.inl rfl) cz12 flX12_94 rfl (fun q hq => by cases hq; rfl) dX12_init_231 ?_
  refine v_toph fun h78 eh78 => ?_
  replace hF := lb_use eh78 hF
  clear eh78
  refine v_aload_n (j := 0) dX12_init_234 rfl ?_
  refine v_bipush (v := 100) dX12_init_235 (by decide) ?_
  refine v_newa (k := 77) (idx := 0) (at0 := .int) rfl (by decide) rfl ac_int (by decide) (by decide) (by decide) (Or.inl rfl) dX12_init_237 ?_
  refine v_topr fun z79 ez79 => ?_
  replace hF := lb_use ez79 hF
  clear ez79
  refine v_toph fun h80 eh80 => ?_
  replace hF := lb_use eh80 hF
  clear eh80
  refine v_putFR (o := some z79) (c := 12) (k2 := 77) rfl rfl (Nat.le_of_ble_eq_true rfl) rfl (Or.inl rfl) cz12 flX12_97 rfl (fun q hq => by cases hq; rfl) dX12_init_239 ?_
  refine v_toph fun h81 eh81 => ?_
  replace hF := lb_use eh81 hF
  clear eh81
  refine v_aload_n (j := 0) dX12_init_242 rfl ?_
  refine v_bipush (v := 100) dX12_init_243 (by decide) ?_
  refine v_newa (k := 78) (idx := 0) (at0 := .int) rfl (by decide) rfl ac_int (by decide) (by decide) (by decide) (Or.inl rfl) dX12_init_245 ?_
  refine v_topr fun z82 ez82 => ?_
  replace hF := lb_use ez82 hF
  clear ez82
  refine v_toph fun h83 eh83 => ?_
  replace hF := lb_use eh83 hF
  clear eh83
  refine v_putFR (o := some z82) (c := 12) (k2 := 78) rfl rfl (Nat.le_of_ble_eq_true rfl) rfl (Or.inl rfl) cz12 flX12_100 rfl (fun q hq => by cases hq; rfl) dX12_init_247 ?_
  refine v_toph fun h84 eh84 => ?_
  replace hF := lb_use eh84 hF
  clear eh84
  refine v_aload_n (j := 0) dX12_init_250 rfl ?_
  refine v_bipush (v := 100) dX12_init_251 (by decide) ?_
  refine v_newa (k := 79) (idx := 0) (at0 := .int) rfl (by decide) rfl ac_int (by decide) (by decide) (by decide) (Or.inl rfl) dX12_init_253 ?_
  refine v_topr fun z85 ez85 => ?_
  replace hF := lb_use ez85 hF
  clear ez85
  refine v_toph fun h86 eh86 => ?_
  replace hF := lb_use eh86 hF
  clear eh86
  refine v_putFR (o := some z85) (c := 12) (k2 := 79) rfl rfl (Nat.le_of_ble_eq_true rfl) rfl (Or.inl rfl) cz12 flX12_103 rfl (fun q hq => by cases hq; rfl) dX12_init_255 ?_
  refine v_toph fun h87 eh87 => ?_
  replace hF := lb_use eh87 hF
  clear eh87
  refine v_aload_n (j := 0) dX12_init_258 rfl ?_
  refine v_bipush (v := 100) dX12_init_259 (by decide) ?_
  refine v_newa (k := 80) (idx := 0) (at0 := .int) rfl (by decide) rfl ac_int (by decide) (by decide) (by decide) (Or.inl rfl) dX12_init_261 ?_
  refine v_topr fun z88 ez88 => ?_
  replace hF := lb_use ez88 hF
  clear ez88
  refine v_toph fun h89 eh89 => ?_
  replace hF := lb_use eh89 hF
  clear eh89
  refine v_putFR (o := some z88) (c := 12) (k2 := 80) rfl rfl (Nat.le_of_ble_eq_true rfl) rfl (Or.inl rfl) cz12 flX12_106 rfl (fun q hq => by cases hq; rfl) dX12_init_263 ?_
  refine v_toph fun h90 eh90 => ?_
  replace hF := lb_use eh90 hF
  clear eh90
  refine v_aload_n (j := 0) dX12_init_266 rfl ?_
  refine v_bipush (v := 100) dX12_init_267 (by decide) ?_
  refine v_newa (k := 81) (idx := 0) (at0 := .boolean) rfl (by decide) rfl ac_boolean (by decide) (by decide) (by decide) (Or.inl rfl) dX12_init_269 ?_
  refine v_topr fun z91 ez91 => ?_
  replace hF := lb_use ez91 hF
  clear ez91
  refine v_toph fun h92 eh92 => ?_
  replace hF := lb_use eh92 hF
  clear eh92
  refine v_putFR (o := some z91) (c := 12) (k2 := 81) rfl rfl (Nat.le_of_ble_eq_true rfl) rfl (Or.inl rfl) cz12 flX12_109 rfl (fun q hq => by cases hq; rfl) dX12_init_271 ?_
  refine v_toph fun h93 eh93 => ?_
  replace hF := lb_use eh93 hF
  clear eh93
  refine v_aload_n (j := 0) dX12_init_274 rfl ?_
  refine v_bipush (v := 100) dX12_init_275 (by decide) ?_
  refine v_newa (k := 82) (idx := 0) (at0 := .long) rfl (by decide) rfl ac_long (by decide) (by decide) (by decide) (Or.inl rfl) dX12_init_277 ?_
  refine v_topr fun z94 ez94 => ?_
  replace hF := lb_use ez94 hF
  clear ez94
  refine v_toph fun h95 eh95 => ?_
  replace hF := lb_use eh95 hF
  clear eh95
  refine v_putFR (o := some z94) (c := 12) (k2 := 82) rfl rfl (Nat.le_of_ble_eq_true rfl) rfl (Or.inl rfl) cz12 flX12_112 rfl (fun q hq => by cases hq; rfl) dX12_init_279 ?_
  refine v_toph fun h96 eh96 => ?_
  replace hF := lb_use eh96 hF
  clear eh96
  refine v_aload_n (j := 0) dX12_init_282 rfl ?_
  refine v_bipush (v := 8) dX12_init_283 (by decide) ?_
  refine v_newa (k := 83) (idx := 0) (at0 := .int) rfl (by decide) rfl ac_int (by decide) (by decide) (by decide) (Or.inl rfl) dX12_init_285 ?_
  refine v_topr fun z97 ez97 => ?_
  replace hF := lb_use ez97 hF
  clear ez97
  refine v_toph fun h98 eh98 => ?_
  replace hF := lb_use eh98 hF
  clear eh98
  refine v_putFR (o := some z97) (c := 12) (k2 := 83) rfl rfl (Nat.le_of_ble_eq_true rfl) rfl (Or.inl rfl) cz12 flX12_115 rfl (fun q hq => by cases hq; rfl) dX12_init_287 ?_
  refine v_toph fun h99 eh99 => ?_
  replace hF := lb_use eh99 hF
  clear eh99
  refine v_aload_n (j := 0) dX12_init_290 rfl ?_
  refine v_bipush (v := 8) dX12_init_291 (by decide) ?_
  refine v_newa (k := 84) (idx := 0) (at0 := .int) rfl (by decide) rfl ac_int (by decide) (by decide) (by decide) (Or.inl rfl) dX12_init_293 ?_
  refine v_topr fun z100 ez100 => ?_
  replace hF := lb_use ez100 hF
  clear ez100
  refine v_toph fun h101 eh101 => ?_
  replace hF := lb_use eh101 hF
  clear eh101
  refine v_putFR (o := some z100) (c := 12) (k2 := 84) rfl rfl (Nat.le_of_ble_eq_true rfl) rfl (Or.inl rfl) cz12 flX12_118 rfl (fun q hq => by cases hq; rfl) dX12_init_295 ?_
  refine v_toph fun h102 eh102 => ?_
  replace hF := lb_use eh102 hF
  clear eh102
  refine v_aload_n (j := 0) dX12_init_298 rfl ?_
  refine v_bipush (v := 8) dX12_init_299 (by decide) ?_
  refine v_newa (k := 85) (idx := 0) (at0 := .int) rfl (by decide) rfl ac_int (by decide) (by decide) (by decide) (Or.inl rfl) dX12_init_301 ?_
  refine v_topr fun z103 ez103 => ?_
  replace hF := lb_use ez103 hF
  clear ez103
  refine v_toph fun h104 eh104 => ?_
  replace hF := lb_use eh104 hF
  clear eh104
  refine v_putFR (o := some z103) (c := 12) (k2 := 85) rfl rfl (Nat.le_of_ble_eq_true rfl) rfl (Or.inl rfl) cz12 flX12_121 rfl (fun q hq => by cases hq; rfl) dX12_init_303 ?_
  refine v_toph fun h105 eh105 => ?_
  replace hF := lb_use eh105 hF
  clear eh105
  refine v_aload_n (j := 0) dX12_init_306 rfl ?_
  refine v_bipush (v := 8) dX12_init_307 (by decide) ?_
  refine v_newa (k := 86) (idx := 0) (at0 := .int) rfl (by decide) rfl ac_int (by decide) (by decide) (by decide) (Or.inl rfl) dX12_init_309 ?_
  refine v_topr fun z106 ez106 => ?_
  replace hF := lb_use ez106 hF
  clear ez106
  refine v_toph fun h107 eh107 => ?_
  replace hF := lb_use eh107 hF
  clear eh107
  refine v_putFR (o := some z106) (c := 12) (k2 := 86) rfl rfl (Nat.le_of_ble_eq_true rfl) rfl (Or.inl rfl) cz12 flX12_124 rfl (fun q hq => by cases hq; rfl) dX12_init_311 ?_
  refine v_toph fun h108 eh108 => ?_
  replace hF := lb_use eh108 hF
  clear eh108
  refine v_aload_n (j := 0) dX12_init_314 rfl ?_
  refine v_bipush (v := 96) dX12_init_315 (by decide) ?_
  refine v_newa (k := 87) (idx := 0) (at0 := .int) rfl (by decide) rfl ac_int (by decide) (by decide) (by decide) (Or.inl rfl) dX12_init_317 ?_
  refine v_topr fun z109 ez109 => ?_
  replace hF := lb_use ez109 hF
  clear ez109
  refine v_toph fun h110 eh110 => ?_
  replace hF := lb_use eh110 hF
  clear eh110
  refine v_putFR (o := some z109) (c := 12) (k2 := 87) rfl rfl (Nat.le_of_ble_eq_true rfl) rfl (Or.inl rfl) cz12 flX12_127 rfl (fun q hq => by cases hq; rfl) dX12_init_319 ?_
  refine v_toph fun h111 eh111 => ?_
  replace hF := lb_use eh111 hF
  clear eh111
  refine v_aload_n (j := 0) dX12_init_322 rfl ?_
  refine v_sipush (v := 2400) dX12_init_323 (by decide) ?_
  refine v_newa (k := 88) (idx := 0) (at0 := .int) rfl (by decide) rfl ac_int (by decide) (by decide) (by decide) (Or.inl rfl) dX12_init_326 ?_
  refine v_topr fun z112 ez112 => ?_
  replace hF := lb_use ez112 hF
  clear ez112
  refine v_toph fun h113 eh113 => ?_
  replace hF := lb_use eh113 hF
  clear eh113
  refine v_putFR (o := some z112) (c := 12) (k2 := 88) rfl rfl (Nat.le_of_ble_eq_true rfl) rfl (Or.inl rfl) cz12 flX12_130 rfl (fun q hq => by cases hq; rfl) dX12_init_328 ?_
  refine v_toph fun h114 eh114 => ?_
  replace hF := lb_use eh114 hF
  clear eh114
  refine v_aload_n (j := 0) dX12_init_331 rfl ?_
  refine v_sipush (v := 2400) dX12_init_332 (by decide) ?_
  refine v_newa (k := 89) (idx := 0) (at0 := .int) rfl (by decide) rfl ac_int (by decide) (by decide) (by decide) (Or.inl rfl) dX12_init_335 ?_
  refine v_topr fun z115 ez115 => ?_
  replace hF := lb_use ez115 hF
  clear ez115
  refine v_toph fun h116 eh116 => ?_
  replace hF := lb_use eh116 hF
  clear eh116
  refine v_putFR (o := some z115) (c := 12) (k2 := 89) rfl rfl (Nat.le_of_ble_eq_true rfl) rfl (Or.inl rfl) cz12 flX12_133 rfl (fun q hq => by cases hq; rfl) dX12_init_337 ?_
  refine v_toph fun h117 eh117 => ?_
  replace hF := lb_use eh117 hF
  clear eh117
  refine v_aload_n (j := 0) dX12_init_340 rfl ?_
  refine v_sipush (v := 2400) dX12_init_341 (by decide) ?_
  refine v_newa (k := 90) (idx := 0) (at0 := .int) rfl (by decide) rfl ac_int (by decide) (by decide) (by decide) (Or.inl rfl) dX12_init_344 ?_
  refine v_topr fun z118 ez118 => ?_
  replace hF := lb_use ez118 hF
  clear ez118
  refine v_toph fun h119 eh119 => ?_
  replace hF := lb_use eh119 hF
  clear eh119
  refine v_putFR (o := some z118) (c := 12) (k2 := 90) rfl rfl (Nat.le_of_ble_eq_true rfl) rfl (Or.inl rfl) cz12 flX12_136 rfl (fun q hq => by cases hq; rfl) dX12_init_346 ?_
  refine v_toph fun h120 eh120 => ?_
  replace hF := lb_use eh120 hF
  clear eh120
  refine v_aload_n (j := 0) dX12_init_349 rfl ?_
  refine v_sipush (v := 2400) dX12_init_350 (by decide) ?_
  refine v_newa (k := 91) (idx := 0) (at0 := .int) rfl (by decide) rfl ac_int (by decide) (by decide) (by decide) (Or.inl rfl) dX12_init_353 ?_
  refine v_topr fun z121 ez121 => ?_
  replace hF := lb_use ez121 hF
  clear ez121
  refine v_toph fun h122 eh122 => ?_
  replace hF := lb_use eh122 hF
  clear eh122
  refine v_putFR (o := some z121) (c := 12) (k2 := 91) rfl rfl (Nat.le_of_ble_eq_true rfl) rfl (Or.inl rfl) cz12 flX12_139 rfl (fun q hq => by cases hq; rfl) dX12_init_355 ?_
  refine v_toph fun h123 eh123 => ?_
  replace hF := lb_use eh123 hF
  clear eh123
  refine v_aload_n (j := 0) dX12_init_358 rfl ?_
  refine v_sipush (v := 2400) dX12_init_359 (by decide) ?_
  refine v_newa (k := 92) (idx := 0) (at0 := .boolean) rfl (by decide) rfl ac_boolean (by decide) (by decide) (by decide) (Or.inl rfl) dX12_init_362 ?_
  refine v_topr fun z124 ez124 => ?_
  replace hF := lb_use ez124 hF
  clear ez124
  refine v_toph fun h125 eh125 => ?_
  replace hF := lb_use eh125 hF
  clear eh125
  refine v_putFR (o := some z124) (c := 12) (k2 := 92) rfl rfl (Nat.le_of_ble_eq_true rfl) rfl (Or.inl rfl) cz12 flX12_142 rfl (fun q hq => by cases hq; rfl) dX12_init_364 ?_
  refine v_toph fun h126 eh126 => ?_
  replace hF := lb_use eh126 hF
  clear eh126
  refine v_aload_n (j := 0) dX12_init_367 rfl ?_
  refine v_sipush (v := 256) dX12_init_368 (by decide) ?_
  refine v_newa (k := 93) (idx := 0) (at0 := .int) rfl (by decide) rfl ac_int (by decide) (by decide) (by decide) (Or.inl rfl) dX12_init_371 ?_
  refine v_topr fun z127 ez127 => ?_
  replace hF := lb_use ez127 hF
  clear ez127
  refine v_toph fun h128 eh128 => ?_
  replace hF := lb_use eh128 hF
  clear eh128
  refine v_putFR (o := some z127) (c := 12) (k2 := 93) rfl rfl (Nat.le_of_ble_eq_true rfl) rfl (Or.inl rfl) cz12 flX12_145 rfl (fun q hq => by cases hq; rfl) dX12_init_373 ?_
  refine v_toph fun h129 eh129 => ?_
  replace hF := lb_use eh129 hF
  clear eh129
  refine v_aload_n (j := 0) dX12_init_376 rfl ?_
  refine v_sipush (v := 256) dX12_init_377 (by decide) ?_
  refine v_newa (k := 94) (idx := 0) (at0 := .boolean) rfl (by decide) rfl ac_boolean (by decide) (by decide) (by decide) (Or.inl rfl) dX12_init_380 ?_
  refine v_topr fun z130 ez130 => ?_
  replace hF := lb_use ez130 hF
  clear ez130
  refine v_toph fun h131 eh131 => ?_
  replace hF := lb_use eh131 hF
  clear eh131
  refine v_putFR (o := some z130) (c := 12) (k2 := 94) rfl rfl (Nat.le_of_ble_eq_true rfl) rfl (Or.inl rfl) cz12 flX12_148 rfl (fun q hq => by cases hq; rfl) dX12_init_382 ?_
  refine v_toph fun h132 eh132 => ?_
  replace hF := lb_use eh132 hF
  clear eh132
  refine v_aload_n (j := 0) dX12_init_385 rfl ?_
  refine v_sipush (v := 3328) dX12_init_386 (by decide) ?_
  refine v_newa (k := 95) (idx := 0) (at0 := .long) rfl (by decide) rfl ac_long (by decide) (by decide) (by decide) (Or.inl rfl) dX12_init_389 ?_
  refine v_topr fun z133 ez133 => ?_
  replace hF := lb_use ez133 hF
  clear ez133
  refine v_toph fun h134 eh134 => ?_
  replace hF := lb_use eh134 hF
  clear eh134
  refine v_putFR (o := some z133) (c := 12) (k2 := 95) rfl rfl (Nat.le_of_ble_eq_true rfl) rfl (Or.inl rfl) cz12 flX12_151 rfl (fun q hq => by cases hq; rfl) dX12_init_391 ?_
  refine v_toph fun h135 eh135 => ?_
  replace hF := lb_use eh135 hF
  clear eh135
  refine v_aload_n (j := 0) dX12_init_394 rfl ?_
  refine v_bipush (v := 12) dX12_init_395 (by decide) ?_
  refine v_newa (k := 96) (idx := 0) (at0 := .int) rfl (by decide) rfl ac_int (by decide) (by decide) (by decide) (Or.inl rfl) dX12_init_397 ?_
  refine v_topr fun z136 ez136 => ?_
  replace hF := lb_use ez136 hF
  clear ez136
  refine v_toph fun h137 eh137 => ?_
  replace hF := lb_use eh137 hF
  clear eh137
  refine v_putFR (o := some z136) (c := 12) (k2 := 96) rfl rfl (Nat.le_of_ble_eq_true rfl) rfl (Or.inl rfl) cz12 flX12_154 rfl (fun q hq => by cases hq; rfl) dX12_init_399 ?_
  refine v_toph fun h138 eh138 => ?_
  replace hF := lb_use eh138 hF
  clear eh138
  refine v_aload_n (j := 0) dX12_init_402 rfl ?_
  refine v_bipush (v := 12) dX12_init_403 (by decide) ?_
  refine v_newa (k := 97) (idx := 0) (at0 := .int) rfl (by decide) rfl ac_int (by decide) (by decide) (by decide) (Or.inl rfl) dX12_init_405 ?_
  refine v_topr fun z139 ez139 => ?_
  replace hF := lb_use ez139 hF
  clear ez139
  refine v_toph fun h140 eh140 => ?_
  replace hF := lb_use eh140 hF
  clear eh140
  refine v_putFR (o := some z139) (c := 12) (k2 := 97) rfl rfl (Nat.le_of_ble_eq_true rfl) rfl (Or.inl rfl) cz12 flX12_157 rfl (fun q hq => by cases hq; rfl) dX12_init_407 ?_
  refine v_toph fun h141 eh141 => ?_
  replace hF := lb_use eh141 hF
  clear eh141
  refine v_aload_n (j := 0) dX12_init_410 rfl ?_
  refine v_bipush (v := 12) dX12_init_411 (by decide) ?_
  refine v_newa (k := 98) (idx := 0) (at0 := .long) rfl (by decide) rfl ac_long (by decide) (by decide) (by decide) (Or.inl rfl) dX12_init_413 ?_
  refine v_topr fun z142 ez142 => ?_
  replace hF := lb_use ez142 hF
  clear ez142
  refine v_toph fun h143 eh143 => ?_
  replace hF := lb_use eh143 hF
  clear eh143
  refine v_putFR (o := some z142) (c := 12) (k2 := 98) rfl rfl (Nat.le_of_ble_eq_true rfl) rfl (Or.inl rfl) cz12 flX12_160 rfl (fun q hq => by cases hq; rfl) dX12_init_415 ?_
  refine v_toph fun h144 eh144 => ?_
  replace hF := lb_use eh144 hF
  clear eh144
  refine v_aload_n (j := 0) dX12_init_418 rfl ?_
  refine v_bipush (v := 12) dX12_init_419 (by decide) ?_
  refine v_newa (k := 99) (idx := 0) (at0 := .int) rfl (by decide) rfl ac_int (by decide) (by decide) (by decide) (Or.inl rfl) dX12_init_421 ?_
  refine v_topr fun z145 ez145 => ?_
  replace hF := lb_use ez145 hF
  clear ez145
  refine v_toph fun h146 eh146 => ?_
  replace hF := lb_use eh146 hF
  clear eh146
  refine v_putFR (o := some z145) (c := 12) (k2 := 99) rfl rfl (Nat.le_of_ble_eq_true rfl) rfl (Or.inl rfl) cz12 flX12_163 rfl (fun q hq => by cases hq; rfl) dX12_init_423 ?_
  refine v_toph fun h147 eh147 => ?_
  replace hF := lb_use eh147 hF
  clear eh147
  refine v_aload_n (j := 0) dX12_init_426 rfl ?_
  refine v_bipush (v := 12) dX12_init_427 (by decide) ?_
  refine v_newa (k := 100) (idx := 0) (at0 := .int) rfl (by decide) rfl ac_int (by decide) (by decide) (by decide) (Or.inl rfl) dX12_init_429 ?_
  refine v_topr fun z148 ez148 => ?_
  replace hF := lb_use ez148 hF
  clear ez148
  refine v_toph fun h149 eh149 => ?_
  replace hF := lb_use eh149 hF
  clear eh149
  refine v_putFR (o := some z148) (c := 12) (k2 := 100) rfl rfl (Nat.le_of_ble_eq_true rfl) rfl (Or.inl rfl) cz12 flX12_166 rfl (fun q hq => by cases hq; rfl) dX12_init_431 ?_
  refine v_toph fun h150 eh150 => ?_
  replace hF := lb_use eh150 hF
  clear eh150
  refine v_aload_n (j := 0) dX12_init_434 rfl ?_
  refine v_bipush (v := 12) dX12_init_435 (by decide) ?_
  refine v_newa (k := 101) (idx := 0) (at0 := .int) rfl (by decide) rfl ac_int (by decide) (by decide) (by decide) (Or.inl rfl) dX12_init_437 ?_
  refine v_topr fun z151 ez151 => ?_
  replace hF := lb_use ez151 hF
  clear ez151
  refine v_toph fun h152 eh152 => ?_
  replace hF := lb_use eh152 hF
  clear eh152
  refine v_putFR (o := some z151) (c := 12) (k2 := 101) rfl rfl (Nat.le_of_ble_eq_true rfl) rfl (Or.inl rfl) cz12 flX12_169 rfl (fun q hq => by cases hq; rfl) dX12_init_439 ?_
  refine v_toph fun h153 eh153 => ?_
  replace hF := lb_use eh153 hF
  clear eh153
  refine v_aload_n (j := 0) dX12_init_442 rfl ?_
  refine v_bipush (v := 12) dX12_init_443 (by decide) ?_
  refine v_newa (k := 102) (idx := 0) (at0 := .int) rfl (by decide) rfl ac_int (by decide) (by decide) (by decide) (Or.inl rfl) dX12_init_445 ?_
  refine v_topr fun z154 ez154 => ?_
  replace hF := lb_use ez154 hF
  clear ez154
  refine v_toph fun h155 eh155 => ?_
  replace hF := lb_use eh155 hF
  clear eh155
  refine v_putFR (o := some z154) (c := 12) (k2 := 102) rfl rfl (Nat.le_of_ble_eq_true rfl) rfl (Or.inl rfl) cz12 flX12_172 rfl (fun q hq => by cases hq; rfl) dX12_init_447 ?_
  refine v_toph fun h156 eh156 => ?_
  replace hF := lb_use eh156 hF
  clear eh156
  refine v_aload_n (j := 0) dX12_init_450 rfl ?_
  refine v_bipush (v := 12) dX12_init_451 (by decide) ?_
  refine v_newa (k := 103) (idx := 0) (at0 := .int) rfl (by decide) rfl ac_int (by decide) (by decide) (by decide) (Or.inl rfl) dX12_init_453 ?_
  refine v_topr fun z157 ez157 => ?_
  replace hF := lb_use ez157 hF
  clear ez157
  refine v_toph fun h158 eh158 => ?_
  replace hF := lb_use eh158 hF
  clear eh158
  refine v_putFR (o := some z157) (c := 12) (k2 := 103) rfl rfl (Nat.le_of_ble_eq_true rfl) rfl (Or.inl rfl) cz12 flX12_175 rfl (fun q hq => by cases hq; rfl) dX12_init_455 ?_
  refine v_toph fun h159 eh159 => ?_
  replace hF := lb_use eh159 hF
  clear eh159
  refine v_aload_n (j := 0) dX12_init_458 rfl ?_
  refine v_bipush (v := 12) dX12_init_459 (by decide) ?_
  refine v_newa (k := 104) (idx := 0) (at0 := .boolean) rfl (by decide) rfl ac_boolean (by decide) (by decide) (by decide) (Or.inl rfl) dX12_init_461 ?_
  refine v_topr fun z160 ez160 => ?_
  replace hF := lb_use ez160 hF
  clear ez160
  refine v_toph fun h161 eh161 => ?_
  replace hF := lb_use eh161 hF
  clear eh161
  refine v_putFR (o := some z160) (c := 12) (k2 := 104) rfl rfl (Nat.le_of_ble_eq_true rfl) rfl (Or.inl rfl) cz12 flX12_178 rfl (fun q hq => by cases hq; rfl) dX12_init_463 ?_
  refine v_toph fun h162 eh162 => ?_
  replace hF := lb_use eh162 hF
  clear eh162
  refine v_aload_n (j := 0) dX12_init_466 rfl ?_
  refine v_sipush (v := 256) dX12_init_467 (by decide) ?_
  refine v_newa (k := 105) (idx := 0) (at0 := .int) rfl (by decide) rfl ac_int (by decide) (by decide) (by decide) (Or.inl rfl) dX12_init_470 ?_
  refine v_topr fun z163 ez163 => ?_
  replace hF := lb_use ez163 hF
  clear ez163
  refine v_toph fun h164 eh164 => ?_
  replace hF := lb_use eh164 hF
  clear eh164
  refine v_putFR (o := some z163) (c := 12) (k2 := 105) rfl rfl (Nat.le_of_ble_eq_true rfl) rfl (Or.inl rfl) cz12 flX12_181 rfl (fun q hq => by cases hq; rfl) dX12_init_472 ?_
  refine v_toph fun h165 eh165 => ?_
  replace hF := lb_use eh165 hF
  clear eh165
  refine v_aload_n (j := 0) dX12_init_475 rfl ?_
  refine v_sipush (v := 256) dX12_init_476 (by decide) ?_
  refine v_newa (k := 106) (idx := 0) (at0 := .boolean) rfl (by decide) rfl ac_boolean (by decide) (by decide) (by decide) (Or.inl rfl) dX12_init_479 ?_
  refine v_topr fun z166 ez166 => ?_
  replace hF := lb_use ez166 hF
  clear ez166
  refine v_toph fun h167 eh167 => ?_
  replace hF := lb_use eh167 hF
  clear eh167
  refine v_putFR (o := some z166) (c := 12) (k2 := 106) rfl rfl (Nat.le_of_ble_eq_true rfl) rfl (Or.inl rfl) cz12 flX12_184 rfl (fun q hq => by cases hq; rfl) dX12_init_481 ?_
  refine v_toph fun h168 eh168 => ?_
  replace hF := lb_use eh168 hF
  clear eh168
  refine v_aload_n (j := 0) dX12_init_484 rfl ?_
  refine v_sipush (v := 3341) dX12_init_485 (by decide) ?_
  refine v_newa (k := 107) (idx := 0) (at0 := .long) rfl (by decide) rfl ac_long (by decide) (by decide) (by decide) (Or.inl rfl) dX12_init_488 ?_
  refine v_topr fun z169 ez169 => ?_
  replace hF := lb_use ez169 hF
  clear ez169
  refine v_toph fun h170 eh170 => ?_
  replace hF := lb_use eh170 hF
  clear eh170
  refine v_putFR (o := some z169) (c := 12) (k2 := 107) rfl rfl (Nat.le_of_ble_eq_true rfl) rfl (Or.inl rfl) cz12 flX12_187 rfl (fun q hq => by cases hq; rfl) dX12_init_490 ?_
  refine v_toph fun h171 eh171 => ?_
  replace hF := lb_use eh171 hF
  clear eh171
  refine v_aload_n (j := 0) dX12_init_493 rfl ?_
  refine v_bipush (v := 12) dX12_init_494 (by decide) ?_
  refine v_newa (k := 108) (idx := 0) (at0 := .int) rfl (by decide) rfl ac_int (by decide) (by decide) (by decide) (Or.inl rfl) dX12_init_496 ?_
  refine v_topr fun z172 ez172 => ?_
  replace hF := lb_use ez172 hF
  clear ez172
  refine v_toph fun h173 eh173 => ?_
  replace hF := lb_use eh173 hF
  clear eh173
  refine v_putFR (o := some z172) (c := 12) (k2 := 108) rfl rfl (Nat.le_of_ble_eq_true rfl) rfl (Or.inl rfl) cz12 flX12_190 rfl (fun q hq => by cases hq; rfl) dX12_init_498 ?_
  refine v_toph fun h174 eh174 => ?_
  replace hF := lb_use eh174 hF
  clear eh174
  refine v_aload_n (j := 0) dX12_init_501 rfl ?_
  refine v_bipush (v := 12) dX12_init_502 (by decide) ?_
  refine v_newa (k := 109) (idx := 0) (at0 := .int) rfl (by decide) rfl ac_int (by decide) (by decide) (by decide) (Or.inl rfl) dX12_init_504 ?_
  refine v_topr fun z175 ez175 => ?_
  replace hF := lb_use ez175 hF
  clear ez175
  refine v_toph fun h176 eh176 => ?_
  replace hF := lb_use eh176 hF
  clear eh176
  refine v_putFR (o := some z175) (c := 12) (k2 := 109) rfl rfl (Nat.le_of_ble_eq_true rfl) rfl (Or.inl rfl) cz12 flX12_193 rfl (fun q hq => by cases hq; rfl) dX12_init_506 ?_
  refine v_toph fun h177 eh177 => ?_
  replace hF := lb_use eh177 hF
  clear eh177
  refine v_aload_n (j := 0) dX12_init_509 rfl ?_
  refine v_bipush (v := 12) dX12_init_510 (by decide) ?_
  refine v_newa (k := 110) (idx := 0) (at0 := .boolean) rfl (by decide) rfl ac_boolean (by decide) (by decide) (by decide) (Or.inl rfl) dX12_init_512 ?_
  refine v_topr fun z178 ez178 => ?_
  replace hF := lb_use ez178 hF
  clear ez178
  refine v_toph fun h179 eh179 => ?_
  replace hF := lb_use eh179 hF
  clear eh179
  refine v_putFR (o := some z178) (c := 12) (k2 := 110) rfl rfl (Nat.le_of_ble_eq_true rfl) rfl (Or.inl rfl) cz12 flX12_196 rfl (fun q hq => by cases hq; rfl) dX12_init_514 ?_
  refine v_toph fun h180 eh180 => ?_
  replace hF := lb_use eh180 hF
  clear eh180
  refine v_aload_n (j := 0) dX12_init_517 rfl ?_
  refine v_bipush (v := 12) dX12_init_518 (by decide) ?_
  refine v_newa (k := 111) (idx := 0) (at0 := .boolean) rfl (by decide) rfl ac_boolean (by decide) (by decide) (by decide) (Or.inl rfl) dX12_init_520 ?_
  refine v_topr fun z181 ez181 => ?_
  replace hF := lb_use ez181 hF
  clear ez181
  refine v_toph fun h182 eh182 => ?_
  replace hF := lb_use eh182 hF
  clear eh182
  refine v_putFR (o := some z181) (c := 12) (k2 := 111) rfl rfl (Nat.le_of_ble_eq_true rfl) rfl (Or.inl rfl) cz12 flX12_199 rfl (fun q hq => by cases hq; rfl) dX12_init_522 ?_
  refine v_toph fun h183 eh183 => ?_
  replace hF := lb_use eh183 hF
  clear eh183
  refine v_aload_n (j := 0) dX12_init_525 rfl ?_
  refine v_bipush (v := 60) dX12_init_526 (by decide) ?_
  refine v_newa (k := 112) (idx := 0) (at0 := .int) rfl (by decide) rfl ac_int (by decide) (by decide) (by decide) (Or.inl rfl) dX12_init_528 ?_
  refine v_topr fun z184 ez184 => ?_
  replace hF := lb_use ez184 hF
  clear ez184
  refine v_toph fun h185 eh185 => ?_
  replace hF := lb_use eh185 hF
  clear eh185
  refine v_putFR (o := some z184) (c := 12) (k2 := 112) rfl rfl (Nat.le_of_ble_eq_true rfl) rfl (Or.inl rfl) cz12 flX12_202 rfl (fun q hq => by cases hq; rfl) dX12_init_530 ?_
  refine v_toph fun h186 eh186 => ?_
  replace hF := lb_use eh186 hF
  clear eh186
  refine v_aload_n (j := 0) dX12_init_533 rfl ?_
  refine v_sipush (v := 256) dX12_init_534 (by decide) ?_
  refine v_newa (k := 113) (idx := 0) (at0 := .boolean) rfl (by decide) rfl ac_boolean (by decide) (by decide) (by decide) (Or.inl rfl) dX12_init_537 ?_
  refine v_topr fun z187 ez187 => ?_
  replace hF := lb_use ez187 hF
  clear ez187
  refine v_toph fun h188 eh188 => ?_
  replace hF := lb_use eh188 hF
  clear eh188
  refine v_putFR (o := some z187) (c := 12) (k2 := 113) rfl rfl (Nat.le_of_ble_eq_true rfl) rfl (Or.inl rfl) cz12 flX12_205 rfl (fun q hq => by cases hq; rfl) dX12_init_539 ?_
  refine v_toph fun h189 eh189 => ?_
  replace hF := lb_use eh189 hF
  clear eh189
  refine v_iconst (v := 0) dX12_init_542 (by decide) ?_
  refine v_istore_n (ls' := [(1, zi 0), (0, zr 12 a0)]) dX12_init_543 (by decide) rfl ?_
  refine v_sub [1, 0] rfl ?_
  replace hF := bd_use hF
  obtain ⟨v199, h197, ev199, hF⟩ := hF
  refine tX12_init_L544 _ a0 0 h189 _ ev199 ?_
  clear ev199
  refine v_iconst (v := 0) dX12_init_566 (by decide) ?_
  refine v_istore_n (ls' := [(1, zi 0), (0, zr 12 a0)]) dX12_init_567 (by decide) rfl ?_
  refine v_sub [1, 0] rfl ?_
  replace hF := bd_use hF
  obtain ⟨v209, h207, ev209, hF⟩ := hF
  refine tX12_init_L568 _ a0 0 h197 _ ev209 ?_
  clear ev209
  cases hF
  exact v_vret rfl dX12_init_590
theorem dX12_in_0 : decode cX12_in 0 = .ok (.lload_n 0, 1) := by decide +kernel
theorem dX12_in_1 : decode cX12_in 1 = .ok (.lload_n 2, 1) := by decide +kernel
theorem dX12_in_2 : decode cX12_in 2 = .ok (.lcmp, 1) := by decide +kernel
theorem dX12_in_3 : decode cX12_in 3 = .ok (.ifCond .lt 14, 3) := by decide +kernel
theorem dX12_in_6 : decode cX12_in 6 = .ok (.lload_n 0, 1) := by decide +kernel
theorem dX12_in_7 : decode cX12_in 7 = .ok (.lload 4, 2) := by decide +kernel
theorem dX12_in_9 : decode cX12_in 9 = .ok (.lcmp, 1) := by decide +kernel
theorem dX12_in_10 : decode cX12_in 10 = .ok (.ifCond .gt 7, 3) := by decide +kernel
theorem dX12_in_13 : decode cX12_in 13 = .ok (.iconst 1, 1) := by decide +kernel
theorem dX12_in_14 : decode cX12_in 14 = .ok (.goto 4, 3) := by decide +kernel
theorem dX12_in_17 : decode cX12_in 17 = .ok (.iconst 0, 1) := by decide +kernel
theorem dX12_in_18 : decode cX12_in 18 = .ok (.ireturn, 1) := by decide +kernel
def fX12_in (a0 : Int64) (a2 : Int64) (a4 : Int64) (h : Hp) : Int32 := br (a0 < a2) (0) (br (a4 < a0) (0) (1))
set_option maxRecDepth 20000 in
theorem tX12_in {X : Cz} (a0 : Int64) (a2 : Int64) (a4 : Int64) (h : Hp) : Ct X mX12_in true [zj a0, zj a2, zj a4] h (some (zi (fX12_in a0 a2 a4 h))) h := by
  refine Ct_of (by decide) (Nat.le_of_ble_eq_true rfl) (ls := [(0, zj a0), (2, zj a2), (4, zj a4)]) rfl ?_
  obtain ⟨rE, hF⟩ : ∃ z, fX12_in a0 a2 a4 h = z := ⟨_, rfl⟩
  rw [hF]
  unfold fX12_in at hF
  refine v_lload_n (j := 0) dX12_in_0 rfl ?_
  refine v_lload_n (j := 1) dX12_in_1 rfl ?_
  refine v_lif_lt (x := a0) (y := a2) dX12_in_2 dX12_in_3 (by decide : _ = ((17 : Nat) : Int)) (fun q => ?_) (fun q => ?_)
  · replace hF := brT q hF
    refine v_iconst (v := 0) dX12_in_17 (by decide) ?_
    subst hF
    exact v_zret rfl (Or.inl rfl) dX12_in_18
  · replace hF := brF q hF
    refine v_lload_n (j := 0) dX12_in_6 rfl ?_
    refine v_lload (j := 2) dX12_in_7 rfl ?_
    refine v_lif_gt (x := a0) (y := a4) dX12_in_9 dX12_in_10 (by decide : _ = ((17 : Nat) : Int)) (fun q => ?_) (fun q => ?_)
    · replace hF := brT q hF
      refine v_iconst (v := 0) dX12_in_17 (by decide) ?_
      subst hF
      exact v_zret rfl (Or.inl rfl) dX12_in_18
    · replace hF := brF q hF
      refine v_iconst (v := 1) dX12_in_13 (by decide) ?_
      refine v_goto (tgt := 18) dX12_in_14 (by decide) ?_
      subst hF
      exact v_zret rfl (Or.inr rfl) dX12_in_18
theorem zX12_in (a0 : Int64) (a2 : Int64) (a4 : Int64) (h : Hp) : fX12_in a0 a2 a4 h = 0 ∨ fX12_in a0 a2 a4 h = 1 := by
  unfold fX12_in
  try unfold br
  try unfold lb
  try dsimp only
  repeat' split
  all_goals first | exact Or.inl rfl | exact Or.inr rfl
theorem dX12_isPlace_0 : decode cX12_isPlace 0 = .ok (.iload_n 0, 1) := by decide +kernel
theorem dX12_isPlace_1 : decode cX12_isPlace 1 = .ok (.i2l, 1) := by decide +kernel
theorem dX12_isPlace_2 : decode cX12_isPlace 2 = .ok (.lconst 0, 1) := by decide +kernel
theorem dX12_isPlace_3 : decode cX12_isPlace 3 = .ok (.ldc2_w 211, 3) := by decide +kernel
theorem dX12_isPlace_6 : decode cX12_isPlace 6 = .ok (.invokestatic 213, 3) := by decide +kernel
theorem dX12_isPlace_9 : decode cX12_isPlace 9 = .ok (.ireturn, 1) := by decide +kernel
def fX12_isPlace (a0 : Int32) (h : Hp) : Int32 := fX12_in a0.toInt64 0 3 h
set_option maxRecDepth 20000 in
theorem tX12_isPlace {X : Cz} (a0 : Int32) (h : Hp) : Ct X mX12_isPlace true [zi a0] h (some (zi (fX12_isPlace a0 h))) h := by
  refine Ct_of (by decide) (Nat.le_of_ble_eq_true rfl) (ls := [(0, zi a0)]) rfl ?_
  obtain ⟨rE, hF⟩ : ∃ z, fX12_isPlace a0 h = z := ⟨_, rfl⟩
  rw [hF]
  unfold fX12_isPlace at hF
  refine v_iload_n (j := 0) dX12_isPlace_0 rfl ?_
  refine v_i2l dX12_isPlace_1 ?_
  refine v_lconst (v := 0) dX12_isPlace_2 (by decide) ?_
  refine v_ldc2 dX12_isPlace_3 kcX12_211 ?_
  refine v_cS (hm := h) (av := [zj a0.toInt64, zj 0, zj 3]) (st := []) (stn := [zi (fX12_in a0.toInt64 0 3 h)]) (tX12_in a0.toInt64 0 3 h) lcX12_in mlX12_213 sxX12_in rfl ⟨by decide, by decide⟩ (Nat.le_of_ble_eq_true rfl) dX12_isPlace_6 rfl rfl ?_
  subst hF
  exact v_zret rfl (zX12_in a0.toInt64 0 3 h) dX12_isPlace_9
theorem zX12_isPlace (a0 : Int32) (h : Hp) : fX12_isPlace a0 h = 0 ∨ fX12_isPlace a0 h = 1 := by
  unfold fX12_isPlace
  try unfold br
  try unfold lb
  try dsimp only
  repeat' split
  all_goals first | exact Or.inl rfl | exact Or.inr rfl | exact zX12_in _ _ _ _ 
theorem dX12_cut_0 : decode cX12_cut 0 = .ok (.iload_n 0, 1) := by decide +kernel
theorem dX12_cut_1 : decode cX12_cut 1 = .ok (.ifCond .ne 10, 3) := by decide +kernel
theorem dX12_cut_4 : decode cX12_cut 4 = .ok (.lload_n 1, 1) := by decide +kernel
theorem dX12_cut_5 : decode cX12_cut 5 = .ok (.l2i, 1) := by decide +kernel
theorem dX12_cut_6 : decode cX12_cut 6 = .ok (.i2b, 1) := by decide +kernel
theorem dX12_cut_7 : decode cX12_cut 7 = .ok (.i2l, 1) := by decide +kernel
theorem dX12_cut_8 : decode cX12_cut 8 = .ok (.goto 27, 3) := by decide +kernel
theorem dX12_cut_11 : decode cX12_cut 11 = .ok (.iload_n 0, 1) := by decide +kernel
theorem dX12_cut_12 : decode cX12_cut 12 = .ok (.iconst 1, 1) := by decide +kernel
theorem dX12_cut_13 : decode cX12_cut 13 = .ok (.if_icmp .ne 10, 3) := by decide +kernel
theorem dX12_cut_16 : decode cX12_cut 16 = .ok (.lload_n 1, 1) := by decide +kernel
theorem dX12_cut_17 : decode cX12_cut 17 = .ok (.l2i, 1) := by decide +kernel
theorem dX12_cut_18 : decode cX12_cut 18 = .ok (.i2s, 1) := by decide +kernel
theorem dX12_cut_19 : decode cX12_cut 19 = .ok (.i2l, 1) := by decide +kernel
theorem dX12_cut_20 : decode cX12_cut 20 = .ok (.goto 15, 3) := by decide +kernel
theorem dX12_cut_23 : decode cX12_cut 23 = .ok (.iload_n 0, 1) := by decide +kernel
theorem dX12_cut_24 : decode cX12_cut 24 = .ok (.iconst 2, 1) := by decide +kernel
theorem dX12_cut_25 : decode cX12_cut 25 = .ok (.if_icmp .ne 9, 3) := by decide +kernel
theorem dX12_cut_28 : decode cX12_cut 28 = .ok (.lload_n 1, 1) := by decide +kernel
theorem dX12_cut_29 : decode cX12_cut 29 = .ok (.l2i, 1) := by decide +kernel
theorem dX12_cut_30 : decode cX12_cut 30 = .ok (.i2l, 1) := by decide +kernel
theorem dX12_cut_31 : decode cX12_cut 31 = .ok (.goto 4, 3) := by decide +kernel
theorem dX12_cut_34 : decode cX12_cut 34 = .ok (.lload_n 1, 1) := by decide +kernel
theorem dX12_cut_35 : decode cX12_cut 35 = .ok (.lreturn, 1) := by decide +kernel
def fX12_cut (a0 : Int32) (a1 : Int64) (h : Hp) : Int64 := br (a0 = 0) (a1.toInt32.toInt8.toInt32.toInt64) (br (a0 = 1) (a1.toInt32.toInt16.toInt32.toInt64) (br (a0 = 2) (a1.toInt32.toInt64) (a1)))
set_option maxRecDepth 20000 in
theorem tX12_cut {X : Cz} (a0 : Int32) (a1 : Int64) (h : Hp) : Ct X mX12_cut true [zi a0, zj a1] h (some (zj (fX12_cut a0 a1 h))) h := by
  refine Ct_of (by decide) (Nat.le_of_ble_eq_true rfl) (ls := [(0, zi a0), (1, zj a1)]) rfl ?_
  obtain ⟨rE, hF⟩ : ∃ z, fX12_cut a0 a1 h = z := ⟨_, rfl⟩
  rw [hF]
  unfold fX12_cut at hF
  refine v_iload_n (j := 0) dX12_cut_0 rfl ?_
  refine v_if_ne dX12_cut_1 (by decide : _ = ((11 : Nat) : Int)) (fun q => ?_) (fun q => ?_)
  · replace hF := brF q hF
    refine v_iload_n (j := 0) dX12_cut_11 rfl ?_
    refine v_iconst (v := 1) dX12_cut_12 (by decide) ?_
    refine v_icmp_ne dX12_cut_13 (by decide : _ = ((23 : Nat) : Int)) (fun q => ?_) (fun q => ?_)
    · replace hF := brF q hF
      refine v_iload_n (j := 0) dX12_cut_23 rfl ?_
      refine v_iconst (v := 2) dX12_cut_24 (by decide) ?_
      refine v_icmp_ne dX12_cut_25 (by decide : _ = ((34 : Nat) : Int)) (fun q => ?_) (fun q => ?_)
      · replace hF := brF q hF
        refine v_lload_n (j := 1) dX12_cut_34 rfl ?_
        subst hF
        exact v_lret rfl dX12_cut_35
      · replace hF := brT (Decidable.not_not.mp q) hF
        refine v_lload_n (j := 1) dX12_cut_28 rfl ?_
        refine v_l2i dX12_cut_29 ?_
        refine v_i2l dX12_cut_30 ?_
        refine v_goto (tgt := 35) dX12_cut_31 (by decide) ?_
        subst hF
        exact v_lret rfl dX12_cut_35
    · replace hF := brT (Decidable.not_not.mp q) hF
      refine v_lload_n (j := 1) dX12_cut_16 rfl ?_
      refine v_l2i dX12_cut_17 ?_
      refine v_i2s dX12_cut_18 ?_
      refine v_i2l dX12_cut_19 ?_
      refine v_goto (tgt := 35) dX12_cut_20 (by decide) ?_
      subst hF
      exact v_lret rfl dX12_cut_35
  · replace hF := brT (Decidable.not_not.mp q) hF
    refine v_lload_n (j := 1) dX12_cut_4 rfl ?_
    refine v_l2i dX12_cut_5 ?_
    refine v_i2b dX12_cut_6 ?_
    refine v_i2l dX12_cut_7 ?_
    refine v_goto (tgt := 35) dX12_cut_8 (by decide) ?_
    subst hF
    exact v_lret rfl dX12_cut_35
theorem dX12_row_0 : decode cX12_row 0 = .ok (.aload_n 0, 1) := by decide +kernel
theorem dX12_row_1 : decode cX12_row 1 = .ok (.iconst 0, 1) := by decide +kernel
theorem dX12_row_2 : decode cX12_row 2 = .ok (.putfield 208, 3) := by decide +kernel
theorem dX12_row_5 : decode cX12_row 5 = .ok (.iload_n 1, 1) := by decide +kernel
theorem dX12_row_6 : decode cX12_row 6 = .ok (.invokestatic 217, 3) := by decide +kernel
theorem dX12_row_9 : decode cX12_row 9 = .ok (.ifCond .eq 21, 3) := by decide +kernel
theorem dX12_row_12 : decode cX12_row 12 = .ok (.iload_n 2, 1) := by decide +kernel
theorem dX12_row_13 : decode cX12_row 13 = .ok (.i2l, 1) := by decide +kernel
theorem dX12_row_14 : decode cX12_row 14 = .ok (.lconst 0, 1) := by decide +kernel
theorem dX12_row_15 : decode cX12_row 15 = .ok (.ldc2_w 211, 3) := by decide +kernel
theorem dX12_row_18 : decode cX12_row 18 = .ok (.invokestatic 213, 3) := by decide +kernel
theorem dX12_row_21 : decode cX12_row 21 = .ok (.ifCond .eq 9, 3) := by decide +kernel
theorem dX12_row_24 : decode cX12_row 24 = .ok (.iload_n 3, 1) := by decide +kernel
theorem dX12_row_25 : decode cX12_row 25 = .ok (.bipush 60, 2) := by decide +kernel
theorem dX12_row_27 : decode cX12_row 27 = .ok (.if_icmp .le 6, 3) := by decide +kernel
theorem dX12_row_30 : decode cX12_row 30 = .ok (.bipush (-2), 2) := by decide +kernel
theorem dX12_row_32 : decode cX12_row 32 = .ok (.ireturn, 1) := by decide +kernel
theorem dX12_row_33 : decode cX12_row 33 = .ok (.iload_n 3, 1) := by decide +kernel
theorem dX12_row_34 : decode cX12_row 34 = .ok (.ifCond .ge 6, 3) := by decide +kernel
theorem dX12_row_37 : decode cX12_row 37 = .ok (.bipush (-3), 2) := by decide +kernel
theorem dX12_row_39 : decode cX12_row 39 = .ok (.ireturn, 1) := by decide +kernel
theorem dX12_row_40 : decode cX12_row 40 = .ok (.aload_n 0, 1) := by decide +kernel
theorem dX12_row_41 : decode cX12_row 41 = .ok (.getfield 9, 3) := by decide +kernel
theorem dX12_row_44 : decode cX12_row 44 = .ok (.iload_n 1, 1) := by decide +kernel
theorem dX12_row_45 : decode cX12_row 45 = .ok (.iload_n 2, 1) := by decide +kernel
theorem dX12_row_46 : decode cX12_row 46 = .ok (.iastore, 1) := by decide +kernel
theorem dX12_row_47 : decode cX12_row 47 = .ok (.aload_n 0, 1) := by decide +kernel
theorem dX12_row_48 : decode cX12_row 48 = .ok (.getfield 13, 3) := by decide +kernel
theorem dX12_row_51 : decode cX12_row 51 = .ok (.iload_n 1, 1) := by decide +kernel
theorem dX12_row_52 : decode cX12_row 52 = .ok (.iload_n 3, 1) := by decide +kernel
theorem dX12_row_53 : decode cX12_row 53 = .ok (.iastore, 1) := by decide +kernel
theorem dX12_row_54 : decode cX12_row 54 = .ok (.iconst 0, 1) := by decide +kernel
theorem dX12_row_55 : decode cX12_row 55 = .ok (.istore 4, 2) := by decide +kernel
theorem dX12_row_57 : decode cX12_row 57 = .ok (.iload 4, 2) := by decide +kernel
theorem dX12_row_59 : decode cX12_row 59 = .ok (.bipush 60, 2) := by decide +kernel
theorem dX12_row_61 : decode cX12_row 61 = .ok (.if_icmp .ge 22, 3) := by decide +kernel
theorem dX12_row_64 : decode cX12_row 64 = .ok (.aload_n 0, 1) := by decide +kernel
theorem dX12_row_65 : decode cX12_row 65 = .ok (.getfield 16, 3) := by decide +kernel
theorem dX12_row_68 : decode cX12_row 68 = .ok (.bipush 60, 2) := by decide +kernel
theorem dX12_row_70 : decode cX12_row 70 = .ok (.iload_n 1, 1) := by decide +kernel
theorem dX12_row_71 : decode cX12_row 71 = .ok (.imul, 1) := by decide +kernel
theorem dX12_row_72 : decode cX12_row 72 = .ok (.iload 4, 2) := by decide +kernel
theorem dX12_row_74 : decode cX12_row 74 = .ok (.iadd, 1) := by decide +kernel
theorem dX12_row_75 : decode cX12_row 75 = .ok (.lconst 0, 1) := by decide +kernel
theorem dX12_row_76 : decode cX12_row 76 = .ok (.lastore, 1) := by decide +kernel
theorem dX12_row_77 : decode cX12_row 77 = .ok (.iinc 4 1, 3) := by decide +kernel
theorem dX12_row_80 : decode cX12_row 80 = .ok (.goto (-23), 3) := by decide +kernel
theorem dX12_row_83 : decode cX12_row 83 = .ok (.iconst 0, 1) := by decide +kernel
theorem dX12_row_84 : decode cX12_row 84 = .ok (.ireturn, 1) := by decide +kernel
def fX12_row_L57 : Nat → Int32 → Int32 → Hp → Option ((Int32) × Hp)
  | 0, _, _, _ => none
  | n + 1, a1, a4, h => br (60 ≤ a4) (some ((a4), h)) (gd (ib (((60 : Int32) * a1) + a4) 240) (lb (sJ h 56 0 (ix (((60 : Int32) * a1) + a4)) 0) (fun h7 => lb (a4 + 1) (fun v8 => fX12_row_L57 n a1 v8 h7))))
def fX12_row (a1 : Int32) (a2 : Int32) (a3 : Int32) (h : Hp) : Option (Int32 × Hp) := lb (sI h 12 0 0 0) (fun h1 => br ((fX12_isPlace a1 h1) = 0) (some ((-2), h1)) (br ((fX12_in a2.toInt64 0 3 h1) = 0) (some ((-2), h1)) (br (a3 ≤ 60) (br (0 ≤ a3) (gd (ib a1 4) (lb (sI h1 54 0 (ix a1) a2) (fun h3 => gd (ib a1 4) (lb (sI h3 55 0 (ix a1) a3) (fun h5 => bd (fX12_row_L57 FU a1 0 h5) (fun v11 h9 => some (0, h9))))))) (some ((-3), h1))) (some ((-2), h1)))))
set_option maxRecDepth 20000 in
theorem tX12_row_L57 {X : Cz} {h0 : Hp} {r : Option AV} {hE : Hp} : ∀ (n : Nat) (a1 : Int32) (a4 : Int32) (h : Hp) (z : (Int32) × Hp), fX12_row_L57 n a1 a4 h = some z → V X mX12_row true h0 83 [(0, zr 12 0), (1, zi a1), (4, zi z.1)] [] z.2 r hE → V X mX12_row true h0 57 [(0, zr 12 0), (1, zi a1), (4, zi a4)] [] h r hE := by
  intro n
  induction n with
  | zero => intro a1 a4 h z hF k; cases hF
  | succ n ih =>
    intro a1 a4 h z hF k
    rw [fX12_row_L57] at hF
    refine v_iload (j := 2) dX12_row_57 rfl ?_
    refine v_bipush (v := 60) dX12_row_59 (by decide) ?_
    refine v_icmp_ge dX12_row_61 (by decide : _ = ((83 : Nat) : Int)) (fun q => ?_) (fun q => ?_)
    · replace hF := brT q hF
      cases hF
      exact k
    · replace hF := brF q hF
      refine v_aload_n (j := 0) dX12_row_64 rfl ?_
      refine v_getL (c := 12) rfl rfl rfl ly12_3 cz12 flX12_16 dX12_row_65 ?_
      refine v_bipush (v := 60) dX12_row_68 (by decide) ?_
      refine v_iload_n (j := 1) dX12_row_70 rfl ?_
      refine v_imul dX12_row_71 ?_
      refine v_iload (j := 2) dX12_row_72 rfl ?_
      refine v_iadd dX12_row_74 ?_
      refine v_lconst (v := 0) dX12_row_75 (by decide) ?_
      replace hF := gd_use hF
      obtain ⟨q6, hF⟩ := hF
      refine v_last rfl q6 dX12_row_76 ?_
      refine v_toph fun h7 eh7 => ?_
      replace hF := lb_use eh7 hF
      clear eh7
      obtain ⟨v8, ev8⟩ : ∃ y : Int32, y = a4 + 1 := ⟨_, rfl⟩
      replace hF := lb_use ev8 hF
      refine v_iinc (j := 2) (v := v8) (ls' := [(4, zi v8), (0, zr 12 0), (1, zi a1)]) dX12_row_77 rfl (by rw [ev8]; rfl) (by decide) rfl ?_
      clear ev8
      refine v_goto (tgt := 57) dX12_row_80 (by decide) ?_
      refine v_sub [1, 2, 0] rfl ?_
      exact ih a1 v8 h7 _ hF k
set_option maxRecDepth 20000 in
theorem tX12_row {X : Cz} {a1 : Int32} {a2 : Int32} {a3 : Int32} {h hE : Hp} {rE : Int32} (hF : fX12_row a1 a2 a3 h = some (rE, hE)) : Ct X mX12_row true [zr 12 0, zi a1, zi a2, zi a3] h (some (zi rE)) hE := by
  refine Ct_of (by decide) (Nat.le_of_ble_eq_true rfl) (ls := [(0, zr 12 0), (1, zi a1), (2, zi a2), (3, zi a3)]) rfl ?_
  unfold fX12_row at hF
  refine v_aload_n (j := 0) dX12_row_0 rfl ?_
  refine v_iconst (v := 0) dX12_row_1 (by decide) ?_
  refine v_putI (c := 12) rfl rfl (Nat.le_of_ble_eq_true rfl) cz12 flX12_208 dX12_row_2 ?_
  refine v_toph fun h1 eh1 => ?_
  replace hF := lb_use eh1 hF
  clear eh1
  refine v_iload_n (j := 1) dX12_row_5 rfl ?_
  refine v_cS (hm := h1) (av := [zi a1]) (st := []) (stn := [zi (fX12_isPlace a1 h1)]) (tX12_isPlace a1 h1) lcX12_isPlace mlX12_217 sxX12_isPlace rfl ⟨by decide, by decide⟩ (Nat.le_of_ble_eq_true rfl) dX12_row_6 rfl rfl ?_
  refine v_if_eq dX12_row_9 (by decide : _ = ((30 : Nat) : Int)) (fun q => ?_) (fun q => ?_)
  · replace hF := brT q hF
    refine v_bipush (v := (-2)) dX12_row_30 (by decide) ?_
    obtain ⟨rfl, rfl⟩ := ret_use hF
    exact v_iret rfl dX12_row_32
  · replace hF := brF q hF
    refine v_iload_n (j := 2) dX12_row_12 rfl ?_
    refine v_i2l dX12_row_13 ?_
    refine v_lconst (v := 0) dX12_row_14 (by decide) ?_
    refine v_ldc2 dX12_row_15 kcX12_211 ?_
    refine v_cS (hm := h1) (av := [zj a2.toInt64, zj 0, zj 3]) (st := []) (stn := [zi (fX12_in a2.toInt64 0 3 h1)]) (tX12_in a2.toInt64 0 3 h1) lcX12_in mlX12_213 sxX12_in rfl ⟨by decide, by decide⟩ (Nat.le_of_ble_eq_true rfl) dX12_row_18 rfl rfl ?_
    refine v_if_eq dX12_row_21 (by decide : _ = ((30 : Nat) : Int)) (fun q => ?_) (fun q => ?_)
    · replace hF := brT q hF
      refine v_bipush (v := (-2)) dX12_row_30 (by decide) ?_
      obtain ⟨rfl, rfl⟩ := ret_use hF
      exact v_iret rfl dX12_row_32
    · replace hF := brF q hF
      refine v_iload_n (j := 3) dX12_row_24 rfl ?_
      refine v_bipush (v := 60) dX12_row_25 (by decide) ?_
      refine v_icmp_le dX12_row_27 (by decide : _ = ((33 : Nat) : Int)) (fun q => ?_) (fun q => ?_)
      · replace hF := brT q hF
        refine v_iload_n (j := 3) dX12_row_33 rfl ?_
        refine v_if_ge dX12_row_34 (by decide : _ = ((40 : Nat) : Int)) (fun q => ?_) (fun q => ?_)
        · replace hF := brT q hF
          refine v_aload_n (j := 0) dX12_row_40 rfl ?_
          refine v_getL (c := 12) rfl rfl rfl ly12_1 cz12 flX12_9 dX12_row_41 ?_
          refine v_iload_n (j := 1) dX12_row_44 rfl ?_
          refine v_iload_n (j := 2) dX12_row_45 rfl ?_
          replace hF := gd_use hF
          obtain ⟨q2, hF⟩ := hF
          refine v_iast rfl q2 dX12_row_46 ?_
          refine v_toph fun h3 eh3 => ?_
          replace hF := lb_use eh3 hF
          clear eh3
          refine v_aload_n (j := 0) dX12_row_47 rfl ?_
          refine v_getL (c := 12) rfl rfl rfl ly12_2 cz12 flX12_13 dX12_row_48 ?_
          refine v_iload_n (j := 1) dX12_row_51 rfl ?_
          refine v_iload_n (j := 3) dX12_row_52 rfl ?_
          replace hF := gd_use hF
          obtain ⟨q4, hF⟩ := hF
          refine v_iast rfl q4 dX12_row_53 ?_
          refine v_toph fun h5 eh5 => ?_
          replace hF := lb_use eh5 hF
          clear eh5
          refine v_iconst (v := 0) dX12_row_54 (by decide) ?_
          refine v_istore (ls' := [(4, zi 0), (0, zr 12 0), (1, zi a1), (2, zi a2), (3, zi a3)]) dX12_row_55 (by decide) rfl ?_
          refine v_sub [1, 2, 0] rfl ?_
          replace hF := bd_use hF
          obtain ⟨v11, h9, ev11, hF⟩ := hF
          refine tX12_row_L57 _ a1 0 h5 _ ev11 ?_
          clear ev11
          refine v_iconst (v := 0) dX12_row_83 (by decide) ?_
          obtain ⟨rfl, rfl⟩ := ret_use hF
          exact v_iret rfl dX12_row_84
        · replace hF := brF q hF
          refine v_bipush (v := (-3)) dX12_row_37 (by decide) ?_
          obtain ⟨rfl, rfl⟩ := ret_use hF
          exact v_iret rfl dX12_row_39
      · replace hF := brF q hF
        refine v_bipush (v := (-2)) dX12_row_30 (by decide) ?_
        obtain ⟨rfl, rfl⟩ := ret_use hF
        exact v_iret rfl dX12_row_32
theorem dX12_tear_0 : decode cX12_tear 0 = .ok (.aload_n 0, 1) := by decide +kernel
theorem dX12_tear_1 : decode cX12_tear 1 = .ok (.iconst 0, 1) := by decide +kernel
theorem dX12_tear_2 : decode cX12_tear 2 = .ok (.putfield 208, 3) := by decide +kernel
theorem dX12_tear_5 : decode cX12_tear 5 = .ok (.iload_n 1, 1) := by decide +kernel
theorem dX12_tear_6 : decode cX12_tear 6 = .ok (.invokestatic 217, 3) := by decide +kernel
theorem dX12_tear_9 : decode cX12_tear 9 = .ok (.ifCond .eq 12, 3) := by decide +kernel
theorem dX12_tear_12 : decode cX12_tear 12 = .ok (.aload_n 0, 1) := by decide +kernel
theorem dX12_tear_13 : decode cX12_tear 13 = .ok (.getfield 9, 3) := by decide +kernel
theorem dX12_tear_16 : decode cX12_tear 16 = .ok (.iload_n 1, 1) := by decide +kernel
theorem dX12_tear_17 : decode cX12_tear 17 = .ok (.iaload, 1) := by decide +kernel
theorem dX12_tear_18 : decode cX12_tear 18 = .ok (.ifCond .ge 5, 3) := by decide +kernel
theorem dX12_tear_21 : decode cX12_tear 21 = .ok (.iconst 0, 1) := by decide +kernel
theorem dX12_tear_22 : decode cX12_tear 22 = .ok (.ireturn, 1) := by decide +kernel
theorem dX12_tear_23 : decode cX12_tear 23 = .ok (.aload_n 0, 1) := by decide +kernel
theorem dX12_tear_24 : decode cX12_tear 24 = .ok (.getfield 9, 3) := by decide +kernel
theorem dX12_tear_27 : decode cX12_tear 27 = .ok (.iload_n 1, 1) := by decide +kernel
theorem dX12_tear_28 : decode cX12_tear 28 = .ok (.iconst (-1), 1) := by decide +kernel
theorem dX12_tear_29 : decode cX12_tear 29 = .ok (.iastore, 1) := by decide +kernel
theorem dX12_tear_30 : decode cX12_tear 30 = .ok (.iconst 1, 1) := by decide +kernel
theorem dX12_tear_31 : decode cX12_tear 31 = .ok (.ireturn, 1) := by decide +kernel
def fX12_tear (a1 : Int32) (h : Hp) : Option (Int32 × Hp) := lb (sI h 12 0 0 0) (fun h1 => br ((fX12_isPlace a1 h1) = 0) (some (0, h1)) (gd (ib a1 4) (br (0 ≤ (gI h1 54 0 (ix a1))) (gd (ib a1 4) (lb (sI h1 54 0 (ix a1) (-1)) (fun h4 => some (1, h4)))) (some (0, h1)))))
set_option maxRecDepth 20000 in
theorem tX12_tear {X : Cz} {a1 : Int32} {h hE : Hp} {rE : Int32} (hF : fX12_tear a1 h = some (rE, hE)) : Ct X mX12_tear true [zr 12 0, zi a1] h (some (zi rE)) hE := by
  refine Ct_of (by decide) (Nat.le_of_ble_eq_true rfl) (ls := [(0, zr 12 0), (1, zi a1)]) rfl ?_
  unfold fX12_tear at hF
  refine v_aload_n (j := 0) dX12_tear_0 rfl ?_
  refine v_iconst (v := 0) dX12_tear_1 (by decide) ?_
  refine v_putI (c := 12) rfl rfl (Nat.le_of_ble_eq_true rfl) cz12 flX12_208 dX12_tear_2 ?_
  refine v_toph fun h1 eh1 => ?_
  replace hF := lb_use eh1 hF
  clear eh1
  refine v_iload_n (j := 1) dX12_tear_5 rfl ?_
  refine v_cS (hm := h1) (av := [zi a1]) (st := []) (stn := [zi (fX12_isPlace a1 h1)]) (tX12_isPlace a1 h1) lcX12_isPlace mlX12_217 sxX12_isPlace rfl ⟨by decide, by decide⟩ (Nat.le_of_ble_eq_true rfl) dX12_tear_6 rfl rfl ?_
  refine v_if_eq dX12_tear_9 (by decide : _ = ((21 : Nat) : Int)) (fun q => ?_) (fun q => ?_)
  · replace hF := brT q hF
    refine v_iconst (v := 0) dX12_tear_21 (by decide) ?_
    obtain ⟨rfl, rfl⟩ := ret_use hF
    exact v_zret rfl (Or.inl rfl) dX12_tear_22
  · replace hF := brF q hF
    refine v_aload_n (j := 0) dX12_tear_12 rfl ?_
    refine v_getL (c := 12) rfl rfl rfl ly12_1 cz12 flX12_9 dX12_tear_13 ?_
    refine v_iload_n (j := 1) dX12_tear_16 rfl ?_
    replace hF := gd_use hF
    obtain ⟨q2, hF⟩ := hF
    refine v_iald rfl q2 dX12_tear_17 ?_
    refine v_if_ge dX12_tear_18 (by decide : _ = ((23 : Nat) : Int)) (fun q => ?_) (fun q => ?_)
    · replace hF := brT q hF
      refine v_aload_n (j := 0) dX12_tear_23 rfl ?_
      refine v_getL (c := 12) rfl rfl rfl ly12_1 cz12 flX12_9 dX12_tear_24 ?_
      refine v_iload_n (j := 1) dX12_tear_27 rfl ?_
      refine v_iconst (v := (-1)) dX12_tear_28 (by decide) ?_
      replace hF := gd_use hF
      obtain ⟨q3, hF⟩ := hF
      refine v_iast rfl q3 dX12_tear_29 ?_
      refine v_toph fun h4 eh4 => ?_
      replace hF := lb_use eh4 hF
      clear eh4
      refine v_iconst (v := 1) dX12_tear_30 (by decide) ?_
      obtain ⟨rfl, rfl⟩ := ret_use hF
      exact v_zret rfl (Or.inr rfl) dX12_tear_31
    · replace hF := brF q hF
      refine v_iconst (v := 0) dX12_tear_21 (by decide) ?_
      obtain ⟨rfl, rfl⟩ := ret_use hF
      exact v_zret rfl (Or.inl rfl) dX12_tear_22
theorem dX12_write_0 : decode cX12_write 0 = .ok (.aload_n 0, 1) := by decide +kernel
theorem dX12_write_1 : decode cX12_write 1 = .ok (.iconst 0, 1) := by decide +kernel
theorem dX12_write_2 : decode cX12_write 2 = .ok (.putfield 208, 3) := by decide +kernel
theorem dX12_write_5 : decode cX12_write 5 = .ok (.iload_n 1, 1) := by decide +kernel
theorem dX12_write_6 : decode cX12_write 6 = .ok (.invokestatic 217, 3) := by decide +kernel
theorem dX12_write_9 : decode cX12_write 9 = .ok (.ifCond .ne 6, 3) := by decide +kernel
theorem dX12_write_12 : decode cX12_write 12 = .ok (.bipush (-2), 2) := by decide +kernel
theorem dX12_write_14 : decode cX12_write 14 = .ok (.ireturn, 1) := by decide +kernel
theorem dX12_write_15 : decode cX12_write 15 = .ok (.aload_n 0, 1) := by decide +kernel
theorem dX12_write_16 : decode cX12_write 16 = .ok (.getfield 9, 3) := by decide +kernel
theorem dX12_write_19 : decode cX12_write 19 = .ok (.iload_n 1, 1) := by decide +kernel
theorem dX12_write_20 : decode cX12_write 20 = .ok (.iaload, 1) := by decide +kernel
theorem dX12_write_21 : decode cX12_write 21 = .ok (.ifCond .ge 6, 3) := by decide +kernel
theorem dX12_write_24 : decode cX12_write 24 = .ok (.bipush (-5), 2) := by decide +kernel
theorem dX12_write_26 : decode cX12_write 26 = .ok (.ireturn, 1) := by decide +kernel
theorem dX12_write_27 : decode cX12_write 27 = .ok (.iload_n 2, 1) := by decide +kernel
theorem dX12_write_28 : decode cX12_write 28 = .ok (.i2l, 1) := by decide +kernel
theorem dX12_write_29 : decode cX12_write 29 = .ok (.lconst 0, 1) := by decide +kernel
theorem dX12_write_30 : decode cX12_write 30 = .ok (.aload_n 0, 1) := by decide +kernel
theorem dX12_write_31 : decode cX12_write 31 = .ok (.getfield 13, 3) := by decide +kernel
theorem dX12_write_34 : decode cX12_write 34 = .ok (.iload_n 1, 1) := by decide +kernel
theorem dX12_write_35 : decode cX12_write 35 = .ok (.iaload, 1) := by decide +kernel
theorem dX12_write_36 : decode cX12_write 36 = .ok (.iconst 1, 1) := by decide +kernel
theorem dX12_write_37 : decode cX12_write 37 = .ok (.isub, 1) := by decide +kernel
theorem dX12_write_38 : decode cX12_write 38 = .ok (.i2l, 1) := by decide +kernel
theorem dX12_write_39 : decode cX12_write 39 = .ok (.invokestatic 213, 3) := by decide +kernel
theorem dX12_write_42 : decode cX12_write 42 = .ok (.ifCond .ne 6, 3) := by decide +kernel
theorem dX12_write_45 : decode cX12_write 45 = .ok (.bipush (-6), 2) := by decide +kernel
theorem dX12_write_47 : decode cX12_write 47 = .ok (.ireturn, 1) := by decide +kernel
theorem dX12_write_48 : decode cX12_write 48 = .ok (.aload_n 0, 1) := by decide +kernel
theorem dX12_write_49 : decode cX12_write 49 = .ok (.getfield 16, 3) := by decide +kernel
theorem dX12_write_52 : decode cX12_write 52 = .ok (.bipush 60, 2) := by decide +kernel
theorem dX12_write_54 : decode cX12_write 54 = .ok (.iload_n 1, 1) := by decide +kernel
theorem dX12_write_55 : decode cX12_write 55 = .ok (.imul, 1) := by decide +kernel
theorem dX12_write_56 : decode cX12_write 56 = .ok (.iload_n 2, 1) := by decide +kernel
theorem dX12_write_57 : decode cX12_write 57 = .ok (.iadd, 1) := by decide +kernel
theorem dX12_write_58 : decode cX12_write 58 = .ok (.aload_n 0, 1) := by decide +kernel
theorem dX12_write_59 : decode cX12_write 59 = .ok (.getfield 9, 3) := by decide +kernel
theorem dX12_write_62 : decode cX12_write 62 = .ok (.iload_n 1, 1) := by decide +kernel
theorem dX12_write_63 : decode cX12_write 63 = .ok (.iaload, 1) := by decide +kernel
theorem dX12_write_64 : decode cX12_write 64 = .ok (.lload_n 3, 1) := by decide +kernel
theorem dX12_write_65 : decode cX12_write 65 = .ok (.invokestatic 221, 3) := by decide +kernel
theorem dX12_write_68 : decode cX12_write 68 = .ok (.lastore, 1) := by decide +kernel
theorem dX12_write_69 : decode cX12_write 69 = .ok (.iconst 0, 1) := by decide +kernel
theorem dX12_write_70 : decode cX12_write 70 = .ok (.ireturn, 1) := by decide +kernel
def fX12_write (a1 : Int32) (a2 : Int32) (a3 : Int64) (h : Hp) : Option (Int32 × Hp) := lb (sI h 12 0 0 0) (fun h1 => br ((fX12_isPlace a1 h1) = 0) (some ((-2), h1)) (gd (ib a1 4) (br (0 ≤ (gI h1 54 0 (ix a1))) (gd (ib a1 4) (br ((fX12_in a2.toInt64 0 (((gI h1 55 0 (ix a1)) - 1).toInt64) h1) = 0) (some ((-6), h1)) (gd (ib a1 4) (gd (ib (((60 : Int32) * a1) + a2) 240) (lb (sJ h1 56 0 (ix (((60 : Int32) * a1) + a2)) (fX12_cut (gI h1 54 0 (ix a1)) a3 h1)) (fun h6 => some (0, h6))))))) (some ((-5), h1)))))
set_option maxRecDepth 20000 in
theorem tX12_write {X : Cz} {a1 : Int32} {a2 : Int32} {a3 : Int64} {h hE : Hp} {rE : Int32} (hF : fX12_write a1 a2 a3 h = some (rE, hE)) : Ct X mX12_write true [zr 12 0, zi a1, zi a2, zj a3] h (some (zi rE)) hE := by
  refine Ct_of (by decide) (Nat.le_of_ble_eq_true rfl) (ls := [(0, zr 12 0), (1, zi a1), (2, zi a2), (3, zj a3)]) rfl ?_
  unfold fX12_write at hF
  refine v_aload_n (j := 0) dX12_write_0 rfl ?_
  refine v_iconst (v := 0) dX12_write_1 (by decide) ?_
  refine v_putI (c := 12) rfl rfl (Nat.le_of_ble_eq_true rfl) cz12 flX12_208 dX12_write_2 ?_
  refine v_toph fun h1 eh1 => ?_
  replace hF := lb_use eh1 hF
  clear eh1
  refine v_iload_n (j := 1) dX12_write_5 rfl ?_
  refine v_cS (hm := h1) (av := [zi a1]) (st := []) (stn := [zi (fX12_isPlace a1 h1)]) (tX12_isPlace a1 h1) lcX12_isPlace mlX12_217 sxX12_isPlace rfl ⟨by decide, by decide⟩ (Nat.le_of_ble_eq_true rfl) dX12_write_6 rfl rfl ?_
  refine v_if_ne dX12_write_9 (by decide : _ = ((15 : Nat) : Int)) (fun q => ?_) (fun q => ?_)
  · replace hF := brF q hF
    refine v_aload_n (j := 0) dX12_write_15 rfl ?_
    refine v_getL (c := 12) rfl rfl rfl ly12_1 cz12 flX12_9 dX12_write_16 ?_
    refine v_iload_n (j := 1) dX12_write_19 rfl ?_
    replace hF := gd_use hF
    obtain ⟨q2, hF⟩ := hF
    refine v_iald rfl q2 dX12_write_20 ?_
    refine v_if_ge dX12_write_21 (by decide : _ = ((27 : Nat) : Int)) (fun q => ?_) (fun q => ?_)
    · replace hF := brT q hF
      refine v_iload_n (j := 2) dX12_write_27 rfl ?_
      refine v_i2l dX12_write_28 ?_
      refine v_lconst (v := 0) dX12_write_29 (by decide) ?_
      refine v_aload_n (j := 0) dX12_write_30 rfl ?_
      refine v_getL (c := 12) rfl rfl rfl ly12_2 cz12 flX12_13 dX12_write_31 ?_
      refine v_iload_n (j := 1) dX12_write_34 rfl ?_
      replace hF := gd_use hF
      obtain ⟨q3, hF⟩ := hF
      refine v_iald rfl q3 dX12_write_35 ?_
      refine v_iconst (v := 1) dX12_write_36 (by decide) ?_
      refine v_isub dX12_write_37 ?_
      refine v_i2l dX12_write_38 ?_
      refine v_cS (hm := h1) (av := [zj a2.toInt64, zj 0, zj (((gI h1 55 0 (ix a1)) - 1).toInt64)]) (st := []) (stn := [zi (fX12_in a2.toInt64 0 (((gI h1 55 0 (ix a1)) - 1).toInt64) h1)]) (tX12_in a2.toInt64 0 (((gI h1 55 0 (ix a1)) - 1).toInt64) h1) lcX12_in mlX12_213 sxX12_in rfl ⟨by decide, by decide⟩ (Nat.le_of_ble_eq_true rfl) dX12_write_39 rfl rfl ?_
      refine v_if_ne dX12_write_42 (by decide : _ = ((48 : Nat) : Int)) (fun q => ?_) (fun q => ?_)
      · replace hF := brF q hF
        refine v_aload_n (j := 0) dX12_write_48 rfl ?_
        refine v_getL (c := 12) rfl rfl rfl ly12_3 cz12 flX12_16 dX12_write_49 ?_
        refine v_bipush (v := 60) dX12_write_52 (by decide) ?_
        refine v_iload_n (j := 1) dX12_write_54 rfl ?_
        refine v_imul dX12_write_55 ?_
        refine v_iload_n (j := 2) dX12_write_56 rfl ?_
        refine v_iadd dX12_write_57 ?_
        refine v_aload_n (j := 0) dX12_write_58 rfl ?_
        refine v_getL (c := 12) rfl rfl rfl ly12_1 cz12 flX12_9 dX12_write_59 ?_
        refine v_iload_n (j := 1) dX12_write_62 rfl ?_
        replace hF := gd_use hF
        obtain ⟨q4, hF⟩ := hF
        refine v_iald rfl q4 dX12_write_63 ?_
        refine v_lload_n (j := 3) dX12_write_64 rfl ?_
        refine v_cS (hm := h1) (av := [zi (gI h1 54 0 (ix a1)), zj a3]) (st := [zi (((60 : Int32) * a1) + a2), zr 56 0]) (stn := [zj (fX12_cut (gI h1 54 0 (ix a1)) a3 h1), zi (((60 : Int32) * a1) + a2), zr 56 0]) (tX12_cut (gI h1 54 0 (ix a1)) a3 h1) lcX12_cut mlX12_221 sxX12_cut rfl ⟨by decide, by decide⟩ (Nat.le_of_ble_eq_true rfl) dX12_write_65 rfl rfl ?_
        replace hF := gd_use hF
        obtain ⟨q5, hF⟩ := hF
        refine v_last rfl q5 dX12_write_68 ?_
        refine v_toph fun h6 eh6 => ?_
        replace hF := lb_use eh6 hF
        clear eh6
        refine v_iconst (v := 0) dX12_write_69 (by decide) ?_
        obtain ⟨rfl, rfl⟩ := ret_use hF
        exact v_iret rfl dX12_write_70
      · replace hF := brT (Decidable.not_not.mp q) hF
        refine v_bipush (v := (-6)) dX12_write_45 (by decide) ?_
        obtain ⟨rfl, rfl⟩ := ret_use hF
        exact v_iret rfl dX12_write_47
    · replace hF := brF q hF
      refine v_bipush (v := (-5)) dX12_write_24 (by decide) ?_
      obtain ⟨rfl, rfl⟩ := ret_use hF
      exact v_iret rfl dX12_write_26
  · replace hF := brT (Decidable.not_not.mp q) hF
    refine v_bipush (v := (-2)) dX12_write_12 (by decide) ?_
    obtain ⟨rfl, rfl⟩ := ret_use hF
    exact v_iret rfl dX12_write_14
theorem dX12_paste_0 : decode cX12_paste 0 = .ok (.aload_n 0, 1) := by decide +kernel
theorem dX12_paste_1 : decode cX12_paste 1 = .ok (.iconst 0, 1) := by decide +kernel
theorem dX12_paste_2 : decode cX12_paste 2 = .ok (.putfield 208, 3) := by decide +kernel
theorem dX12_paste_5 : decode cX12_paste 5 = .ok (.iload_n 1, 1) := by decide +kernel
theorem dX12_paste_6 : decode cX12_paste 6 = .ok (.invokestatic 217, 3) := by decide +kernel
theorem dX12_paste_9 : decode cX12_paste 9 = .ok (.ifCond .eq 10, 3) := by decide +kernel
theorem dX12_paste_12 : decode cX12_paste 12 = .ok (.iload_n 3, 1) := by decide +kernel
theorem dX12_paste_13 : decode cX12_paste 13 = .ok (.invokestatic 217, 3) := by decide +kernel
theorem dX12_paste_16 : decode cX12_paste 16 = .ok (.ifCond .ne 6, 3) := by decide +kernel
theorem dX12_paste_19 : decode cX12_paste 19 = .ok (.bipush (-2), 2) := by decide +kernel
theorem dX12_paste_21 : decode cX12_paste 21 = .ok (.ireturn, 1) := by decide +kernel
theorem dX12_paste_22 : decode cX12_paste 22 = .ok (.aload_n 0, 1) := by decide +kernel
theorem dX12_paste_23 : decode cX12_paste 23 = .ok (.getfield 9, 3) := by decide +kernel
theorem dX12_paste_26 : decode cX12_paste 26 = .ok (.iload_n 1, 1) := by decide +kernel
theorem dX12_paste_27 : decode cX12_paste 27 = .ok (.iaload, 1) := by decide +kernel
theorem dX12_paste_28 : decode cX12_paste 28 = .ok (.ifCond .lt 12, 3) := by decide +kernel
theorem dX12_paste_31 : decode cX12_paste 31 = .ok (.aload_n 0, 1) := by decide +kernel
theorem dX12_paste_32 : decode cX12_paste 32 = .ok (.getfield 9, 3) := by decide +kernel
theorem dX12_paste_35 : decode cX12_paste 35 = .ok (.iload_n 3, 1) := by decide +kernel
theorem dX12_paste_36 : decode cX12_paste 36 = .ok (.iaload, 1) := by decide +kernel
theorem dX12_paste_37 : decode cX12_paste 37 = .ok (.ifCond .ge 6, 3) := by decide +kernel
theorem dX12_paste_40 : decode cX12_paste 40 = .ok (.bipush (-5), 2) := by decide +kernel
theorem dX12_paste_42 : decode cX12_paste 42 = .ok (.ireturn, 1) := by decide +kernel
theorem dX12_paste_43 : decode cX12_paste 43 = .ok (.aload_n 0, 1) := by decide +kernel
theorem dX12_paste_44 : decode cX12_paste 44 = .ok (.getfield 9, 3) := by decide +kernel
theorem dX12_paste_47 : decode cX12_paste 47 = .ok (.iload_n 1, 1) := by decide +kernel
theorem dX12_paste_48 : decode cX12_paste 48 = .ok (.iaload, 1) := by decide +kernel
theorem dX12_paste_49 : decode cX12_paste 49 = .ok (.aload_n 0, 1) := by decide +kernel
theorem dX12_paste_50 : decode cX12_paste 50 = .ok (.getfield 9, 3) := by decide +kernel
theorem dX12_paste_53 : decode cX12_paste 53 = .ok (.iload_n 3, 1) := by decide +kernel
theorem dX12_paste_54 : decode cX12_paste 54 = .ok (.iaload, 1) := by decide +kernel
theorem dX12_paste_55 : decode cX12_paste 55 = .ok (.if_icmp .eq 6, 3) := by decide +kernel
theorem dX12_paste_58 : decode cX12_paste 58 = .ok (.bipush (-7), 2) := by decide +kernel
theorem dX12_paste_60 : decode cX12_paste 60 = .ok (.ireturn, 1) := by decide +kernel
theorem dX12_paste_61 : decode cX12_paste 61 = .ok (.iload_n 2, 1) := by decide +kernel
theorem dX12_paste_62 : decode cX12_paste 62 = .ok (.ifCond .lt 48, 3) := by decide +kernel
theorem dX12_paste_65 : decode cX12_paste 65 = .ok (.iload 4, 2) := by decide +kernel
theorem dX12_paste_67 : decode cX12_paste 67 = .ok (.ifCond .lt 43, 3) := by decide +kernel
theorem dX12_paste_70 : decode cX12_paste 70 = .ok (.iload 5, 2) := by decide +kernel
theorem dX12_paste_72 : decode cX12_paste 72 = .ok (.ifCond .lt 38, 3) := by decide +kernel
theorem dX12_paste_75 : decode cX12_paste 75 = .ok (.iload_n 2, 1) := by decide +kernel
theorem dX12_paste_76 : decode cX12_paste 76 = .ok (.i2l, 1) := by decide +kernel
theorem dX12_paste_77 : decode cX12_paste 77 = .ok (.iload 5, 2) := by decide +kernel
theorem dX12_paste_79 : decode cX12_paste 79 = .ok (.i2l, 1) := by decide +kernel
theorem dX12_paste_80 : decode cX12_paste 80 = .ok (.ladd, 1) := by decide +kernel
theorem dX12_paste_81 : decode cX12_paste 81 = .ok (.aload_n 0, 1) := by decide +kernel
theorem dX12_paste_82 : decode cX12_paste 82 = .ok (.getfield 13, 3) := by decide +kernel
theorem dX12_paste_85 : decode cX12_paste 85 = .ok (.iload_n 1, 1) := by decide +kernel
theorem dX12_paste_86 : decode cX12_paste 86 = .ok (.iaload, 1) := by decide +kernel
theorem dX12_paste_87 : decode cX12_paste 87 = .ok (.i2l, 1) := by decide +kernel
theorem dX12_paste_88 : decode cX12_paste 88 = .ok (.lcmp, 1) := by decide +kernel
theorem dX12_paste_89 : decode cX12_paste 89 = .ok (.ifCond .gt 21, 3) := by decide +kernel
theorem dX12_paste_92 : decode cX12_paste 92 = .ok (.iload 4, 2) := by decide +kernel
theorem dX12_paste_94 : decode cX12_paste 94 = .ok (.i2l, 1) := by decide +kernel
theorem dX12_paste_95 : decode cX12_paste 95 = .ok (.iload 5, 2) := by decide +kernel
theorem dX12_paste_97 : decode cX12_paste 97 = .ok (.i2l, 1) := by decide +kernel
theorem dX12_paste_98 : decode cX12_paste 98 = .ok (.ladd, 1) := by decide +kernel
theorem dX12_paste_99 : decode cX12_paste 99 = .ok (.aload_n 0, 1) := by decide +kernel
theorem dX12_paste_100 : decode cX12_paste 100 = .ok (.getfield 13, 3) := by decide +kernel
theorem dX12_paste_103 : decode cX12_paste 103 = .ok (.iload_n 3, 1) := by decide +kernel
theorem dX12_paste_104 : decode cX12_paste 104 = .ok (.iaload, 1) := by decide +kernel
theorem dX12_paste_105 : decode cX12_paste 105 = .ok (.i2l, 1) := by decide +kernel
theorem dX12_paste_106 : decode cX12_paste 106 = .ok (.lcmp, 1) := by decide +kernel
theorem dX12_paste_107 : decode cX12_paste 107 = .ok (.ifCond .le 6, 3) := by decide +kernel
theorem dX12_paste_110 : decode cX12_paste 110 = .ok (.bipush (-6), 2) := by decide +kernel
theorem dX12_paste_112 : decode cX12_paste 112 = .ok (.ireturn, 1) := by decide +kernel
theorem dX12_paste_113 : decode cX12_paste 113 = .ok (.iconst 0, 1) := by decide +kernel
theorem dX12_paste_114 : decode cX12_paste 114 = .ok (.istore 6, 2) := by decide +kernel
theorem dX12_paste_116 : decode cX12_paste 116 = .ok (.iload 6, 2) := by decide +kernel
theorem dX12_paste_118 : decode cX12_paste 118 = .ok (.iload 5, 2) := by decide +kernel
theorem dX12_paste_120 : decode cX12_paste 120 = .ok (.if_icmp .ge 30, 3) := by decide +kernel
theorem dX12_paste_123 : decode cX12_paste 123 = .ok (.aload_n 0, 1) := by decide +kernel
theorem dX12_paste_124 : decode cX12_paste 124 = .ok (.getfield 20, 3) := by decide +kernel
theorem dX12_paste_127 : decode cX12_paste 127 = .ok (.iload 6, 2) := by decide +kernel
theorem dX12_paste_129 : decode cX12_paste 129 = .ok (.aload_n 0, 1) := by decide +kernel
theorem dX12_paste_130 : decode cX12_paste 130 = .ok (.getfield 16, 3) := by decide +kernel
theorem dX12_paste_133 : decode cX12_paste 133 = .ok (.bipush 60, 2) := by decide +kernel
theorem dX12_paste_135 : decode cX12_paste 135 = .ok (.iload_n 1, 1) := by decide +kernel
theorem dX12_paste_136 : decode cX12_paste 136 = .ok (.imul, 1) := by decide +kernel
theorem dX12_paste_137 : decode cX12_paste 137 = .ok (.iload_n 2, 1) := by decide +kernel
theorem dX12_paste_138 : decode cX12_paste 138 = .ok (.iadd, 1) := by decide +kernel
theorem dX12_paste_139 : decode cX12_paste 139 = .ok (.iload 6, 2) := by decide +kernel
theorem dX12_paste_141 : decode cX12_paste 141 = .ok (.iadd, 1) := by decide +kernel
theorem dX12_paste_142 : decode cX12_paste 142 = .ok (.laload, 1) := by decide +kernel
theorem dX12_paste_143 : decode cX12_paste 143 = .ok (.lastore, 1) := by decide +kernel
theorem dX12_paste_144 : decode cX12_paste 144 = .ok (.iinc 6 1, 3) := by decide +kernel
theorem dX12_paste_147 : decode cX12_paste 147 = .ok (.goto (-31), 3) := by decide +kernel
theorem dX12_paste_150 : decode cX12_paste 150 = .ok (.iconst 0, 1) := by decide +kernel
theorem dX12_paste_151 : decode cX12_paste 151 = .ok (.istore 6, 2) := by decide +kernel
theorem dX12_paste_153 : decode cX12_paste 153 = .ok (.iload 6, 2) := by decide +kernel
theorem dX12_paste_155 : decode cX12_paste 155 = .ok (.iload 5, 2) := by decide +kernel
theorem dX12_paste_157 : decode cX12_paste 157 = .ok (.if_icmp .ge 31, 3) := by decide +kernel
theorem dX12_paste_160 : decode cX12_paste 160 = .ok (.aload_n 0, 1) := by decide +kernel
theorem dX12_paste_161 : decode cX12_paste 161 = .ok (.getfield 16, 3) := by decide +kernel
theorem dX12_paste_164 : decode cX12_paste 164 = .ok (.bipush 60, 2) := by decide +kernel
theorem dX12_paste_166 : decode cX12_paste 166 = .ok (.iload_n 3, 1) := by decide +kernel
theorem dX12_paste_167 : decode cX12_paste 167 = .ok (.imul, 1) := by decide +kernel
theorem dX12_paste_168 : decode cX12_paste 168 = .ok (.iload 4, 2) := by decide +kernel
theorem dX12_paste_170 : decode cX12_paste 170 = .ok (.iadd, 1) := by decide +kernel
theorem dX12_paste_171 : decode cX12_paste 171 = .ok (.iload 6, 2) := by decide +kernel
theorem dX12_paste_173 : decode cX12_paste 173 = .ok (.iadd, 1) := by decide +kernel
theorem dX12_paste_174 : decode cX12_paste 174 = .ok (.aload_n 0, 1) := by decide +kernel
theorem dX12_paste_175 : decode cX12_paste 175 = .ok (.getfield 20, 3) := by decide +kernel
theorem dX12_paste_178 : decode cX12_paste 178 = .ok (.iload 6, 2) := by decide +kernel
theorem dX12_paste_180 : decode cX12_paste 180 = .ok (.laload, 1) := by decide +kernel
theorem dX12_paste_181 : decode cX12_paste 181 = .ok (.lastore, 1) := by decide +kernel
theorem dX12_paste_182 : decode cX12_paste 182 = .ok (.iinc 6 1, 3) := by decide +kernel
theorem dX12_paste_185 : decode cX12_paste 185 = .ok (.goto (-32), 3) := by decide +kernel
theorem dX12_paste_188 : decode cX12_paste 188 = .ok (.iconst 0, 1) := by decide +kernel
theorem dX12_paste_189 : decode cX12_paste 189 = .ok (.ireturn, 1) := by decide +kernel
def fX12_paste_L116 : Nat → Int32 → Int32 → Int32 → Int32 → Int32 → Int32 → Hp → Option ((Int32) × Hp)
  | 0, _, _, _, _, _, _, _ => none
  | n + 1, a1, a2, a3, a4, a5, a6, h => br (a5 ≤ a6) (some ((a6), h)) (gd (ib ((((60 : Int32) * a1) + a2) + a6) 240) (gd (ib a6 60) (lb (sJ h 57 0 (ix a6) (gJ h 56 0 (ix ((((60 : Int32) * a1) + a2) + a6)))) (fun h10 => lb (a6 + 1) (fun v11 => fX12_paste_L116 n a1 a2 a3 a4 a5 v11 h10)))))
def fX12_paste_L153 : Nat → Int32 → Int32 → Int32 → Int32 → Hp → Option ((Int32) × Hp)
  | 0, _, _, _, _, _ => none
  | n + 1, a3, a4, a5, a6, h => br (a5 ≤ a6) (some ((a6), h)) (gd (ib a6 60) (gd (ib ((((60 : Int32) * a3) + a4) + a6) 240) (lb (sJ h 56 0 (ix ((((60 : Int32) * a3) + a4) + a6)) (gJ h 57 0 (ix a6))) (fun h17 => lb (a6 + 1) (fun v18 => fX12_paste_L153 n a3 a4 a5 v18 h17)))))
def fX12_paste (a1 : Int32) (a2 : Int32) (a3 : Int32) (a4 : Int32) (a5 : Int32) (h : Hp) : Option (Int32 × Hp) := lb (sI h 12 0 0 0) (fun h1 => br ((fX12_isPlace a1 h1) = 0) (some ((-2), h1)) (br ((fX12_isPlace a3 h1) = 0) (some ((-2), h1)) (gd (ib a1 4) (br ((gI h1 54 0 (ix a1)) < 0) (some ((-5), h1)) (gd (ib a3 4) (br (0 ≤ (gI h1 54 0 (ix a3))) (gd (ib a1 4) (gd (ib a3 4) (br ((gI h1 54 0 (ix a1)) = (gI h1 54 0 (ix a3))) (br (a2 < 0) (some ((-6), h1)) (br (a4 < 0) (some ((-6), h1)) (br (a5 < 0) (some ((-6), h1)) (gd (ib a1 4) (br (((gI h1 55 0 (ix a1)).toInt64) < (a2.toInt64 + a5.toInt64)) (some ((-6), h1)) (gd (ib a3 4) (br ((a4.toInt64 + a5.toInt64) ≤ ((gI h1 55 0 (ix a3)).toInt64)) (bd (fX12_paste_L116 FU a1 a2 a3 a4 a5 0 h1) (fun v14 h12 => bd (fX12_paste_L153 FU a3 a4 a5 0 h12) (fun v21 h19 => some (0, h19)))) (some ((-6), h1))))))))) (some ((-7), h1))))) (some ((-5), h1))))))))
set_option maxRecDepth 20000 in
theorem tX12_paste_L116 {X : Cz} {h0 : Hp} {r : Option AV} {hE : Hp} : ∀ (n : Nat) (a1 : Int32) (a2 : Int32) (a3 : Int32) (a4 : Int32) (a5 : Int32) (a6 : Int32) (h : Hp) (z : (Int32) × Hp), fX12_paste_L116 n a1 a2 a3 a4 a5 a6 h = some z → V X mX12_paste true h0 150 [(0, zr 12 0), (1, zi a1), (2, zi a2), (3, zi a3), (4, zi a4), (5, zi a5), (6, zi z.1)] [] z.2 r hE → V X mX12_paste true h0 116 [(0, zr 12 0), (1, zi a1), (2, zi a2), (3, zi a3), (4, zi a4), (5, zi a5), (6, zi a6)] [] h r hE := by
  intro n
  induction n with
  | zero => intro a1 a2 a3 a4 a5 a6 h z hF k; cases hF
  | succ n ih =>
    intro a1 a2 a3 a4 a5 a6 h z hF k
    rw [fX12_paste_L116] at hF
    refine v_iload (j := 6) dX12_paste_116 rfl ?_
    refine v_iload (j := 5) dX12_paste_118 rfl ?_
    refine v_icmp_ge dX12_paste_120 (by decide : _ = ((150 : Nat) : Int)) (fun q => ?_) (fun q => ?_)
    · replace hF := brT q hF
      cases hF
      exact k
    · replace hF := brF q hF
      refine v_aload_n (j := 0) dX12_paste_123 rfl ?_
      refine v_getL (c := 12) rfl rfl rfl ly12_4 cz12 flX12_20 dX12_paste_124 ?_
      refine v_iload (j := 6) dX12_paste_127 rfl ?_
      refine v_aload_n (j := 0) dX12_paste_129 rfl ?_
      refine v_getL (c := 12) rfl rfl rfl ly12_3 cz12 flX12_16 dX12_paste_130 ?_
      refine v_bipush (v := 60) dX12_paste_133 (by decide) ?_
      refine v_iload_n (j := 1) dX12_paste_135 rfl ?_
      refine v_imul dX12_paste_136 ?_
      refine v_iload_n (j := 2) dX12_paste_137 rfl ?_
      refine v_iadd dX12_paste_138 ?_
      refine v_iload (j := 6) dX12_paste_139 rfl ?_
      refine v_iadd dX12_paste_141 ?_
      replace hF := gd_use hF
      obtain ⟨q8, hF⟩ := hF
      refine v_lald rfl q8 dX12_paste_142 ?_
      replace hF := gd_use hF
      obtain ⟨q9, hF⟩ := hF
      refine v_last rfl q9 dX12_paste_143 ?_
      refine v_toph fun h10 eh10 => ?_
      replace hF := lb_use eh10 hF
      clear eh10
      obtain ⟨v11, ev11⟩ : ∃ y : Int32, y = a6 + 1 := ⟨_, rfl⟩
      replace hF := lb_use ev11 hF
      refine v_iinc (j := 6) (v := v11) (ls' := [(6, zi v11), (0, zr 12 0), (1, zi a1), (2, zi a2), (3, zi a3), (4, zi a4), (5, zi a5)]) dX12_paste_144 rfl (by rw [ev11]; rfl) (by decide) rfl ?_
      clear ev11
      refine v_goto (tgt := 116) dX12_paste_147 (by decide) ?_
      refine v_sub [1, 2, 3, 4, 5, 6, 0] rfl ?_
      exact ih a1 a2 a3 a4 a5 v11 h10 _ hF k
set_option maxRecDepth 20000 in
theorem tX12_paste_L153 {X : Cz} {h0 : Hp} {r : Option AV} {hE : Hp} : ∀ (n : Nat) (a3 : Int32) (a4 : Int32) (a5 : Int32) (a6 : Int32) (h : Hp) (z : (Int32) × Hp), fX12_paste_L153 n a3 a4 a5 a6 h = some z → V X mX12_paste true h0 188 [(0, zr 12 0), (3, zi a3), (4, zi a4), (5, zi a5), (6, zi z.1)] [] z.2 r hE → V X mX12_paste true h0 153 [(0, zr 12 0), (3, zi a3), (4, zi a4), (5, zi a5), (6, zi a6)] [] h r hE := by
  intro n
  induction n with
  | zero => intro a3 a4 a5 a6 h z hF k; cases hF
  | succ n ih =>
    intro a3 a4 a5 a6 h z hF k
    rw [fX12_paste_L153] at hF
    refine v_iload (j := 4) dX12_paste_153 rfl ?_
    refine v_iload (j := 3) dX12_paste_155 rfl ?_
    refine v_icmp_ge dX12_paste_157 (by decide : _ = ((188 : Nat) : Int)) (fun q => ?_) (fun q => ?_)
    · replace hF := brT q hF
      cases hF
      exact k
    · replace hF := brF q hF
      refine v_aload_n (j := 0) dX12_paste_160 rfl ?_
      refine v_getL (c := 12) rfl rfl rfl ly12_3 cz12 flX12_16 dX12_paste_161 ?_
      refine v_bipush (v := 60) dX12_paste_164 (by decide) ?_
      refine v_iload_n (j := 1) dX12_paste_166 rfl ?_
      refine v_imul dX12_paste_167 ?_
      refine v_iload (j := 2) dX12_paste_168 rfl ?_
      refine v_iadd dX12_paste_170 ?_
      refine v_iload (j := 4) dX12_paste_171 rfl ?_
      refine v_iadd dX12_paste_173 ?_
      refine v_aload_n (j := 0) dX12_paste_174 rfl ?_
      refine v_getL (c := 12) rfl rfl rfl ly12_4 cz12 flX12_20 dX12_paste_175 ?_
      refine v_iload (j := 4) dX12_paste_178 rfl ?_
      replace hF := gd_use hF
      obtain ⟨q15, hF⟩ := hF
      refine v_lald rfl q15 dX12_paste_180 ?_
      replace hF := gd_use hF
      obtain ⟨q16, hF⟩ := hF
      refine v_last rfl q16 dX12_paste_181 ?_
      refine v_toph fun h17 eh17 => ?_
      replace hF := lb_use eh17 hF
      clear eh17
      obtain ⟨v18, ev18⟩ : ∃ y : Int32, y = a6 + 1 := ⟨_, rfl⟩
      replace hF := lb_use ev18 hF
      refine v_iinc (j := 4) (v := v18) (ls' := [(6, zi v18), (0, zr 12 0), (3, zi a3), (4, zi a4), (5, zi a5)]) dX12_paste_182 rfl (by rw [ev18]; rfl) (by decide) rfl ?_
      clear ev18
      refine v_goto (tgt := 153) dX12_paste_185 (by decide) ?_
      refine v_sub [1, 2, 3, 4, 0] rfl ?_
      exact ih a3 a4 a5 v18 h17 _ hF k
set_option maxRecDepth 20000 in
theorem tX12_paste {X : Cz} {a1 : Int32} {a2 : Int32} {a3 : Int32} {a4 : Int32} {a5 : Int32} {h hE : Hp} {rE : Int32} (hF : fX12_paste a1 a2 a3 a4 a5 h = some (rE, hE)) : Ct X mX12_paste true [zr 12 0, zi a1, zi a2, zi a3, zi a4, zi a5] h (some (zi rE)) hE := by
  refine Ct_of (by decide) (Nat.le_of_ble_eq_true rfl) (ls := [(0, zr 12 0), (1, zi a1), (2, zi a2), (3, zi a3), (4, zi a4), (5, zi a5)]) rfl ?_
  unfold fX12_paste at hF
  refine v_aload_n (j := 0) dX12_paste_0 rfl ?_
  refine v_iconst (v := 0) dX12_paste_1 (by decide) ?_
  refine v_putI (c := 12) rfl rfl (Nat.le_of_ble_eq_true rfl) cz12 flX12_208 dX12_paste_2 ?_
  refine v_toph fun h1 eh1 => ?_
  replace hF := lb_use eh1 hF
  clear eh1
  refine v_iload_n (j := 1) dX12_paste_5 rfl ?_
  refine v_cS (hm := h1) (av := [zi a1]) (st := []) (stn := [zi (fX12_isPlace a1 h1)]) (tX12_isPlace a1 h1) lcX12_isPlace mlX12_217 sxX12_isPlace rfl ⟨by decide, by decide⟩ (Nat.le_of_ble_eq_true rfl) dX12_paste_6 rfl rfl ?_
  refine v_if_eq dX12_paste_9 (by decide : _ = ((19 : Nat) : Int)) (fun q => ?_) (fun q => ?_)
  · replace hF := brT q hF
    refine v_bipush (v := (-2)) dX12_paste_19 (by decide) ?_
    obtain ⟨rfl, rfl⟩ := ret_use hF
    exact v_iret rfl dX12_paste_21
  · replace hF := brF q hF
    refine v_iload_n (j := 3) dX12_paste_12 rfl ?_
    refine v_cS (hm := h1) (av := [zi a3]) (st := []) (stn := [zi (fX12_isPlace a3 h1)]) (tX12_isPlace a3 h1) lcX12_isPlace mlX12_217 sxX12_isPlace rfl ⟨by decide, by decide⟩ (Nat.le_of_ble_eq_true rfl) dX12_paste_13 rfl rfl ?_
    refine v_if_ne dX12_paste_16 (by decide : _ = ((22 : Nat) : Int)) (fun q => ?_) (fun q => ?_)
    · replace hF := brF q hF
      refine v_aload_n (j := 0) dX12_paste_22 rfl ?_
      refine v_getL (c := 12) rfl rfl rfl ly12_1 cz12 flX12_9 dX12_paste_23 ?_
      refine v_iload_n (j := 1) dX12_paste_26 rfl ?_
      replace hF := gd_use hF
      obtain ⟨q2, hF⟩ := hF
      refine v_iald rfl q2 dX12_paste_27 ?_
      refine v_if_lt dX12_paste_28 (by decide : _ = ((40 : Nat) : Int)) (fun q => ?_) (fun q => ?_)
      · replace hF := brT q hF
        refine v_bipush (v := (-5)) dX12_paste_40 (by decide) ?_
        obtain ⟨rfl, rfl⟩ := ret_use hF
        exact v_iret rfl dX12_paste_42
      · replace hF := brF q hF
        refine v_aload_n (j := 0) dX12_paste_31 rfl ?_
        refine v_getL (c := 12) rfl rfl rfl ly12_1 cz12 flX12_9 dX12_paste_32 ?_
        refine v_iload_n (j := 3) dX12_paste_35 rfl ?_
        replace hF := gd_use hF
        obtain ⟨q3, hF⟩ := hF
        refine v_iald rfl q3 dX12_paste_36 ?_
        refine v_if_ge dX12_paste_37 (by decide : _ = ((43 : Nat) : Int)) (fun q => ?_) (fun q => ?_)
        · replace hF := brT q hF
          refine v_aload_n (j := 0) dX12_paste_43 rfl ?_
          refine v_getL (c := 12) rfl rfl rfl ly12_1 cz12 flX12_9 dX12_paste_44 ?_
          refine v_iload_n (j := 1) dX12_paste_47 rfl ?_
          replace hF := gd_use hF
          obtain ⟨q4, hF⟩ := hF
          refine v_iald rfl q4 dX12_paste_48 ?_
          refine v_aload_n (j := 0) dX12_paste_49 rfl ?_
          refine v_getL (c := 12) rfl rfl rfl ly12_1 cz12 flX12_9 dX12_paste_50 ?_
          refine v_iload_n (j := 3) dX12_paste_53 rfl ?_
          replace hF := gd_use hF
          obtain ⟨q5, hF⟩ := hF
          refine v_iald rfl q5 dX12_paste_54 ?_
          refine v_icmp_eq dX12_paste_55 (by decide : _ = ((61 : Nat) : Int)) (fun q => ?_) (fun q => ?_)
          · replace hF := brT q hF
            refine v_iload_n (j := 2) dX12_paste_61 rfl ?_
            refine v_if_lt dX12_paste_62 (by decide : _ = ((110 : Nat) : Int)) (fun q => ?_) (fun q => ?_)
            · replace hF := brT q hF
              refine v_bipush (v := (-6)) dX12_paste_110 (by decide) ?_
              obtain ⟨rfl, rfl⟩ := ret_use hF
              exact v_iret rfl dX12_paste_112
            · replace hF := brF q hF
              refine v_iload (j := 4) dX12_paste_65 rfl ?_
              refine v_if_lt dX12_paste_67 (by decide : _ = ((110 : Nat) : Int)) (fun q => ?_) (fun q => ?_)
              · replace hF := brT q hF
                refine v_bipush (v := (-6)) dX12_paste_110 (by decide) ?_
                obtain ⟨rfl, rfl⟩ := ret_use hF
                exact v_iret rfl dX12_paste_112
              · replace hF := brF q hF
                refine v_iload (j := 5) dX12_paste_70 rfl ?_
                refine v_if_lt dX12_paste_72 (by decide : _ = ((110 : Nat) : Int)) (fun q => ?_) (fun q => ?_)
                · replace hF := brT q hF
                  refine v_bipush (v := (-6)) dX12_paste_110 (by decide) ?_
                  obtain ⟨rfl, rfl⟩ := ret_use hF
                  exact v_iret rfl dX12_paste_112
                · replace hF := brF q hF
                  refine v_iload_n (j := 2) dX12_paste_75 rfl ?_
                  refine v_i2l dX12_paste_76 ?_
                  refine v_iload (j := 5) dX12_paste_77 rfl ?_
                  refine v_i2l dX12_paste_79 ?_
                  refine v_ladd dX12_paste_80 ?_
                  refine v_aload_n (j := 0) dX12_paste_81 rfl ?_
                  refine v_getL (c := 12) rfl rfl rfl ly12_2 cz12 flX12_13 dX12_paste_82 ?_
                  refine v_iload_n (j := 1) dX12_paste_85 rfl ?_
                  replace hF := gd_use hF
                  obtain ⟨q6, hF⟩ := hF
                  refine v_iald rfl q6 dX12_paste_86 ?_
                  refine v_i2l dX12_paste_87 ?_
                  refine v_lif_gt (x := (a2.toInt64 + a5.toInt64)) (y := ((gI h1 55 0 (ix a1)).toInt64)) dX12_paste_88 dX12_paste_89 (by decide : _ = ((110 : Nat) : Int)) (fun q => ?_) (fun q => ?_)
                  · replace hF := brT q hF
                    refine v_bipush (v := (-6)) dX12_paste_110 (by decide) ?_
                    obtain ⟨rfl, rfl⟩ := ret_use hF
                    exact v_iret rfl dX12_paste_112
                  · replace hF := brF q hF
                    refine v_iload (j := 4) dX12_paste_92 rfl ?_
                    refine v_i2l dX12_paste_94 ?_
                    refine v_iload (j := 5) dX12_paste_95 rfl ?_
                    refine v_i2l dX12_paste_97 ?_
                    refine v_ladd dX12_paste_98 ?_
                    refine v_aload_n (j := 0) dX12_paste_99 rfl ?_
                    refine v_getL (c := 12) rfl rfl rfl ly12_2 cz12 flX12_13 dX12_paste_100 ?_
                    refine v_iload_n (j := 3) dX12_paste_103 rfl ?_
                    replace hF := gd_use hF
                    obtain ⟨q7, hF⟩ := hF
                    refine v_iald rfl q7 dX12_paste_104 ?_
                    refine v_i2l dX12_paste_105 ?_
                    refine v_lif_le (x := (a4.toInt64 + a5.toInt64)) (y := ((gI h1 55 0 (ix a3)).toInt64)) dX12_paste_106 dX12_paste_107 (by decide : _ = ((113 : Nat) : Int)) (fun q => ?_) (fun q => ?_)
                    · replace hF := brT q hF
                      refine v_iconst (v := 0) dX12_paste_113 (by decide) ?_
                      refine v_istore (ls' := [(6, zi 0), (0, zr 12 0), (1, zi a1), (2, zi a2), (3, zi a3), (4, zi a4), (5, zi a5)]) dX12_paste_114 (by decide) rfl ?_
                      refine v_sub [1, 2, 3, 4, 5, 6, 0] rfl ?_
                      replace hF := bd_use hF
                      obtain ⟨v14, h12, ev14, hF⟩ := hF
                      refine tX12_paste_L116 _ a1 a2 a3 a4 a5 0 h1 _ ev14 ?_
                      clear ev14
                      refine v_iconst (v := 0) dX12_paste_150 (by decide) ?_
                      refine v_istore (ls' := [(6, zi 0), (0, zr 12 0), (1, zi a1), (2, zi a2), (3, zi a3), (4, zi a4), (5, zi a5)]) dX12_paste_151 (by decide) rfl ?_
                      refine v_sub [1, 4, 5, 6, 0] rfl ?_
                      replace hF := bd_use hF
                      obtain ⟨v21, h19, ev21, hF⟩ := hF
                      refine tX12_paste_L153 _ a3 a4 a5 0 h12 _ ev21 ?_
                      clear ev21
                      refine v_iconst (v := 0) dX12_paste_188 (by decide) ?_
                      obtain ⟨rfl, rfl⟩ := ret_use hF
                      exact v_iret rfl dX12_paste_189
                    · replace hF := brF q hF
                      refine v_bipush (v := (-6)) dX12_paste_110 (by decide) ?_
                      obtain ⟨rfl, rfl⟩ := ret_use hF
                      exact v_iret rfl dX12_paste_112
          · replace hF := brF q hF
            refine v_bipush (v := (-7)) dX12_paste_58 (by decide) ?_
            obtain ⟨rfl, rfl⟩ := ret_use hF
            exact v_iret rfl dX12_paste_60
        · replace hF := brF q hF
          refine v_bipush (v := (-5)) dX12_paste_40 (by decide) ?_
          obtain ⟨rfl, rfl⟩ := ret_use hF
          exact v_iret rfl dX12_paste_42
    · replace hF := brT (Decidable.not_not.mp q) hF
      refine v_bipush (v := (-2)) dX12_paste_19 (by decide) ?_
      obtain ⟨rfl, rfl⟩ := ret_use hF
      exact v_iret rfl dX12_paste_21
theorem dX12_isPoint_0 : decode cX12_isPoint 0 = .ok (.iload_n 0, 1) := by decide +kernel
theorem dX12_isPoint_1 : decode cX12_isPoint 1 = .ok (.i2l, 1) := by decide +kernel
theorem dX12_isPoint_2 : decode cX12_isPoint 2 = .ok (.lconst 0, 1) := by decide +kernel
theorem dX12_isPoint_3 : decode cX12_isPoint 3 = .ok (.ldc2_w 225, 3) := by decide +kernel
theorem dX12_isPoint_6 : decode cX12_isPoint 6 = .ok (.invokestatic 213, 3) := by decide +kernel
theorem dX12_isPoint_9 : decode cX12_isPoint 9 = .ok (.ifCond .eq 19, 3) := by decide +kernel
theorem dX12_isPoint_12 : decode cX12_isPoint 12 = .ok (.iload_n 1, 1) := by decide +kernel
theorem dX12_isPoint_13 : decode cX12_isPoint 13 = .ok (.i2l, 1) := by decide +kernel
theorem dX12_isPoint_14 : decode cX12_isPoint 14 = .ok (.lconst 0, 1) := by decide +kernel
theorem dX12_isPoint_15 : decode cX12_isPoint 15 = .ok (.ldc2_w 225, 3) := by decide +kernel
theorem dX12_isPoint_18 : decode cX12_isPoint 18 = .ok (.invokestatic 213, 3) := by decide +kernel
theorem dX12_isPoint_21 : decode cX12_isPoint 21 = .ok (.ifCond .eq 7, 3) := by decide +kernel
theorem dX12_isPoint_24 : decode cX12_isPoint 24 = .ok (.iconst 1, 1) := by decide +kernel
theorem dX12_isPoint_25 : decode cX12_isPoint 25 = .ok (.goto 4, 3) := by decide +kernel
theorem dX12_isPoint_28 : decode cX12_isPoint 28 = .ok (.iconst 0, 1) := by decide +kernel
theorem dX12_isPoint_29 : decode cX12_isPoint 29 = .ok (.ireturn, 1) := by decide +kernel
def fX12_isPoint (a0 : Int32) (a1 : Int32) (h : Hp) : Int32 := br ((fX12_in a0.toInt64 0 60 h) = 0) (0) (br ((fX12_in a1.toInt64 0 60 h) = 0) (0) (1))
set_option maxRecDepth 20000 in
theorem tX12_isPoint {X : Cz} (a0 : Int32) (a1 : Int32) (h : Hp) : Ct X mX12_isPoint true [zi a0, zi a1] h (some (zi (fX12_isPoint a0 a1 h))) h := by
  refine Ct_of (by decide) (Nat.le_of_ble_eq_true rfl) (ls := [(0, zi a0), (1, zi a1)]) rfl ?_
  obtain ⟨rE, hF⟩ : ∃ z, fX12_isPoint a0 a1 h = z := ⟨_, rfl⟩
  rw [hF]
  unfold fX12_isPoint at hF
  refine v_iload_n (j := 0) dX12_isPoint_0 rfl ?_
  refine v_i2l dX12_isPoint_1 ?_
  refine v_lconst (v := 0) dX12_isPoint_2 (by decide) ?_
  refine v_ldc2 dX12_isPoint_3 kcX12_225 ?_
  refine v_cS (hm := h) (av := [zj a0.toInt64, zj 0, zj 60]) (st := []) (stn := [zi (fX12_in a0.toInt64 0 60 h)]) (tX12_in a0.toInt64 0 60 h) lcX12_in mlX12_213 sxX12_in rfl ⟨by decide, by decide⟩ (Nat.le_of_ble_eq_true rfl) dX12_isPoint_6 rfl rfl ?_
  refine v_if_eq dX12_isPoint_9 (by decide : _ = ((28 : Nat) : Int)) (fun q => ?_) (fun q => ?_)
  · replace hF := brT q hF
    refine v_iconst (v := 0) dX12_isPoint_28 (by decide) ?_
    subst hF
    exact v_zret rfl (Or.inl rfl) dX12_isPoint_29
  · replace hF := brF q hF
    refine v_iload_n (j := 1) dX12_isPoint_12 rfl ?_
    refine v_i2l dX12_isPoint_13 ?_
    refine v_lconst (v := 0) dX12_isPoint_14 (by decide) ?_
    refine v_ldc2 dX12_isPoint_15 kcX12_225 ?_
    refine v_cS (hm := h) (av := [zj a1.toInt64, zj 0, zj 60]) (st := []) (stn := [zi (fX12_in a1.toInt64 0 60 h)]) (tX12_in a1.toInt64 0 60 h) lcX12_in mlX12_213 sxX12_in rfl ⟨by decide, by decide⟩ (Nat.le_of_ble_eq_true rfl) dX12_isPoint_18 rfl rfl ?_
    refine v_if_eq dX12_isPoint_21 (by decide : _ = ((28 : Nat) : Int)) (fun q => ?_) (fun q => ?_)
    · replace hF := brT q hF
      refine v_iconst (v := 0) dX12_isPoint_28 (by decide) ?_
      subst hF
      exact v_zret rfl (Or.inl rfl) dX12_isPoint_29
    · replace hF := brF q hF
      refine v_iconst (v := 1) dX12_isPoint_24 (by decide) ?_
      refine v_goto (tgt := 29) dX12_isPoint_25 (by decide) ?_
      subst hF
      exact v_zret rfl (Or.inr rfl) dX12_isPoint_29
theorem zX12_isPoint (a0 : Int32) (a1 : Int32) (h : Hp) : fX12_isPoint a0 a1 h = 0 ∨ fX12_isPoint a0 a1 h = 1 := by
  unfold fX12_isPoint
  try unfold br
  try unfold lb
  try dsimp only
  repeat' split
  all_goals first | exact Or.inl rfl | exact Or.inr rfl | exact zX12_in _ _ _ _ 
theorem dX12_pulpit_0 : decode cX12_pulpit 0 = .ok (.aload_n 0, 1) := by decide +kernel
theorem dX12_pulpit_1 : decode cX12_pulpit 1 = .ok (.iconst 0, 1) := by decide +kernel
theorem dX12_pulpit_2 : decode cX12_pulpit 2 = .ok (.putfield 208, 3) := by decide +kernel
theorem dX12_pulpit_5 : decode cX12_pulpit 5 = .ok (.iload_n 1, 1) := by decide +kernel
theorem dX12_pulpit_6 : decode cX12_pulpit 6 = .ok (.iload_n 2, 1) := by decide +kernel
theorem dX12_pulpit_7 : decode cX12_pulpit 7 = .ok (.invokestatic 227, 3) := by decide +kernel
theorem dX12_pulpit_10 : decode cX12_pulpit 10 = .ok (.ifCond .eq 15, 3) := by decide +kernel
theorem dX12_pulpit_13 : decode cX12_pulpit 13 = .ok (.iload_n 3, 1) := by decide +kernel
theorem dX12_pulpit_14 : decode cX12_pulpit 14 = .ok (.i2l, 1) := by decide +kernel
theorem dX12_pulpit_15 : decode cX12_pulpit 15 = .ok (.lconst 1, 1) := by decide +kernel
theorem dX12_pulpit_16 : decode cX12_pulpit 16 = .ok (.ldc2_w 231, 3) := by decide +kernel
theorem dX12_pulpit_19 : decode cX12_pulpit 19 = .ok (.invokestatic 213, 3) := by decide +kernel
theorem dX12_pulpit_22 : decode cX12_pulpit 22 = .ok (.ifCond .ne 6, 3) := by decide +kernel
theorem dX12_pulpit_25 : decode cX12_pulpit 25 = .ok (.bipush (-2), 2) := by decide +kernel
theorem dX12_pulpit_27 : decode cX12_pulpit 27 = .ok (.ireturn, 1) := by decide +kernel
theorem dX12_pulpit_28 : decode cX12_pulpit 28 = .ok (.aload_n 0, 1) := by decide +kernel
theorem dX12_pulpit_29 : decode cX12_pulpit 29 = .ok (.iload_n 1, 1) := by decide +kernel
theorem dX12_pulpit_30 : decode cX12_pulpit 30 = .ok (.putfield 23, 3) := by decide +kernel
theorem dX12_pulpit_33 : decode cX12_pulpit 33 = .ok (.aload_n 0, 1) := by decide +kernel
theorem dX12_pulpit_34 : decode cX12_pulpit 34 = .ok (.iload_n 2, 1) := by decide +kernel
theorem dX12_pulpit_35 : decode cX12_pulpit 35 = .ok (.putfield 27, 3) := by decide +kernel
theorem dX12_pulpit_38 : decode cX12_pulpit 38 = .ok (.aload_n 0, 1) := by decide +kernel
theorem dX12_pulpit_39 : decode cX12_pulpit 39 = .ok (.iload_n 3, 1) := by decide +kernel
theorem dX12_pulpit_40 : decode cX12_pulpit 40 = .ok (.putfield 30, 3) := by decide +kernel
theorem dX12_pulpit_43 : decode cX12_pulpit 43 = .ok (.iconst 0, 1) := by decide +kernel
theorem dX12_pulpit_44 : decode cX12_pulpit 44 = .ok (.ireturn, 1) := by decide +kernel
def fX12_pulpit (a1 : Int32) (a2 : Int32) (a3 : Int32) (h : Hp) : Option (Int32 × Hp) := lb (sI h 12 0 0 0) (fun h1 => br ((fX12_isPoint a1 a2 h1) = 0) (some ((-2), h1)) (br ((fX12_in a3.toInt64 1 100000 h1) = 0) (some ((-2), h1)) (lb (sI h1 12 0 13 a1) (fun h2 => lb (sI h2 12 0 14 a2) (fun h3 => lb (sI h3 12 0 15 a3) (fun h4 => some (0, h4)))))))
set_option maxRecDepth 20000 in
theorem tX12_pulpit {X : Cz} {a1 : Int32} {a2 : Int32} {a3 : Int32} {h hE : Hp} {rE : Int32} (hF : fX12_pulpit a1 a2 a3 h = some (rE, hE)) : Ct X mX12_pulpit true [zr 12 0, zi a1, zi a2, zi a3] h (some (zi rE)) hE := by
  refine Ct_of (by decide) (Nat.le_of_ble_eq_true rfl) (ls := [(0, zr 12 0), (1, zi a1), (2, zi a2), (3, zi a3)]) rfl ?_
  unfold fX12_pulpit at hF
  refine v_aload_n (j := 0) dX12_pulpit_0 rfl ?_
  refine v_iconst (v := 0) dX12_pulpit_1 (by decide) ?_
  refine v_putI (c := 12) rfl rfl (Nat.le_of_ble_eq_true rfl) cz12 flX12_208 dX12_pulpit_2 ?_
  refine v_toph fun h1 eh1 => ?_
  replace hF := lb_use eh1 hF
  clear eh1
  refine v_iload_n (j := 1) dX12_pulpit_5 rfl ?_
  refine v_iload_n (j := 2) dX12_pulpit_6 rfl ?_
  refine v_cS (hm := h1) (av := [zi a1, zi a2]) (st := []) (stn := [zi (fX12_isPoint a1 a2 h1)]) (tX12_isPoint a1 a2 h1) lcX12_isPoint mlX12_227 sxX12_isPoint rfl ⟨by decide, by decide⟩ (Nat.le_of_ble_eq_true rfl) dX12_pulpit_7 rfl rfl ?_
  refine v_if_eq dX12_pulpit_10 (by decide : _ = ((25 : Nat) : Int)) (fun q => ?_) (fun q => ?_)
  · replace hF := brT q hF
    refine v_bipush (v := (-2)) dX12_pulpit_25 (by decide) ?_
    obtain ⟨rfl, rfl⟩ := ret_use hF
    exact v_iret rfl dX12_pulpit_27
  · replace hF := brF q hF
    refine v_iload_n (j := 3) dX12_pulpit_13 rfl ?_
    refine v_i2l dX12_pulpit_14 ?_
    refine v_lconst (v := 1) dX12_pulpit_15 (by decide) ?_
    refine v_ldc2 dX12_pulpit_16 kcX12_231 ?_
    refine v_cS (hm := h1) (av := [zj a3.toInt64, zj 1, zj 100000]) (st := []) (stn := [zi (fX12_in a3.toInt64 1 100000 h1)]) (tX12_in a3.toInt64 1 100000 h1) lcX12_in mlX12_213 sxX12_in rfl ⟨by decide, by decide⟩ (Nat.le_of_ble_eq_true rfl) dX12_pulpit_19 rfl rfl ?_
    refine v_if_ne dX12_pulpit_22 (by decide : _ = ((28 : Nat) : Int)) (fun q => ?_) (fun q => ?_)
    · replace hF := brF q hF
      refine v_aload_n (j := 0) dX12_pulpit_28 rfl ?_
      refine v_iload_n (j := 1) dX12_pulpit_29 rfl ?_
      refine v_putI (c := 12) rfl rfl (Nat.le_of_ble_eq_true rfl) cz12 flX12_23 dX12_pulpit_30 ?_
      refine v_toph fun h2 eh2 => ?_
      replace hF := lb_use eh2 hF
      clear eh2
      refine v_aload_n (j := 0) dX12_pulpit_33 rfl ?_
      refine v_iload_n (j := 2) dX12_pulpit_34 rfl ?_
      refine v_putI (c := 12) rfl rfl (Nat.le_of_ble_eq_true rfl) cz12 flX12_27 dX12_pulpit_35 ?_
      refine v_toph fun h3 eh3 => ?_
      replace hF := lb_use eh3 hF
      clear eh3
      refine v_aload_n (j := 0) dX12_pulpit_38 rfl ?_
      refine v_iload_n (j := 3) dX12_pulpit_39 rfl ?_
      refine v_putI (c := 12) rfl rfl (Nat.le_of_ble_eq_true rfl) cz12 flX12_30 dX12_pulpit_40 ?_
      refine v_toph fun h4 eh4 => ?_
      replace hF := lb_use eh4 hF
      clear eh4
      refine v_iconst (v := 0) dX12_pulpit_43 (by decide) ?_
      obtain ⟨rfl, rfl⟩ := ret_use hF
      exact v_iret rfl dX12_pulpit_44
    · replace hF := brT (Decidable.not_not.mp q) hF
      refine v_bipush (v := (-2)) dX12_pulpit_25 (by decide) ?_
      obtain ⟨rfl, rfl⟩ := ret_use hF
      exact v_iret rfl dX12_pulpit_27
theorem dX12_terms_0 : decode cX12_terms 0 = .ok (.aload_n 0, 1) := by decide +kernel
theorem dX12_terms_1 : decode cX12_terms 1 = .ok (.iconst 0, 1) := by decide +kernel
theorem dX12_terms_2 : decode cX12_terms 2 = .ok (.putfield 208, 3) := by decide +kernel
theorem dX12_terms_5 : decode cX12_terms 5 = .ok (.iload_n 1, 1) := by decide +kernel
theorem dX12_terms_6 : decode cX12_terms 6 = .ok (.i2l, 1) := by decide +kernel
theorem dX12_terms_7 : decode cX12_terms 7 = .ok (.ldc2_w 233, 3) := by decide +kernel
theorem dX12_terms_10 : decode cX12_terms 10 = .ok (.ldc2_w 235, 3) := by decide +kernel
theorem dX12_terms_13 : decode cX12_terms 13 = .ok (.invokestatic 213, 3) := by decide +kernel
theorem dX12_terms_16 : decode cX12_terms 16 = .ok (.ifCond .eq 15, 3) := by decide +kernel
theorem dX12_terms_19 : decode cX12_terms 19 = .ok (.iload_n 2, 1) := by decide +kernel
theorem dX12_terms_20 : decode cX12_terms 20 = .ok (.i2l, 1) := by decide +kernel
theorem dX12_terms_21 : decode cX12_terms 21 = .ok (.lconst 0, 1) := by decide +kernel
theorem dX12_terms_22 : decode cX12_terms 22 = .ok (.ldc2_w 237, 3) := by decide +kernel
theorem dX12_terms_25 : decode cX12_terms 25 = .ok (.invokestatic 213, 3) := by decide +kernel
theorem dX12_terms_28 : decode cX12_terms 28 = .ok (.ifCond .ne 6, 3) := by decide +kernel
theorem dX12_terms_31 : decode cX12_terms 31 = .ok (.bipush (-2), 2) := by decide +kernel
theorem dX12_terms_33 : decode cX12_terms 33 = .ok (.ireturn, 1) := by decide +kernel
theorem dX12_terms_34 : decode cX12_terms 34 = .ok (.aload_n 0, 1) := by decide +kernel
theorem dX12_terms_35 : decode cX12_terms 35 = .ok (.iload_n 1, 1) := by decide +kernel
theorem dX12_terms_36 : decode cX12_terms 36 = .ok (.putfield 33, 3) := by decide +kernel
theorem dX12_terms_39 : decode cX12_terms 39 = .ok (.aload_n 0, 1) := by decide +kernel
theorem dX12_terms_40 : decode cX12_terms 40 = .ok (.iload_n 2, 1) := by decide +kernel
theorem dX12_terms_41 : decode cX12_terms 41 = .ok (.putfield 36, 3) := by decide +kernel
theorem dX12_terms_44 : decode cX12_terms 44 = .ok (.iconst 0, 1) := by decide +kernel
theorem dX12_terms_45 : decode cX12_terms 45 = .ok (.ireturn, 1) := by decide +kernel
def fX12_terms (a1 : Int32) (a2 : Int32) (h : Hp) : Option (Int32 × Hp) := lb (sI h 12 0 0 0) (fun h1 => br ((fX12_in a1.toInt64 2 30 h1) = 0) (some ((-2), h1)) (br ((fX12_in a2.toInt64 0 100 h1) = 0) (some ((-2), h1)) (lb (sI h1 12 0 16 a1) (fun h2 => lb (sI h2 12 0 17 a2) (fun h3 => some (0, h3))))))
set_option maxRecDepth 20000 in
theorem tX12_terms {X : Cz} {a1 : Int32} {a2 : Int32} {h hE : Hp} {rE : Int32} (hF : fX12_terms a1 a2 h = some (rE, hE)) : Ct X mX12_terms true [zr 12 0, zi a1, zi a2] h (some (zi rE)) hE := by
  refine Ct_of (by decide) (Nat.le_of_ble_eq_true rfl) (ls := [(0, zr 12 0), (1, zi a1), (2, zi a2)]) rfl ?_
  unfold fX12_terms at hF
  refine v_aload_n (j := 0) dX12_terms_0 rfl ?_
  refine v_iconst (v := 0) dX12_terms_1 (by decide) ?_
  refine v_putI (c := 12) rfl rfl (Nat.le_of_ble_eq_true rfl) cz12 flX12_208 dX12_terms_2 ?_
  refine v_toph fun h1 eh1 => ?_
  replace hF := lb_use eh1 hF
  clear eh1
  refine v_iload_n (j := 1) dX12_terms_5 rfl ?_
  refine v_i2l dX12_terms_6 ?_
  refine v_ldc2 dX12_terms_7 kcX12_233 ?_
  refine v_ldc2 dX12_terms_10 kcX12_235 ?_
  refine v_cS (hm := h1) (av := [zj a1.toInt64, zj 2, zj 30]) (st := []) (stn := [zi (fX12_in a1.toInt64 2 30 h1)]) (tX12_in a1.toInt64 2 30 h1) lcX12_in mlX12_213 sxX12_in rfl ⟨by decide, by decide⟩ (Nat.le_of_ble_eq_true rfl) dX12_terms_13 rfl rfl ?_
  refine v_if_eq dX12_terms_16 (by decide : _ = ((31 : Nat) : Int)) (fun q => ?_) (fun q => ?_)
  · replace hF := brT q hF
    refine v_bipush (v := (-2)) dX12_terms_31 (by decide) ?_
    obtain ⟨rfl, rfl⟩ := ret_use hF
    exact v_iret rfl dX12_terms_33
  · replace hF := brF q hF
    refine v_iload_n (j := 2) dX12_terms_19 rfl ?_
    refine v_i2l dX12_terms_20 ?_
    refine v_lconst (v := 0) dX12_terms_21 (by decide) ?_
    refine v_ldc2 dX12_terms_22 kcX12_237 ?_
    refine v_cS (hm := h1) (av := [zj a2.toInt64, zj 0, zj 100]) (st := []) (stn := [zi (fX12_in a2.toInt64 0 100 h1)]) (tX12_in a2.toInt64 0 100 h1) lcX12_in mlX12_213 sxX12_in rfl ⟨by decide, by decide⟩ (Nat.le_of_ble_eq_true rfl) dX12_terms_25 rfl rfl ?_
    refine v_if_ne dX12_terms_28 (by decide : _ = ((34 : Nat) : Int)) (fun q => ?_) (fun q => ?_)
    · replace hF := brF q hF
      refine v_aload_n (j := 0) dX12_terms_34 rfl ?_
      refine v_iload_n (j := 1) dX12_terms_35 rfl ?_
      refine v_putI (c := 12) rfl rfl (Nat.le_of_ble_eq_true rfl) cz12 flX12_33 dX12_terms_36 ?_
      refine v_toph fun h2 eh2 => ?_
      replace hF := lb_use eh2 hF
      clear eh2
      refine v_aload_n (j := 0) dX12_terms_39 rfl ?_
      refine v_iload_n (j := 2) dX12_terms_40 rfl ?_
      refine v_putI (c := 12) rfl rfl (Nat.le_of_ble_eq_true rfl) cz12 flX12_36 dX12_terms_41 ?_
      refine v_toph fun h3 eh3 => ?_
      replace hF := lb_use eh3 hF
      clear eh3
      refine v_iconst (v := 0) dX12_terms_44 (by decide) ?_
      obtain ⟨rfl, rfl⟩ := ret_use hF
      exact v_iret rfl dX12_terms_45
    · replace hF := brT (Decidable.not_not.mp q) hF
      refine v_bipush (v := (-2)) dX12_terms_31 (by decide) ?_
      obtain ⟨rfl, rfl⟩ := ret_use hF
      exact v_iret rfl dX12_terms_33
theorem dX12_pillar_0 : decode cX12_pillar 0 = .ok (.aload_n 0, 1) := by decide +kernel
theorem dX12_pillar_1 : decode cX12_pillar 1 = .ok (.iconst 0, 1) := by decide +kernel
theorem dX12_pillar_2 : decode cX12_pillar 2 = .ok (.putfield 208, 3) := by decide +kernel
theorem dX12_pillar_5 : decode cX12_pillar 5 = .ok (.iload_n 1, 1) := by decide +kernel
theorem dX12_pillar_6 : decode cX12_pillar 6 = .ok (.iload_n 2, 1) := by decide +kernel
theorem dX12_pillar_7 : decode cX12_pillar 7 = .ok (.invokestatic 227, 3) := by decide +kernel
theorem dX12_pillar_10 : decode cX12_pillar 10 = .ok (.ifCond .eq 15, 3) := by decide +kernel
theorem dX12_pillar_13 : decode cX12_pillar 13 = .ok (.iload_n 3, 1) := by decide +kernel
theorem dX12_pillar_14 : decode cX12_pillar 14 = .ok (.i2l, 1) := by decide +kernel
theorem dX12_pillar_15 : decode cX12_pillar 15 = .ok (.lconst 0, 1) := by decide +kernel
theorem dX12_pillar_16 : decode cX12_pillar 16 = .ok (.ldc2_w 239, 3) := by decide +kernel
theorem dX12_pillar_19 : decode cX12_pillar 19 = .ok (.invokestatic 213, 3) := by decide +kernel
theorem dX12_pillar_22 : decode cX12_pillar 22 = .ok (.ifCond .ne 6, 3) := by decide +kernel
theorem dX12_pillar_25 : decode cX12_pillar 25 = .ok (.bipush (-2), 2) := by decide +kernel
theorem dX12_pillar_27 : decode cX12_pillar 27 = .ok (.ireturn, 1) := by decide +kernel
theorem dX12_pillar_28 : decode cX12_pillar 28 = .ok (.aload_n 0, 1) := by decide +kernel
theorem dX12_pillar_29 : decode cX12_pillar 29 = .ok (.getfield 241, 3) := by decide +kernel
theorem dX12_pillar_32 : decode cX12_pillar 32 = .ok (.bipush 8, 2) := by decide +kernel
theorem dX12_pillar_34 : decode cX12_pillar 34 = .ok (.if_icmp .ne 6, 3) := by decide +kernel
theorem dX12_pillar_37 : decode cX12_pillar 37 = .ok (.bipush (-3), 2) := by decide +kernel
theorem dX12_pillar_39 : decode cX12_pillar 39 = .ok (.ireturn, 1) := by decide +kernel
theorem dX12_pillar_40 : decode cX12_pillar 40 = .ok (.aload_n 0, 1) := by decide +kernel
theorem dX12_pillar_41 : decode cX12_pillar 41 = .ok (.getfield 39, 3) := by decide +kernel
theorem dX12_pillar_44 : decode cX12_pillar 44 = .ok (.aload_n 0, 1) := by decide +kernel
theorem dX12_pillar_45 : decode cX12_pillar 45 = .ok (.getfield 241, 3) := by decide +kernel
theorem dX12_pillar_48 : decode cX12_pillar 48 = .ok (.iload_n 1, 1) := by decide +kernel
theorem dX12_pillar_49 : decode cX12_pillar 49 = .ok (.iastore, 1) := by decide +kernel
theorem dX12_pillar_50 : decode cX12_pillar 50 = .ok (.aload_n 0, 1) := by decide +kernel
theorem dX12_pillar_51 : decode cX12_pillar 51 = .ok (.getfield 42, 3) := by decide +kernel
theorem dX12_pillar_54 : decode cX12_pillar 54 = .ok (.aload_n 0, 1) := by decide +kernel
theorem dX12_pillar_55 : decode cX12_pillar 55 = .ok (.getfield 241, 3) := by decide +kernel
theorem dX12_pillar_58 : decode cX12_pillar 58 = .ok (.iload_n 2, 1) := by decide +kernel
theorem dX12_pillar_59 : decode cX12_pillar 59 = .ok (.iastore, 1) := by decide +kernel
theorem dX12_pillar_60 : decode cX12_pillar 60 = .ok (.aload_n 0, 1) := by decide +kernel
theorem dX12_pillar_61 : decode cX12_pillar 61 = .ok (.getfield 45, 3) := by decide +kernel
theorem dX12_pillar_64 : decode cX12_pillar 64 = .ok (.aload_n 0, 1) := by decide +kernel
theorem dX12_pillar_65 : decode cX12_pillar 65 = .ok (.getfield 241, 3) := by decide +kernel
theorem dX12_pillar_68 : decode cX12_pillar 68 = .ok (.iload_n 3, 1) := by decide +kernel
theorem dX12_pillar_69 : decode cX12_pillar 69 = .ok (.iastore, 1) := by decide +kernel
theorem dX12_pillar_70 : decode cX12_pillar 70 = .ok (.aload_n 0, 1) := by decide +kernel
theorem dX12_pillar_71 : decode cX12_pillar 71 = .ok (.dup, 1) := by decide +kernel
theorem dX12_pillar_72 : decode cX12_pillar 72 = .ok (.getfield 241, 3) := by decide +kernel
theorem dX12_pillar_75 : decode cX12_pillar 75 = .ok (.iconst 1, 1) := by decide +kernel
theorem dX12_pillar_76 : decode cX12_pillar 76 = .ok (.iadd, 1) := by decide +kernel
theorem dX12_pillar_77 : decode cX12_pillar 77 = .ok (.putfield 241, 3) := by decide +kernel
theorem dX12_pillar_80 : decode cX12_pillar 80 = .ok (.aload_n 0, 1) := by decide +kernel
theorem dX12_pillar_81 : decode cX12_pillar 81 = .ok (.getfield 241, 3) := by decide +kernel
theorem dX12_pillar_84 : decode cX12_pillar 84 = .ok (.iconst 1, 1) := by decide +kernel
theorem dX12_pillar_85 : decode cX12_pillar 85 = .ok (.isub, 1) := by decide +kernel
theorem dX12_pillar_86 : decode cX12_pillar 86 = .ok (.ireturn, 1) := by decide +kernel
def fX12_pillar (a1 : Int32) (a2 : Int32) (a3 : Int32) (h : Hp) : Option (Int32 × Hp) := lb (sI h 12 0 0 0) (fun h1 => br ((fX12_isPoint a1 a2 h1) = 0) (some ((-2), h1)) (br ((fX12_in a3.toInt64 0 5 h1) = 0) (some ((-2), h1)) (br ((gI h1 12 0 6) = 8) (some ((-3), h1)) (gd (ib (gI h1 12 0 6) 8) (lb (sI h1 58 0 (ix (gI h1 12 0 6)) a1) (fun h3 => gd (ib (gI h3 12 0 6) 8) (lb (sI h3 59 0 (ix (gI h3 12 0 6)) a2) (fun h5 => gd (ib (gI h5 12 0 6) 8) (lb (sI h5 60 0 (ix (gI h5 12 0 6)) a3) (fun h7 => lb (sI h7 12 0 6 ((gI h7 12 0 6) + 1)) (fun h8 => some ((gI h8 12 0 6) - 1, h8))))))))))))
set_option maxRecDepth 20000 in
theorem tX12_pillar {X : Cz} {a1 : Int32} {a2 : Int32} {a3 : Int32} {h hE : Hp} {rE : Int32} (hF : fX12_pillar a1 a2 a3 h = some (rE, hE)) : Ct X mX12_pillar true [zr 12 0, zi a1, zi a2, zi a3] h (some (zi rE)) hE := by
  refine Ct_of (by decide) (Nat.le_of_ble_eq_true rfl) (ls := [(0, zr 12 0), (1, zi a1), (2, zi a2), (3, zi a3)]) rfl ?_
  unfold fX12_pillar at hF
  refine v_aload_n (j := 0) dX12_pillar_0 rfl ?_
  refine v_iconst (v := 0) dX12_pillar_1 (by decide) ?_
  refine v_putI (c := 12) rfl rfl (Nat.le_of_ble_eq_true rfl) cz12 flX12_208 dX12_pillar_2 ?_
  refine v_toph fun h1 eh1 => ?_
  replace hF := lb_use eh1 hF
  clear eh1
  refine v_iload_n (j := 1) dX12_pillar_5 rfl ?_
  refine v_iload_n (j := 2) dX12_pillar_6 rfl ?_
  refine v_cS (hm := h1) (av := [zi a1, zi a2]) (st := []) (stn := [zi (fX12_isPoint a1 a2 h1)]) (tX12_isPoint a1 a2 h1) lcX12_isPoint mlX12_227 sxX12_isPoint rfl ⟨by decide, by decide⟩ (Nat.le_of_ble_eq_true rfl) dX12_pillar_7 rfl rfl ?_
  refine v_if_eq dX12_pillar_10 (by decide : _ = ((25 : Nat) : Int)) (fun q => ?_) (fun q => ?_)
  · replace hF := brT q hF
    refine v_bipush (v := (-2)) dX12_pillar_25 (by decide) ?_
    obtain ⟨rfl, rfl⟩ := ret_use hF
    exact v_iret rfl dX12_pillar_27
  · replace hF := brF q hF
    refine v_iload_n (j := 3) dX12_pillar_13 rfl ?_
    refine v_i2l dX12_pillar_14 ?_
    refine v_lconst (v := 0) dX12_pillar_15 (by decide) ?_
    refine v_ldc2 dX12_pillar_16 kcX12_239 ?_
    refine v_cS (hm := h1) (av := [zj a3.toInt64, zj 0, zj 5]) (st := []) (stn := [zi (fX12_in a3.toInt64 0 5 h1)]) (tX12_in a3.toInt64 0 5 h1) lcX12_in mlX12_213 sxX12_in rfl ⟨by decide, by decide⟩ (Nat.le_of_ble_eq_true rfl) dX12_pillar_19 rfl rfl ?_
    refine v_if_ne dX12_pillar_22 (by decide : _ = ((28 : Nat) : Int)) (fun q => ?_) (fun q => ?_)
    · replace hF := brF q hF
      refine v_aload_n (j := 0) dX12_pillar_28 rfl ?_
      refine v_getI (c := 12) rfl (Or.inl rfl) cz12 flX12_241 dX12_pillar_29 ?_
      refine v_bipush (v := 8) dX12_pillar_32 (by decide) ?_
      refine v_icmp_ne dX12_pillar_34 (by decide : _ = ((40 : Nat) : Int)) (fun q => ?_) (fun q => ?_)
      · replace hF := brF q hF
        refine v_aload_n (j := 0) dX12_pillar_40 rfl ?_
        refine v_getL (c := 12) rfl rfl rfl ly12_18 cz12 flX12_39 dX12_pillar_41 ?_
        refine v_aload_n (j := 0) dX12_pillar_44 rfl ?_
        refine v_getI (c := 12) rfl (Or.inl rfl) cz12 flX12_241 dX12_pillar_45 ?_
        refine v_iload_n (j := 1) dX12_pillar_48 rfl ?_
        replace hF := gd_use hF
        obtain ⟨q2, hF⟩ := hF
        refine v_iast rfl q2 dX12_pillar_49 ?_
        refine v_toph fun h3 eh3 => ?_
        replace hF := lb_use eh3 hF
        clear eh3
        refine v_aload_n (j := 0) dX12_pillar_50 rfl ?_
        refine v_getL (c := 12) rfl rfl rfl ly12_19 cz12 flX12_42 dX12_pillar_51 ?_
        refine v_aload_n (j := 0) dX12_pillar_54 rfl ?_
        refine v_getI (c := 12) rfl (Or.inl rfl) cz12 flX12_241 dX12_pillar_55 ?_
        refine v_iload_n (j := 2) dX12_pillar_58 rfl ?_
        replace hF := gd_use hF
        obtain ⟨q4, hF⟩ := hF
        refine v_iast rfl q4 dX12_pillar_59 ?_
        refine v_toph fun h5 eh5 => ?_
        replace hF := lb_use eh5 hF
        clear eh5
        refine v_aload_n (j := 0) dX12_pillar_60 rfl ?_
        refine v_getL (c := 12) rfl rfl rfl ly12_20 cz12 flX12_45 dX12_pillar_61 ?_
        refine v_aload_n (j := 0) dX12_pillar_64 rfl ?_
        refine v_getI (c := 12) rfl (Or.inl rfl) cz12 flX12_241 dX12_pillar_65 ?_
        refine v_iload_n (j := 3) dX12_pillar_68 rfl ?_
        replace hF := gd_use hF
        obtain ⟨q6, hF⟩ := hF
        refine v_iast rfl q6 dX12_pillar_69 ?_
        refine v_toph fun h7 eh7 => ?_
        replace hF := lb_use eh7 hF
        clear eh7
        refine v_aload_n (j := 0) dX12_pillar_70 rfl ?_
        refine v_dup dX12_pillar_71 rfl ?_
        refine v_getI (c := 12) rfl (Or.inl rfl) cz12 flX12_241 dX12_pillar_72 ?_
        refine v_iconst (v := 1) dX12_pillar_75 (by decide) ?_
        refine v_iadd dX12_pillar_76 ?_
        refine v_putI (c := 12) rfl rfl (Nat.le_of_ble_eq_true rfl) cz12 flX12_241 dX12_pillar_77 ?_
        refine v_toph fun h8 eh8 => ?_
        replace hF := lb_use eh8 hF
        clear eh8
        refine v_aload_n (j := 0) dX12_pillar_80 rfl ?_
        refine v_getI (c := 12) rfl (Or.inl rfl) cz12 flX12_241 dX12_pillar_81 ?_
        refine v_iconst (v := 1) dX12_pillar_84 (by decide) ?_
        refine v_isub dX12_pillar_85 ?_
        obtain ⟨rfl, rfl⟩ := ret_use hF
        exact v_iret rfl dX12_pillar_86
      · replace hF := brT (Decidable.not_not.mp q) hF
        refine v_bipush (v := (-3)) dX12_pillar_37 (by decide) ?_
        obtain ⟨rfl, rfl⟩ := ret_use hF
        exact v_iret rfl dX12_pillar_39
    · replace hF := brT (Decidable.not_not.mp q) hF
      refine v_bipush (v := (-2)) dX12_pillar_25 (by decide) ?_
      obtain ⟨rfl, rfl⟩ := ret_use hF
      exact v_iret rfl dX12_pillar_27
