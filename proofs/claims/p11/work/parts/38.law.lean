/-! The law: its decode rows, its loop. -/
theorem qd_L_0 : decode code 0 = .ok (.new 8, 3) := by decide +kernel
theorem qd_L_3 : decode code 3 = .ok (.dup, 1) := by decide +kernel
theorem qd_L_4 : decode code 4 = .ok (.invokespecial 40, 3) := by decide +kernel
theorem qd_L_7 : decode code 7 = .ok (.astore_n 1, 1) := by decide +kernel
theorem qd_L_8 : decode code 8 = .ok (.new 41, 3) := by decide +kernel
theorem qd_L_11 : decode code 11 = .ok (.dup, 1) := by decide +kernel
theorem qd_L_12 : decode code 12 = .ok (.invokespecial 43, 3) := by decide +kernel
theorem qd_L_15 : decode code 15 = .ok (.astore_n 2, 1) := by decide +kernel
theorem qd_L_16 : decode code 16 = .ok (.iconst 1, 1) := by decide +kernel
theorem qd_L_17 : decode code 17 = .ok (.newarray .long, 2) := by decide +kernel
theorem qd_L_19 : decode code 19 = .ok (.astore_n 3, 1) := by decide +kernel
theorem qd_L_20 : decode code 20 = .ok (.iconst 0, 1) := by decide +kernel
theorem qd_L_21 : decode code 21 = .ok (.istore 4, 2) := by decide +kernel
theorem qd_L_23 : decode code 23 = .ok (.iload 4, 2) := by decide +kernel
theorem qd_L_25 : decode code 25 = .ok (.aload_n 0, 1) := by decide +kernel
theorem qd_L_26 : decode code 26 = .ok (.arraylength, 1) := by decide +kernel
theorem qd_L_27 : decode code 27 = .ok (.iconst 4, 1) := by decide +kernel
theorem qd_L_28 : decode code 28 = .ok (.isub, 1) := by decide +kernel
theorem qd_L_29 : decode code 29 = .ok (.if_icmp .gt 482, 3) := by decide +kernel
theorem qd_L_32 : decode code 32 = .ok (.aload_n 0, 1) := by decide +kernel
theorem qd_L_33 : decode code 33 = .ok (.iload 4, 2) := by decide +kernel
theorem qd_L_35 : decode code 35 = .ok (.iaload, 1) := by decide +kernel
theorem qd_L_36 : decode code 36 = .ok (.bipush 15, 2) := by decide +kernel
theorem qd_L_38 : decode code 38 = .ok (.iand, 1) := by decide +kernel
theorem qd_L_39 : decode code 39 = .ok (.tableswitch 466 0 10 #[57, 124, 149, 186, 214, 251, 279, 304, 317, 345, 441], 57) := by decide +kernel
theorem qd_L_96 : decode code 96 = .ok (.aload_n 1, 1) := by decide +kernel
theorem qd_L_97 : decode code 97 = .ok (.aload_n 0, 1) := by decide +kernel
theorem qd_L_98 : decode code 98 = .ok (.iload 4, 2) := by decide +kernel
theorem qd_L_100 : decode code 100 = .ok (.iconst 1, 1) := by decide +kernel
theorem qd_L_101 : decode code 101 = .ok (.iadd, 1) := by decide +kernel
theorem qd_L_102 : decode code 102 = .ok (.iaload, 1) := by decide +kernel
theorem qd_L_103 : decode code 103 = .ok (.aload_n 0, 1) := by decide +kernel
theorem qd_L_104 : decode code 104 = .ok (.iload 4, 2) := by decide +kernel
theorem qd_L_106 : decode code 106 = .ok (.iconst 2, 1) := by decide +kernel
theorem qd_L_107 : decode code 107 = .ok (.iadd, 1) := by decide +kernel
theorem qd_L_108 : decode code 108 = .ok (.iaload, 1) := by decide +kernel
theorem qd_L_109 : decode code 109 = .ok (.i2l, 1) := by decide +kernel
theorem qd_L_110 : decode code 110 = .ok (.bipush 32, 2) := by decide +kernel
theorem qd_L_112 : decode code 112 = .ok (.lshl, 1) := by decide +kernel
theorem qd_L_113 : decode code 113 = .ok (.aload_n 0, 1) := by decide +kernel
theorem qd_L_114 : decode code 114 = .ok (.iload 4, 2) := by decide +kernel
theorem qd_L_116 : decode code 116 = .ok (.iconst 3, 1) := by decide +kernel
theorem qd_L_117 : decode code 117 = .ok (.iadd, 1) := by decide +kernel
theorem qd_L_118 : decode code 118 = .ok (.iaload, 1) := by decide +kernel
theorem qd_L_119 : decode code 119 = .ok (.i2l, 1) := by decide +kernel
theorem qd_L_120 : decode code 120 = .ok (.ldc2_w 44, 3) := by decide +kernel
theorem qd_L_123 : decode code 123 = .ok (.land, 1) := by decide +kernel
theorem qd_L_124 : decode code 124 = .ok (.lor, 1) := by decide +kernel
theorem qd_L_125 : decode code 125 = .ok (.invokevirtual 46, 3) := by decide +kernel
theorem qd_L_128 : decode code 128 = .ok (.aload_n 2, 1) := by decide +kernel
theorem qd_L_129 : decode code 129 = .ok (.aload_n 0, 1) := by decide +kernel
theorem qd_L_130 : decode code 130 = .ok (.iload 4, 2) := by decide +kernel
theorem qd_L_132 : decode code 132 = .ok (.iconst 1, 1) := by decide +kernel
theorem qd_L_133 : decode code 133 = .ok (.iadd, 1) := by decide +kernel
theorem qd_L_134 : decode code 134 = .ok (.iaload, 1) := by decide +kernel
theorem qd_L_135 : decode code 135 = .ok (.aload_n 0, 1) := by decide +kernel
theorem qd_L_136 : decode code 136 = .ok (.iload 4, 2) := by decide +kernel
theorem qd_L_138 : decode code 138 = .ok (.iconst 2, 1) := by decide +kernel
theorem qd_L_139 : decode code 139 = .ok (.iadd, 1) := by decide +kernel
theorem qd_L_140 : decode code 140 = .ok (.iaload, 1) := by decide +kernel
theorem qd_L_141 : decode code 141 = .ok (.i2l, 1) := by decide +kernel
theorem qd_L_142 : decode code 142 = .ok (.bipush 32, 2) := by decide +kernel
theorem qd_L_144 : decode code 144 = .ok (.lshl, 1) := by decide +kernel
theorem qd_L_145 : decode code 145 = .ok (.aload_n 0, 1) := by decide +kernel
theorem qd_L_146 : decode code 146 = .ok (.iload 4, 2) := by decide +kernel
theorem qd_L_148 : decode code 148 = .ok (.iconst 3, 1) := by decide +kernel
theorem qd_L_149 : decode code 149 = .ok (.iadd, 1) := by decide +kernel
theorem qd_L_150 : decode code 150 = .ok (.iaload, 1) := by decide +kernel
theorem qd_L_151 : decode code 151 = .ok (.i2l, 1) := by decide +kernel
theorem qd_L_152 : decode code 152 = .ok (.ldc2_w 44, 3) := by decide +kernel
theorem qd_L_155 : decode code 155 = .ok (.land, 1) := by decide +kernel
theorem qd_L_156 : decode code 156 = .ok (.lor, 1) := by decide +kernel
theorem qd_L_157 : decode code 157 = .ok (.invokevirtual 50, 3) := by decide +kernel
theorem qd_L_160 : decode code 160 = .ok (.goto 345, 3) := by decide +kernel
theorem qd_L_163 : decode code 163 = .ok (.aload_n 1, 1) := by decide +kernel
theorem qd_L_164 : decode code 164 = .ok (.aload_n 0, 1) := by decide +kernel
theorem qd_L_165 : decode code 165 = .ok (.iload 4, 2) := by decide +kernel
theorem qd_L_167 : decode code 167 = .ok (.iconst 1, 1) := by decide +kernel
theorem qd_L_168 : decode code 168 = .ok (.iadd, 1) := by decide +kernel
theorem qd_L_169 : decode code 169 = .ok (.iaload, 1) := by decide +kernel
theorem qd_L_170 : decode code 170 = .ok (.invokevirtual 51, 3) := by decide +kernel
theorem qd_L_173 : decode code 173 = .ok (.pop, 1) := by decide +kernel
theorem qd_L_174 : decode code 174 = .ok (.aload_n 2, 1) := by decide +kernel
theorem qd_L_175 : decode code 175 = .ok (.aload_n 0, 1) := by decide +kernel
theorem qd_L_176 : decode code 176 = .ok (.iload 4, 2) := by decide +kernel
theorem qd_L_178 : decode code 178 = .ok (.iconst 1, 1) := by decide +kernel
theorem qd_L_179 : decode code 179 = .ok (.iadd, 1) := by decide +kernel
theorem qd_L_180 : decode code 180 = .ok (.iaload, 1) := by decide +kernel
theorem qd_L_181 : decode code 181 = .ok (.invokevirtual 54, 3) := by decide +kernel
theorem qd_L_184 : decode code 184 = .ok (.pop, 1) := by decide +kernel
theorem qd_L_185 : decode code 185 = .ok (.goto 320, 3) := by decide +kernel
theorem qd_L_188 : decode code 188 = .ok (.aload_n 1, 1) := by decide +kernel
theorem qd_L_189 : decode code 189 = .ok (.aload_n 0, 1) := by decide +kernel
theorem qd_L_190 : decode code 190 = .ok (.iload 4, 2) := by decide +kernel
theorem qd_L_192 : decode code 192 = .ok (.iconst 1, 1) := by decide +kernel
theorem qd_L_193 : decode code 193 = .ok (.iadd, 1) := by decide +kernel
theorem qd_L_194 : decode code 194 = .ok (.iaload, 1) := by decide +kernel
theorem qd_L_195 : decode code 195 = .ok (.aload_n 0, 1) := by decide +kernel
theorem qd_L_196 : decode code 196 = .ok (.iload 4, 2) := by decide +kernel
theorem qd_L_198 : decode code 198 = .ok (.iconst 2, 1) := by decide +kernel
theorem qd_L_199 : decode code 199 = .ok (.iadd, 1) := by decide +kernel
theorem qd_L_200 : decode code 200 = .ok (.iaload, 1) := by decide +kernel
theorem qd_L_201 : decode code 201 = .ok (.invokestatic 55, 3) := by decide +kernel
theorem qd_L_204 : decode code 204 = .ok (.istore 5, 2) := by decide +kernel
theorem qd_L_206 : decode code 206 = .ok (.aload_n 2, 1) := by decide +kernel
theorem qd_L_207 : decode code 207 = .ok (.aload_n 0, 1) := by decide +kernel
theorem qd_L_208 : decode code 208 = .ok (.iload 4, 2) := by decide +kernel
theorem qd_L_210 : decode code 210 = .ok (.iconst 1, 1) := by decide +kernel
theorem qd_L_211 : decode code 211 = .ok (.iadd, 1) := by decide +kernel
theorem qd_L_212 : decode code 212 = .ok (.iaload, 1) := by decide +kernel
theorem qd_L_213 : decode code 213 = .ok (.aload_n 0, 1) := by decide +kernel
theorem qd_L_214 : decode code 214 = .ok (.iload 4, 2) := by decide +kernel
theorem qd_L_216 : decode code 216 = .ok (.iconst 2, 1) := by decide +kernel
theorem qd_L_217 : decode code 217 = .ok (.iadd, 1) := by decide +kernel
theorem qd_L_218 : decode code 218 = .ok (.iaload, 1) := by decide +kernel
theorem qd_L_219 : decode code 219 = .ok (.invokevirtual 60, 3) := by decide +kernel
theorem qd_L_222 : decode code 222 = .ok (.goto 283, 3) := by decide +kernel
theorem qd_L_225 : decode code 225 = .ok (.aload_n 1, 1) := by decide +kernel
theorem qd_L_226 : decode code 226 = .ok (.aload_n 0, 1) := by decide +kernel
theorem qd_L_227 : decode code 227 = .ok (.iload 4, 2) := by decide +kernel
theorem qd_L_229 : decode code 229 = .ok (.iconst 1, 1) := by decide +kernel
theorem qd_L_230 : decode code 230 = .ok (.iadd, 1) := by decide +kernel
theorem qd_L_231 : decode code 231 = .ok (.iaload, 1) := by decide +kernel
theorem qd_L_232 : decode code 232 = .ok (.aload_n 3, 1) := by decide +kernel
theorem qd_L_233 : decode code 233 = .ok (.invokestatic 61, 3) := by decide +kernel
theorem qd_L_236 : decode code 236 = .ok (.istore 5, 2) := by decide +kernel
theorem qd_L_238 : decode code 238 = .ok (.aload_n 2, 1) := by decide +kernel
theorem qd_L_239 : decode code 239 = .ok (.aload_n 0, 1) := by decide +kernel
theorem qd_L_240 : decode code 240 = .ok (.iload 4, 2) := by decide +kernel
theorem qd_L_242 : decode code 242 = .ok (.iconst 1, 1) := by decide +kernel
theorem qd_L_243 : decode code 243 = .ok (.iadd, 1) := by decide +kernel
theorem qd_L_244 : decode code 244 = .ok (.iaload, 1) := by decide +kernel
theorem qd_L_245 : decode code 245 = .ok (.invokevirtual 64, 3) := by decide +kernel
theorem qd_L_248 : decode code 248 = .ok (.istore 6, 2) := by decide +kernel
theorem qd_L_250 : decode code 250 = .ok (.goto 255, 3) := by decide +kernel
theorem qd_L_253 : decode code 253 = .ok (.aload_n 1, 1) := by decide +kernel
theorem qd_L_254 : decode code 254 = .ok (.aload_n 0, 1) := by decide +kernel
theorem qd_L_255 : decode code 255 = .ok (.iload 4, 2) := by decide +kernel
theorem qd_L_257 : decode code 257 = .ok (.iconst 1, 1) := by decide +kernel
theorem qd_L_258 : decode code 258 = .ok (.iadd, 1) := by decide +kernel
theorem qd_L_259 : decode code 259 = .ok (.iaload, 1) := by decide +kernel
theorem qd_L_260 : decode code 260 = .ok (.aload_n 0, 1) := by decide +kernel
theorem qd_L_261 : decode code 261 = .ok (.iload 4, 2) := by decide +kernel
theorem qd_L_263 : decode code 263 = .ok (.iconst 2, 1) := by decide +kernel
theorem qd_L_264 : decode code 264 = .ok (.iadd, 1) := by decide +kernel
theorem qd_L_265 : decode code 265 = .ok (.iaload, 1) := by decide +kernel
theorem qd_L_266 : decode code 266 = .ok (.invokestatic 65, 3) := by decide +kernel
theorem qd_L_269 : decode code 269 = .ok (.istore 5, 2) := by decide +kernel
theorem qd_L_271 : decode code 271 = .ok (.aload_n 2, 1) := by decide +kernel
theorem qd_L_272 : decode code 272 = .ok (.aload_n 0, 1) := by decide +kernel
theorem qd_L_273 : decode code 273 = .ok (.iload 4, 2) := by decide +kernel
theorem qd_L_275 : decode code 275 = .ok (.iconst 1, 1) := by decide +kernel
theorem qd_L_276 : decode code 276 = .ok (.iadd, 1) := by decide +kernel
theorem qd_L_277 : decode code 277 = .ok (.iaload, 1) := by decide +kernel
theorem qd_L_278 : decode code 278 = .ok (.aload_n 0, 1) := by decide +kernel
theorem qd_L_279 : decode code 279 = .ok (.iload 4, 2) := by decide +kernel
theorem qd_L_281 : decode code 281 = .ok (.iconst 2, 1) := by decide +kernel
theorem qd_L_282 : decode code 282 = .ok (.iadd, 1) := by decide +kernel
theorem qd_L_283 : decode code 283 = .ok (.iaload, 1) := by decide +kernel
theorem qd_L_284 : decode code 284 = .ok (.invokevirtual 67, 3) := by decide +kernel
theorem qd_L_287 : decode code 287 = .ok (.goto 218, 3) := by decide +kernel
theorem qd_L_290 : decode code 290 = .ok (.aload_n 1, 1) := by decide +kernel
theorem qd_L_291 : decode code 291 = .ok (.aload_n 0, 1) := by decide +kernel
theorem qd_L_292 : decode code 292 = .ok (.iload 4, 2) := by decide +kernel
theorem qd_L_294 : decode code 294 = .ok (.iconst 1, 1) := by decide +kernel
theorem qd_L_295 : decode code 295 = .ok (.iadd, 1) := by decide +kernel
theorem qd_L_296 : decode code 296 = .ok (.iaload, 1) := by decide +kernel
theorem qd_L_297 : decode code 297 = .ok (.aload_n 3, 1) := by decide +kernel
theorem qd_L_298 : decode code 298 = .ok (.invokestatic 68, 3) := by decide +kernel
theorem qd_L_301 : decode code 301 = .ok (.istore 5, 2) := by decide +kernel
theorem qd_L_303 : decode code 303 = .ok (.aload_n 2, 1) := by decide +kernel
theorem qd_L_304 : decode code 304 = .ok (.aload_n 0, 1) := by decide +kernel
theorem qd_L_305 : decode code 305 = .ok (.iload 4, 2) := by decide +kernel
theorem qd_L_307 : decode code 307 = .ok (.iconst 1, 1) := by decide +kernel
theorem qd_L_308 : decode code 308 = .ok (.iadd, 1) := by decide +kernel
theorem qd_L_309 : decode code 309 = .ok (.iaload, 1) := by decide +kernel
theorem qd_L_310 : decode code 310 = .ok (.invokevirtual 70, 3) := by decide +kernel
theorem qd_L_313 : decode code 313 = .ok (.istore 6, 2) := by decide +kernel
theorem qd_L_315 : decode code 315 = .ok (.goto 190, 3) := by decide +kernel
theorem qd_L_318 : decode code 318 = .ok (.aload_n 1, 1) := by decide +kernel
theorem qd_L_319 : decode code 319 = .ok (.aload_n 0, 1) := by decide +kernel
theorem qd_L_320 : decode code 320 = .ok (.iload 4, 2) := by decide +kernel
theorem qd_L_322 : decode code 322 = .ok (.iconst 1, 1) := by decide +kernel
theorem qd_L_323 : decode code 323 = .ok (.iadd, 1) := by decide +kernel
theorem qd_L_324 : decode code 324 = .ok (.iaload, 1) := by decide +kernel
theorem qd_L_325 : decode code 325 = .ok (.invokestatic 71, 3) := by decide +kernel
theorem qd_L_328 : decode code 328 = .ok (.istore 5, 2) := by decide +kernel
theorem qd_L_330 : decode code 330 = .ok (.aload_n 2, 1) := by decide +kernel
theorem qd_L_331 : decode code 331 = .ok (.aload_n 0, 1) := by decide +kernel
theorem qd_L_332 : decode code 332 = .ok (.iload 4, 2) := by decide +kernel
theorem qd_L_334 : decode code 334 = .ok (.iconst 1, 1) := by decide +kernel
theorem qd_L_335 : decode code 335 = .ok (.iadd, 1) := by decide +kernel
theorem qd_L_336 : decode code 336 = .ok (.iaload, 1) := by decide +kernel
theorem qd_L_337 : decode code 337 = .ok (.invokevirtual 74, 3) := by decide +kernel
theorem qd_L_340 : decode code 340 = .ok (.goto 165, 3) := by decide +kernel
theorem qd_L_343 : decode code 343 = .ok (.aload_n 1, 1) := by decide +kernel
theorem qd_L_344 : decode code 344 = .ok (.invokevirtual 75, 3) := by decide +kernel
theorem qd_L_347 : decode code 347 = .ok (.pop, 1) := by decide +kernel
theorem qd_L_348 : decode code 348 = .ok (.aload_n 2, 1) := by decide +kernel
theorem qd_L_349 : decode code 349 = .ok (.invokevirtual 79, 3) := by decide +kernel
theorem qd_L_352 : decode code 352 = .ok (.pop, 1) := by decide +kernel
theorem qd_L_353 : decode code 353 = .ok (.goto 152, 3) := by decide +kernel
theorem qd_L_356 : decode code 356 = .ok (.aload_n 1, 1) := by decide +kernel
theorem qd_L_357 : decode code 357 = .ok (.aload_n 0, 1) := by decide +kernel
theorem qd_L_358 : decode code 358 = .ok (.iload 4, 2) := by decide +kernel
theorem qd_L_360 : decode code 360 = .ok (.iconst 1, 1) := by decide +kernel
theorem qd_L_361 : decode code 361 = .ok (.iadd, 1) := by decide +kernel
theorem qd_L_362 : decode code 362 = .ok (.iaload, 1) := by decide +kernel
theorem qd_L_363 : decode code 363 = .ok (.aload_n 3, 1) := by decide +kernel
theorem qd_L_364 : decode code 364 = .ok (.invokestatic 80, 3) := by decide +kernel
theorem qd_L_367 : decode code 367 = .ok (.istore 5, 2) := by decide +kernel
theorem qd_L_369 : decode code 369 = .ok (.aload_n 2, 1) := by decide +kernel
theorem qd_L_370 : decode code 370 = .ok (.aload_n 0, 1) := by decide +kernel
theorem qd_L_371 : decode code 371 = .ok (.iload 4, 2) := by decide +kernel
theorem qd_L_373 : decode code 373 = .ok (.iconst 1, 1) := by decide +kernel
theorem qd_L_374 : decode code 374 = .ok (.iadd, 1) := by decide +kernel
theorem qd_L_375 : decode code 375 = .ok (.iaload, 1) := by decide +kernel
theorem qd_L_376 : decode code 376 = .ok (.invokevirtual 82, 3) := by decide +kernel
theorem qd_L_379 : decode code 379 = .ok (.istore 6, 2) := by decide +kernel
theorem qd_L_381 : decode code 381 = .ok (.goto 124, 3) := by decide +kernel
theorem qd_L_384 : decode code 384 = .ok (.aload_n 1, 1) := by decide +kernel
theorem qd_L_385 : decode code 385 = .ok (.aload_n 0, 1) := by decide +kernel
theorem qd_L_386 : decode code 386 = .ok (.iload 4, 2) := by decide +kernel
theorem qd_L_388 : decode code 388 = .ok (.iconst 1, 1) := by decide +kernel
theorem qd_L_389 : decode code 389 = .ok (.iadd, 1) := by decide +kernel
theorem qd_L_390 : decode code 390 = .ok (.iaload, 1) := by decide +kernel
theorem qd_L_391 : decode code 391 = .ok (.aload_n 0, 1) := by decide +kernel
theorem qd_L_392 : decode code 392 = .ok (.iload 4, 2) := by decide +kernel
theorem qd_L_394 : decode code 394 = .ok (.iconst 2, 1) := by decide +kernel
theorem qd_L_395 : decode code 395 = .ok (.iadd, 1) := by decide +kernel
theorem qd_L_396 : decode code 396 = .ok (.iaload, 1) := by decide +kernel
theorem qd_L_397 : decode code 397 = .ok (.ifCond .eq 7, 3) := by decide +kernel
theorem qd_L_400 : decode code 400 = .ok (.iconst 1, 1) := by decide +kernel
theorem qd_L_401 : decode code 401 = .ok (.goto 4, 3) := by decide +kernel
theorem qd_L_404 : decode code 404 = .ok (.iconst 0, 1) := by decide +kernel
theorem qd_L_405 : decode code 405 = .ok (.aload_n 0, 1) := by decide +kernel
theorem qd_L_406 : decode code 406 = .ok (.iload 4, 2) := by decide +kernel
theorem qd_L_408 : decode code 408 = .ok (.iconst 3, 1) := by decide +kernel
theorem qd_L_409 : decode code 409 = .ok (.iadd, 1) := by decide +kernel
theorem qd_L_410 : decode code 410 = .ok (.iaload, 1) := by decide +kernel
theorem qd_L_411 : decode code 411 = .ok (.aload_n 3, 1) := by decide +kernel
theorem qd_L_412 : decode code 412 = .ok (.invokestatic 83, 3) := by decide +kernel
theorem qd_L_415 : decode code 415 = .ok (.istore 5, 2) := by decide +kernel
theorem qd_L_417 : decode code 417 = .ok (.aload_n 2, 1) := by decide +kernel
theorem qd_L_418 : decode code 418 = .ok (.aload_n 0, 1) := by decide +kernel
theorem qd_L_419 : decode code 419 = .ok (.iload 4, 2) := by decide +kernel
theorem qd_L_421 : decode code 421 = .ok (.iconst 1, 1) := by decide +kernel
theorem qd_L_422 : decode code 422 = .ok (.iadd, 1) := by decide +kernel
theorem qd_L_423 : decode code 423 = .ok (.iaload, 1) := by decide +kernel
theorem qd_L_424 : decode code 424 = .ok (.aload_n 0, 1) := by decide +kernel
theorem qd_L_425 : decode code 425 = .ok (.iload 4, 2) := by decide +kernel
theorem qd_L_427 : decode code 427 = .ok (.iconst 2, 1) := by decide +kernel
theorem qd_L_428 : decode code 428 = .ok (.iadd, 1) := by decide +kernel
theorem qd_L_429 : decode code 429 = .ok (.iaload, 1) := by decide +kernel
theorem qd_L_430 : decode code 430 = .ok (.ifCond .eq 7, 3) := by decide +kernel
theorem qd_L_433 : decode code 433 = .ok (.iconst 1, 1) := by decide +kernel
theorem qd_L_434 : decode code 434 = .ok (.goto 4, 3) := by decide +kernel
theorem qd_L_437 : decode code 437 = .ok (.iconst 0, 1) := by decide +kernel
theorem qd_L_438 : decode code 438 = .ok (.aload_n 0, 1) := by decide +kernel
theorem qd_L_439 : decode code 439 = .ok (.iload 4, 2) := by decide +kernel
theorem qd_L_441 : decode code 441 = .ok (.iconst 3, 1) := by decide +kernel
theorem qd_L_442 : decode code 442 = .ok (.iadd, 1) := by decide +kernel
theorem qd_L_443 : decode code 443 = .ok (.iaload, 1) := by decide +kernel
theorem qd_L_444 : decode code 444 = .ok (.invokevirtual 86, 3) := by decide +kernel
theorem qd_L_447 : decode code 447 = .ok (.istore 6, 2) := by decide +kernel
theorem qd_L_449 : decode code 449 = .ok (.aload_n 2, 1) := by decide +kernel
theorem qd_L_450 : decode code 450 = .ok (.invokevirtual 87, 3) := by decide +kernel
theorem qd_L_453 : decode code 453 = .ok (.iload 5, 2) := by decide +kernel
theorem qd_L_455 : decode code 455 = .ok (.if_icmp .eq 5, 3) := by decide +kernel
theorem qd_L_458 : decode code 458 = .ok (.iconst 0, 1) := by decide +kernel
theorem qd_L_459 : decode code 459 = .ok (.ireturn, 1) := by decide +kernel
theorem qd_L_460 : decode code 460 = .ok (.iload 5, 2) := by decide +kernel
theorem qd_L_462 : decode code 462 = .ok (.ifCond .ne 15, 3) := by decide +kernel
theorem qd_L_465 : decode code 465 = .ok (.aload_n 3, 1) := by decide +kernel
theorem qd_L_466 : decode code 466 = .ok (.iconst 0, 1) := by decide +kernel
theorem qd_L_467 : decode code 467 = .ok (.laload, 1) := by decide +kernel
theorem qd_L_468 : decode code 468 = .ok (.iload 6, 2) := by decide +kernel
theorem qd_L_470 : decode code 470 = .ok (.i2l, 1) := by decide +kernel
theorem qd_L_471 : decode code 471 = .ok (.lcmp, 1) := by decide +kernel
theorem qd_L_472 : decode code 472 = .ok (.ifCond .eq 5, 3) := by decide +kernel
theorem qd_L_475 : decode code 475 = .ok (.iconst 0, 1) := by decide +kernel
theorem qd_L_476 : decode code 476 = .ok (.ireturn, 1) := by decide +kernel
theorem qd_L_477 : decode code 477 = .ok (.goto 28, 3) := by decide +kernel
theorem qd_L_480 : decode code 480 = .ok (.aload_n 1, 1) := by decide +kernel
theorem qd_L_481 : decode code 481 = .ok (.aload_n 0, 1) := by decide +kernel
theorem qd_L_482 : decode code 482 = .ok (.iload 4, 2) := by decide +kernel
theorem qd_L_484 : decode code 484 = .ok (.iconst 1, 1) := by decide +kernel
theorem qd_L_485 : decode code 485 = .ok (.iadd, 1) := by decide +kernel
theorem qd_L_486 : decode code 486 = .ok (.iaload, 1) := by decide +kernel
theorem qd_L_487 : decode code 487 = .ok (.invokevirtual 90, 3) := by decide +kernel
theorem qd_L_490 : decode code 490 = .ok (.pop, 1) := by decide +kernel
theorem qd_L_491 : decode code 491 = .ok (.aload_n 2, 1) := by decide +kernel
theorem qd_L_492 : decode code 492 = .ok (.aload_n 0, 1) := by decide +kernel
theorem qd_L_493 : decode code 493 = .ok (.iload 4, 2) := by decide +kernel
theorem qd_L_495 : decode code 495 = .ok (.iconst 1, 1) := by decide +kernel
theorem qd_L_496 : decode code 496 = .ok (.iadd, 1) := by decide +kernel
theorem qd_L_497 : decode code 497 = .ok (.iaload, 1) := by decide +kernel
theorem qd_L_498 : decode code 498 = .ok (.invokevirtual 93, 3) := by decide +kernel
theorem qd_L_501 : decode code 501 = .ok (.pop, 1) := by decide +kernel
theorem qd_L_502 : decode code 502 = .ok (.goto 3, 3) := by decide +kernel
theorem qd_L_505 : decode code 505 = .ok (.iinc 4 4, 3) := by decide +kernel
theorem qd_L_508 : decode code 508 = .ok (.goto (-485), 3) := by decide +kernel
theorem qd_L_511 : decode code 511 = .ok (.iconst 1, 1) := by decide +kernel
theorem qd_L_512 : decode code 512 = .ok (.ireturn, 1) := by decide +kernel
/-- a helper's answer, out of the class's two roads -/
def jV (f : Option qS) (g : Option (Nat × qS)) (fo : Nat → Int64) (k0 : Nat) : Option (Int32 × qH) :=
  match f with
  | some S => some (0, (S, fo))
  | none => match g with
    | some q => if q.1 = k0 then some (1, (q.2, fo)) else none
    | none => none
theorem jV_of {f : Option qS} {g : Option (Nat × qS)} {fo : Nat → Int64} {k0 : Nat} {q : Int32 × qH} (h : jV f g fo k0 = some q) : (f = some q.2.1 ∧ q.2.2 = fo ∧ q.1 = 0) ∨ (g = some (k0, q.2.1) ∧ q.2.2 = fo ∧ q.1 = 1) := by
  unfold jV at h
  cases f with
  | some S => cases h; exact Or.inl ⟨rfl, rfl, rfl⟩
  | none =>
    cases g with
    | none => cases h
    | some z =>
      obtain ⟨z1, z2⟩ := z
      by_cases c : z1 = k0
      · subst c
        have h := if_t rfl h
        cases h; exact Or.inr ⟨rfl, rfl, rfl⟩
      · have h := if_f c h
        cases h
def jI (f : Option (Int32 × qS)) (g : Option (Nat × qS)) (fo : Nat → Int64) (k0 k1 : Nat) : Option (Int32 × qH) :=
  match f with
  | some z => some (0, (z.2, vp_updL fo 0 z.1.toInt64))
  | none => match g with
    | some q => if q.1 = k0 then some (1, (q.2, fo)) else if q.1 = k1 then some (2, (q.2, fo)) else none
    | none => none
theorem jI_of {f : Option (Int32 × qS)} {g : Option (Nat × qS)} {fo : Nat → Int64} {k0 k1 : Nat} {q : Int32 × qH} (h : jI f g fo k0 k1 = some q) : (∃ rr : Int32, f = some (rr, q.2.1) ∧ q.2.2 = vp_updL fo 0 rr.toInt64 ∧ q.1 = 0) ∨ (g = some (k0, q.2.1) ∧ q.2.2 = fo ∧ q.1 = 1) ∨ (g = some (k1, q.2.1) ∧ q.2.2 = fo ∧ q.1 = 2) := by
  unfold jI at h
  cases f with
  | some S => cases h; exact Or.inl ⟨_, rfl, rfl, rfl⟩
  | none =>
    cases g with
    | none => cases h
    | some z =>
      obtain ⟨z1, z2⟩ := z
      by_cases c : z1 = k0
      · subst c
        have h := if_t rfl h
        cases h; exact Or.inr (Or.inl ⟨rfl, rfl, rfl⟩)
      · have h := if_f c h
        by_cases c : z1 = k1
        · subst c
          have h := if_t rfl h
          cases h; exact Or.inr (Or.inr ⟨rfl, rfl, rfl⟩)
        · have h := if_f c h
          cases h
/-- with one kind of exception alone -/
def j1 (f : Option (Int32 × qS)) (g : Option (Nat × qS)) (fo : Nat → Int64) (k0 : Nat) : Option (Int32 × qH) :=
  match f with
  | some z => some (0, (z.2, vp_updL fo 0 z.1.toInt64))
  | none => match g with
    | some q => if q.1 = k0 then some (1, (q.2, fo)) else none
    | none => none
theorem j1_of {f : Option (Int32 × qS)} {g : Option (Nat × qS)} {fo : Nat → Int64} {k0 : Nat} {q : Int32 × qH} (h : j1 f g fo k0 = some q) : (∃ rr : Int32, f = some (rr, q.2.1) ∧ q.2.2 = vp_updL fo 0 rr.toInt64 ∧ q.1 = 0) ∨ (g = some (k0, q.2.1) ∧ q.2.2 = fo ∧ q.1 = 1) := by
  unfold j1 at h
  cases f with
  | some S => cases h; exact Or.inl ⟨_, rfl, rfl, rfl⟩
  | none =>
    cases g with
    | none => cases h
    | some z =>
      obtain ⟨z1, z2⟩ := z
      by_cases c : z1 = k0
      · subst c
        have h := if_t rfl h
        cases h; exact Or.inr ⟨rfl, rfl, rfl⟩
      · have h := if_f c h
        cases h
def jL_set (S : qS) (fo : Nat → Int64) (a1 a2 : Int32) : Option (Int32 × qH) := jV (fX_set S a1 a2) (gX_set S a1 a2) fo 0
theorem jL_set_of {S : qS} {fo : Nat → Int64} {a1 a2 : Int32} {q : Int32 × qH} (h : jL_set S fo a1 a2 = some q) : (fX_set S a1 a2 = some q.2.1 ∧ q.2.2 = fo ∧ q.1 = 0) ∨ (gX_set S a1 a2 = some (0, q.2.1) ∧ q.2.2 = fo ∧ q.1 = 1) := jV_of h
def jL_register (S : qS) (fo : Nat → Int64) (a1 : Int32) : Option (Int32 × qH) := j1 (fX_register S a1) (gX_register S a1) fo 0
theorem jL_register_of {S : qS} {fo : Nat → Int64} {a1 : Int32} {q : Int32 × qH} (h : jL_register S fo a1 = some q) : (∃ rr : Int32, fX_register S a1 = some (rr, q.2.1) ∧ q.2.2 = vp_updL fo 0 rr.toInt64 ∧ q.1 = 0) ∨ (gX_register S a1 = some (0, q.2.1) ∧ q.2.2 = fo ∧ q.1 = 1) := j1_of h
def jL_setInner (S : qS) (fo : Nat → Int64) (a1 a2 : Int32) : Option (Int32 × qH) := jV (fX_setInner S a1 a2) (gX_setInner S a1 a2) fo 0
theorem jL_setInner_of {S : qS} {fo : Nat → Int64} {a1 a2 : Int32} {q : Int32 × qH} (h : jL_setInner S fo a1 a2 = some q) : (fX_setInner S a1 a2 = some q.2.1 ∧ q.2.2 = fo ∧ q.1 = 0) ∨ (gX_setInner S a1 a2 = some (0, q.2.1) ∧ q.2.2 = fo ∧ q.1 = 1) := jV_of h
def jL_inner (S : qS) (fo : Nat → Int64) (a1 : Int32) : Option (Int32 × qH) := j1 (fX_inner S a1) (gX_inner S a1) fo 0
theorem jL_inner_of {S : qS} {fo : Nat → Int64} {a1 : Int32} {q : Int32 × qH} (h : jL_inner S fo a1 = some q) : (∃ rr : Int32, fX_inner S a1 = some (rr, q.2.1) ∧ q.2.2 = vp_updL fo 0 rr.toInt64 ∧ q.1 = 0) ∨ (gX_inner S a1 = some (0, q.2.1) ∧ q.2.2 = fo ∧ q.1 = 1) := j1_of h
def jL_begin (S : qS) (fo : Nat → Int64) (a1 : Int32) : Option (Int32 × qH) := jV (fX_begin S a1) (gX_begin S a1) fo 1
theorem jL_begin_of {S : qS} {fo : Nat → Int64} {a1 : Int32} {q : Int32 × qH} (h : jL_begin S fo a1 = some q) : (fX_begin S a1 = some q.2.1 ∧ q.2.2 = fo ∧ q.1 = 0) ∨ (gX_begin S a1 = some (1, q.2.1) ∧ q.2.2 = fo ∧ q.1 = 1) := jV_of h
def jL_run (S : qS) (fo : Nat → Int64) (a1 : Int32) : Option (Int32 × qH) := jI (fX_run S a1) (gX_run S a1) fo 1 2
theorem jL_run_of {S : qS} {fo : Nat → Int64} {a1 : Int32} {q : Int32 × qH} (h : jL_run S fo a1 = some q) : (∃ rr : Int32, fX_run S a1 = some (rr, q.2.1) ∧ q.2.2 = vp_updL fo 0 rr.toInt64 ∧ q.1 = 0) ∨ (gX_run S a1 = some (1, q.2.1) ∧ q.2.2 = fo ∧ q.1 = 1) ∨ (gX_run S a1 = some (2, q.2.1) ∧ q.2.2 = fo ∧ q.1 = 2) := jI_of h
def jL_reach (S : qS) (fo : Nat → Int64) (a1 a2 a3 : Int32) : Option (Int32 × qH) := j1 (fX_reach S a1 a2 a3) (gX_reach S a1 a2 a3) fo 1
theorem jL_reach_of {S : qS} {fo : Nat → Int64} {a1 a2 a3 : Int32} {q : Int32 × qH} (h : jL_reach S fo a1 a2 a3 = some q) : (∃ rr : Int32, fX_reach S a1 a2 a3 = some (rr, q.2.1) ∧ q.2.2 = vp_updL fo 0 rr.toInt64 ∧ q.1 = 0) ∨ (gX_reach S a1 a2 a3 = some (1, q.2.1) ∧ q.2.2 = fo ∧ q.1 = 1) := j1_of h
theorem qf_62 : Cond.initialized "QuadModeLaw" ∈ qw := qw_in 62 (by decide +kernel) (by decide +kernel)
theorem qf_63 : Cond.initialized "QuadMode" ∈ qw := qw_in 63 (by decide +kernel) (by decide +kernel)
theorem qf_70 : Cond.initialized "QuadModeModel" ∈ qw := qw_in 70 (by decide +kernel) (by decide +kernel)
theorem qf_265 : Cond.methodLink "QuadModeLaw" 46 qm_X_fill ∈ qw := qw_in 265 (by decide +kernel) (by decide +kernel)
theorem qf_266 : Cond.instanceMethod qm_X_fill ∈ qw := qw_in 266 (by decide +kernel) (by decide +kernel)
theorem qf_267 : Cond.selects "QuadMode" qm_X_fill qm_X_fill ∈ qw := qw_in 267 (by decide +kernel) (by decide +kernel)
theorem qf_268 : Cond.code qm_X_fill qm_X_fill_c 5 none ∈ qw := qw_in 268 (by decide +kernel) (by decide +kernel)
theorem qf_273 : Cond.methodLink "QuadModeLaw" 51 qm_X_look ∈ qw := qw_in 273 (by decide +kernel) (by decide +kernel)
theorem qf_274 : Cond.instanceMethod qm_X_look ∈ qw := qw_in 274 (by decide +kernel) (by decide +kernel)
theorem qf_275 : Cond.selects "QuadMode" qm_X_look qm_X_look ∈ qw := qw_in 275 (by decide +kernel) (by decide +kernel)
theorem qf_276 : Cond.code qm_X_look qm_X_look_c 2 (some .int) ∈ qw := qw_in 276 (by decide +kernel) (by decide +kernel)
theorem qf_281 : Cond.methodLink "QuadModeLaw" 75 qm_X_status ∈ qw := qw_in 281 (by decide +kernel) (by decide +kernel)
theorem qf_282 : Cond.instanceMethod qm_X_status ∈ qw := qw_in 282 (by decide +kernel) (by decide +kernel)
theorem qf_283 : Cond.selects "QuadMode" qm_X_status qm_X_status ∈ qw := qw_in 283 (by decide +kernel) (by decide +kernel)
theorem qf_284 : Cond.code qm_X_status qm_X_status_c 1 (some .int) ∈ qw := qw_in 284 (by decide +kernel) (by decide +kernel)
theorem qf_285 : Cond.methodLink "QuadModeLaw" 90 qm_X_state ∈ qw := qw_in 285 (by decide +kernel) (by decide +kernel)
theorem qf_286 : Cond.instanceMethod qm_X_state ∈ qw := qw_in 286 (by decide +kernel) (by decide +kernel)
theorem qf_287 : Cond.selects "QuadMode" qm_X_state qm_X_state ∈ qw := qw_in 287 (by decide +kernel) (by decide +kernel)
theorem qf_288 : Cond.code qm_X_state qm_X_state_c 2 (some .int) ∈ qw := qw_in 288 (by decide +kernel) (by decide +kernel)
theorem qf_289 : Cond.methodLink "QuadModeLaw" 55 qm_L_set ∈ qw := qw_in 289 (by decide +kernel) (by decide +kernel)
theorem qf_290 : Cond.static qm_L_set ∈ qw := qw_in 290 (by decide +kernel) (by decide +kernel)
theorem qf_372 : Cond.methodLink "QuadModeLaw" 61 qm_L_register ∈ qw := qw_in 372 (by decide +kernel) (by decide +kernel)
theorem qf_373 : Cond.static qm_L_register ∈ qw := qw_in 373 (by decide +kernel) (by decide +kernel)
theorem qf_383 : Cond.methodLink "QuadModeLaw" 65 qm_L_setInner ∈ qw := qw_in 383 (by decide +kernel) (by decide +kernel)
theorem qf_384 : Cond.static qm_L_setInner ∈ qw := qw_in 384 (by decide +kernel) (by decide +kernel)
theorem qf_400 : Cond.methodLink "QuadModeLaw" 68 qm_L_inner ∈ qw := qw_in 400 (by decide +kernel) (by decide +kernel)
theorem qf_401 : Cond.static qm_L_inner ∈ qw := qw_in 401 (by decide +kernel) (by decide +kernel)
theorem qf_411 : Cond.methodLink "QuadModeLaw" 71 qm_L_begin ∈ qw := qw_in 411 (by decide +kernel) (by decide +kernel)
theorem qf_412 : Cond.static qm_L_begin ∈ qw := qw_in 412 (by decide +kernel) (by decide +kernel)
theorem qf_436 : Cond.methodLink "QuadModeLaw" 80 qm_L_run ∈ qw := qw_in 436 (by decide +kernel) (by decide +kernel)
theorem qf_437 : Cond.static qm_L_run ∈ qw := qw_in 437 (by decide +kernel) (by decide +kernel)
theorem qf_816 : Cond.methodLink "QuadModeLaw" 83 qm_L_reach ∈ qw := qw_in 816 (by decide +kernel) (by decide +kernel)
theorem qf_817 : Cond.static qm_L_reach ∈ qw := qw_in 817 (by decide +kernel) (by decide +kernel)
theorem qf_898 : Cond.methodLink "QuadModeLaw" 87 qm_M_thrown ∈ qw := qw_in 898 (by decide +kernel) (by decide +kernel)
theorem qf_899 : Cond.instanceMethod qm_M_thrown ∈ qw := qw_in 899 (by decide +kernel) (by decide +kernel)
theorem qf_900 : Cond.selects "QuadModeModel" qm_M_thrown qm_M_thrown ∈ qw := qw_in 900 (by decide +kernel) (by decide +kernel)
theorem qf_901 : Cond.code qm_M_thrown qm_M_thrown_c 1 (some .int) ∈ qw := qw_in 901 (by decide +kernel) (by decide +kernel)
theorem qf_902 : Cond.methodLink "QuadModeLaw" 50 qm_M_fill ∈ qw := qw_in 902 (by decide +kernel) (by decide +kernel)
theorem qf_903 : Cond.instanceMethod qm_M_fill ∈ qw := qw_in 903 (by decide +kernel) (by decide +kernel)
theorem qf_904 : Cond.selects "QuadModeModel" qm_M_fill qm_M_fill ∈ qw := qw_in 904 (by decide +kernel) (by decide +kernel)
theorem qf_905 : Cond.code qm_M_fill qm_M_fill_c 5 none ∈ qw := qw_in 905 (by decide +kernel) (by decide +kernel)
theorem qf_907 : Cond.methodLink "QuadModeLaw" 54 qm_M_look ∈ qw := qw_in 907 (by decide +kernel) (by decide +kernel)
theorem qf_908 : Cond.instanceMethod qm_M_look ∈ qw := qw_in 908 (by decide +kernel) (by decide +kernel)
theorem qf_909 : Cond.selects "QuadModeModel" qm_M_look qm_M_look ∈ qw := qw_in 909 (by decide +kernel) (by decide +kernel)
theorem qf_910 : Cond.code qm_M_look qm_M_look_c 2 (some .int) ∈ qw := qw_in 910 (by decide +kernel) (by decide +kernel)
theorem qf_915 : Cond.methodLink "QuadModeLaw" 60 qm_M_set ∈ qw := qw_in 915 (by decide +kernel) (by decide +kernel)
theorem qf_916 : Cond.instanceMethod qm_M_set ∈ qw := qw_in 916 (by decide +kernel) (by decide +kernel)
theorem qf_917 : Cond.selects "QuadModeModel" qm_M_set qm_M_set ∈ qw := qw_in 917 (by decide +kernel) (by decide +kernel)
theorem qf_918 : Cond.code qm_M_set qm_M_set_c 3 none ∈ qw := qw_in 918 (by decide +kernel) (by decide +kernel)
theorem qf_927 : Cond.methodLink "QuadModeLaw" 64 qm_M_register ∈ qw := qw_in 927 (by decide +kernel) (by decide +kernel)
theorem qf_928 : Cond.instanceMethod qm_M_register ∈ qw := qw_in 928 (by decide +kernel) (by decide +kernel)
theorem qf_929 : Cond.selects "QuadModeModel" qm_M_register qm_M_register ∈ qw := qw_in 929 (by decide +kernel) (by decide +kernel)
theorem qf_930 : Cond.code qm_M_register qm_M_register_c 2 (some .int) ∈ qw := qw_in 930 (by decide +kernel) (by decide +kernel)
theorem qf_939 : Cond.methodLink "QuadModeLaw" 67 qm_M_setInner ∈ qw := qw_in 939 (by decide +kernel) (by decide +kernel)
theorem qf_940 : Cond.instanceMethod qm_M_setInner ∈ qw := qw_in 940 (by decide +kernel) (by decide +kernel)
theorem qf_941 : Cond.selects "QuadModeModel" qm_M_setInner qm_M_setInner ∈ qw := qw_in 941 (by decide +kernel) (by decide +kernel)
theorem qf_942 : Cond.code qm_M_setInner qm_M_setInner_c 3 none ∈ qw := qw_in 942 (by decide +kernel) (by decide +kernel)
theorem qf_946 : Cond.methodLink "QuadModeLaw" 70 qm_M_inner ∈ qw := qw_in 946 (by decide +kernel) (by decide +kernel)
theorem qf_947 : Cond.instanceMethod qm_M_inner ∈ qw := qw_in 947 (by decide +kernel) (by decide +kernel)
theorem qf_948 : Cond.selects "QuadModeModel" qm_M_inner qm_M_inner ∈ qw := qw_in 948 (by decide +kernel) (by decide +kernel)
theorem qf_949 : Cond.code qm_M_inner qm_M_inner_c 2 (some .int) ∈ qw := qw_in 949 (by decide +kernel) (by decide +kernel)
theorem qf_950 : Cond.methodLink "QuadModeLaw" 74 qm_M_begin ∈ qw := qw_in 950 (by decide +kernel) (by decide +kernel)
theorem qf_951 : Cond.instanceMethod qm_M_begin ∈ qw := qw_in 951 (by decide +kernel) (by decide +kernel)
theorem qf_952 : Cond.selects "QuadModeModel" qm_M_begin qm_M_begin ∈ qw := qw_in 952 (by decide +kernel) (by decide +kernel)
theorem qf_953 : Cond.code qm_M_begin qm_M_begin_c 2 none ∈ qw := qw_in 953 (by decide +kernel) (by decide +kernel)
theorem qf_955 : Cond.methodLink "QuadModeLaw" 79 qm_M_status ∈ qw := qw_in 955 (by decide +kernel) (by decide +kernel)
theorem qf_956 : Cond.instanceMethod qm_M_status ∈ qw := qw_in 956 (by decide +kernel) (by decide +kernel)
theorem qf_957 : Cond.selects "QuadModeModel" qm_M_status qm_M_status ∈ qw := qw_in 957 (by decide +kernel) (by decide +kernel)
theorem qf_958 : Cond.code qm_M_status qm_M_status_c 1 (some .int) ∈ qw := qw_in 958 (by decide +kernel) (by decide +kernel)
theorem qf_959 : Cond.methodLink "QuadModeLaw" 82 qm_M_run ∈ qw := qw_in 959 (by decide +kernel) (by decide +kernel)
theorem qf_960 : Cond.instanceMethod qm_M_run ∈ qw := qw_in 960 (by decide +kernel) (by decide +kernel)
theorem qf_961 : Cond.selects "QuadModeModel" qm_M_run qm_M_run ∈ qw := qw_in 961 (by decide +kernel) (by decide +kernel)
theorem qf_962 : Cond.code qm_M_run qm_M_run_c 3 (some .int) ∈ qw := qw_in 962 (by decide +kernel) (by decide +kernel)
theorem qf_1091 : Cond.methodLink "QuadModeLaw" 86 qm_M_reach ∈ qw := qw_in 1091 (by decide +kernel) (by decide +kernel)
theorem qf_1092 : Cond.instanceMethod qm_M_reach ∈ qw := qw_in 1092 (by decide +kernel) (by decide +kernel)
theorem qf_1093 : Cond.selects "QuadModeModel" qm_M_reach qm_M_reach ∈ qw := qw_in 1093 (by decide +kernel) (by decide +kernel)
theorem qf_1094 : Cond.code qm_M_reach qm_M_reach_c 4 (some .int) ∈ qw := qw_in 1094 (by decide +kernel) (by decide +kernel)
theorem qf_1095 : Cond.methodLink "QuadModeLaw" 93 qm_M_state ∈ qw := qw_in 1095 (by decide +kernel) (by decide +kernel)
theorem qf_1096 : Cond.instanceMethod qm_M_state ∈ qw := qw_in 1096 (by decide +kernel) (by decide +kernel)
theorem qf_1097 : Cond.selects "QuadModeModel" qm_M_state qm_M_state ∈ qw := qw_in 1097 (by decide +kernel) (by decide +kernel)
theorem qf_1098 : Cond.code qm_M_state qm_M_state_c 2 (some .int) ∈ qw := qw_in 1098 (by decide +kernel) (by decide +kernel)
theorem qf_1099 : Cond.constantLong "QuadModeLaw" 44 4294967295 ∈ qw := qw_in 1099 (by decide +kernel) (by decide +kernel)
def fL_505 (K : qLs → Int32 → Option Unit) (xs : Nat → Int32) (L : Nat) (w : qLs) (x4 : Int32) : Option Unit :=
  K w (x4 + 4)
def fL_96 (K : qLs → Int32 → Option Unit) (xs : Nat → Int32) (L : Nat) (w : qLs) (x4 : Int32) : Option Unit :=
  chk (inb (x4 + 1) L) <|
  chk (inb (x4 + 2) L) <|
  chk (inb (x4 + 3) L) <|
  (fX_fill w.2.1 (xs (x4 + 1).toNatClampNeg) ((((xs (x4 + 2).toNatClampNeg).toInt64) <<< ((32 : Int32).toInt64 &&& 63)) ||| (((xs (x4 + 3).toNatClampNeg).toInt64) &&& 4294967295))).bind fun q4 =>
  chk (inb (x4 + 1) L) <|
  chk (inb (x4 + 2) L) <|
  chk (inb (x4 + 3) L) <|
  (fM_fill (w.1, (q4, w.2.2)).1 (xs (x4 + 1).toNatClampNeg) ((((xs (x4 + 2).toNatClampNeg).toInt64) <<< ((32 : Int32).toInt64 &&& 63)) ||| (((xs (x4 + 3).toNatClampNeg).toInt64) &&& 4294967295))).bind fun q8 =>
  fL_505 K xs L (q8, (w.1, (q4, w.2.2)).2) x4
def fL_163 (K : qLs → Int32 → Option Unit) (xs : Nat → Int32) (L : Nat) (w : qLs) (x4 : Int32) : Option Unit :=
  chk (inb (x4 + 1) L) <|
  (fX_look w.2.1 (xs (x4 + 1).toNatClampNeg)).bind fun q2 =>
  chk (inb (x4 + 1) L) <|
  (fM_look (w.1, (q2.2, w.2.2)).1 (xs (x4 + 1).toNatClampNeg)).bind fun q4 =>
  fL_505 K xs L (q4.2, (w.1, (q2.2, w.2.2)).2) x4
def fL_188 (K : qLs → Int32 → Option Unit) (xs : Nat → Int32) (L : Nat) (w : qLs) (x4 : Int32) : Option Unit :=
  chk (inb (x4 + 1) L) <|
  chk (inb (x4 + 2) L) <|
  (jL_set w.2.1 w.2.2 (xs (x4 + 1).toNatClampNeg) (xs (x4 + 2).toNatClampNeg)).bind fun q3 =>
  chk (inb (x4 + 1) L) <|
  chk (inb (x4 + 2) L) <|
  (fM_set (w.1, q3.2).1 (xs (x4 + 1).toNatClampNeg) (xs (x4 + 2).toNatClampNeg)).bind fun q6 =>
  fL_505 K xs L (q6, (w.1, q3.2).2) x4
def fL_225 (K : qLs → Int32 → Option Unit) (xs : Nat → Int32) (L : Nat) (w : qLs) (x4 : Int32) : Option Unit :=
  chk (inb (x4 + 1) L) <|
  (jL_register w.2.1 w.2.2 (xs (x4 + 1).toNatClampNeg)).bind fun q2 =>
  chk (inb (x4 + 1) L) <|
  (fM_register (w.1, q2.2).1 (xs (x4 + 1).toNatClampNeg)).bind fun q4 =>
  fL_505 K xs L (q4.2, (w.1, q2.2).2) x4
def fL_253 (K : qLs → Int32 → Option Unit) (xs : Nat → Int32) (L : Nat) (w : qLs) (x4 : Int32) : Option Unit :=
  chk (inb (x4 + 1) L) <|
  chk (inb (x4 + 2) L) <|
  (jL_setInner w.2.1 w.2.2 (xs (x4 + 1).toNatClampNeg) (xs (x4 + 2).toNatClampNeg)).bind fun q3 =>
  chk (inb (x4 + 1) L) <|
  chk (inb (x4 + 2) L) <|
  (fM_setInner (w.1, q3.2).1 (xs (x4 + 1).toNatClampNeg) (xs (x4 + 2).toNatClampNeg)).bind fun q6 =>
  fL_505 K xs L (q6, (w.1, q3.2).2) x4
def fL_290 (K : qLs → Int32 → Option Unit) (xs : Nat → Int32) (L : Nat) (w : qLs) (x4 : Int32) : Option Unit :=
  chk (inb (x4 + 1) L) <|
  (jL_inner w.2.1 w.2.2 (xs (x4 + 1).toNatClampNeg)).bind fun q2 =>
  chk (inb (x4 + 1) L) <|
  (fM_inner (w.1, q2.2).1 (xs (x4 + 1).toNatClampNeg)).bind fun q4 =>
  fL_505 K xs L (q4.2, (w.1, q2.2).2) x4
def fL_318 (K : qLs → Int32 → Option Unit) (xs : Nat → Int32) (L : Nat) (w : qLs) (x4 : Int32) : Option Unit :=
  chk (inb (x4 + 1) L) <|
  (jL_begin w.2.1 w.2.2 (xs (x4 + 1).toNatClampNeg)).bind fun q2 =>
  chk (inb (x4 + 1) L) <|
  (fM_begin (w.1, q2.2).1 (xs (x4 + 1).toNatClampNeg)).bind fun q4 =>
  fL_505 K xs L (q4, (w.1, q2.2).2) x4
def fL_343 (K : qLs → Int32 → Option Unit) (xs : Nat → Int32) (L : Nat) (w : qLs) (x4 : Int32) : Option Unit :=
  (fX_status w.2.1).bind fun q1 =>
  (fM_status (w.1, (q1.2, w.2.2)).1).bind fun q2 =>
  fL_505 K xs L (q2.2, (w.1, (q1.2, w.2.2)).2) x4
def fL_356 (K : qLs → Int32 → Option Unit) (xs : Nat → Int32) (L : Nat) (w : qLs) (x4 : Int32) : Option Unit :=
  chk (inb (x4 + 1) L) <|
  (jL_run w.2.1 w.2.2 (xs (x4 + 1).toNatClampNeg)).bind fun q2 =>
  chk (inb (x4 + 1) L) <|
  (fM_run (w.1, q2.2).1 (xs (x4 + 1).toNatClampNeg)).bind fun q4 =>
  fL_505 K xs L (q4.2, (w.1, q2.2).2) x4
def fL_477 (K : qLs → Int32 → Option Unit) (xs : Nat → Int32) (L : Nat) (w : qLs) (x4 : Int32) : Option Unit :=
  fL_505 K xs L w x4
def fL_438 (K : qLs → Int32 → Option Unit) (xs : Nat → Int32) (L : Nat) (w : qLs) (x4 : Int32) (x5 : Int32) (y1 : Int32) (y2 : Int32) : Option Unit :=
  chk (inb (x4 + 3) L) <|
  (fM_reach w.1 y1 y2 (xs (x4 + 3).toNatClampNeg)).bind fun q2 =>
  (fM_thrown (q2.2, w.2).1).bind fun q3 =>
  if q3.1 = x5 then
    if ¬ x5 = 0 then
      fL_477 K xs L (q3.2, (q2.2, w.2).2) x4
    else
      if (lg_cmp ((q3.2, (q2.2, w.2).2).2.2 0) q2.1.toInt64) = 0 then
        fL_477 K xs L (q3.2, (q2.2, w.2).2) x4
      else
        none
  else
    none
def fL_405 (K : qLs → Int32 → Option Unit) (xs : Nat → Int32) (L : Nat) (w : qLs) (x4 : Int32) (y1 : Int32) (y2 : Int32) : Option Unit :=
  chk (inb (x4 + 3) L) <|
  (jL_reach w.2.1 w.2.2 y1 y2 (xs (x4 + 3).toNatClampNeg)).bind fun q2 =>
  chk (inb (x4 + 1) L) <|
  chk (inb (x4 + 2) L) <|
  if (xs (x4 + 2).toNatClampNeg) = 0 then
    fL_438 K xs L (w.1, q2.2) x4 q2.1 (xs (x4 + 1).toNatClampNeg) 0
  else
    fL_438 K xs L (w.1, q2.2) x4 q2.1 (xs (x4 + 1).toNatClampNeg) 1
def fL_384 (K : qLs → Int32 → Option Unit) (xs : Nat → Int32) (L : Nat) (w : qLs) (x4 : Int32) : Option Unit :=
  chk (inb (x4 + 1) L) <|
  chk (inb (x4 + 2) L) <|
  if (xs (x4 + 2).toNatClampNeg) = 0 then
    fL_405 K xs L w x4 (xs (x4 + 1).toNatClampNeg) 0
  else
    fL_405 K xs L w x4 (xs (x4 + 1).toNatClampNeg) 1
def fL_480 (K : qLs → Int32 → Option Unit) (xs : Nat → Int32) (L : Nat) (w : qLs) (x4 : Int32) : Option Unit :=
  chk (inb (x4 + 1) L) <|
  (fX_state w.2.1 (xs (x4 + 1).toNatClampNeg)).bind fun q2 =>
  chk (inb (x4 + 1) L) <|
  (fM_state (w.1, (q2.2, w.2.2)).1 (xs (x4 + 1).toNatClampNeg)).bind fun q4 =>
  fL_505 K xs L (q4.2, (w.1, (q2.2, w.2.2)).2) x4
def fL (xs : Nat → Int32) (L : Nat) : Nat → qLs → Int32 → Option Unit
  | 0, _, _ => none
  | n + 1, w, x4 =>
    if ((Int32.ofNat L) - 4) < x4 then
      some ()
    else
      chk (inb x4 L) <|
      if ((xs x4.toNatClampNeg) &&& 15).toInt < 0 ∨ 10 < ((xs x4.toNatClampNeg) &&& 15).toInt then
        fL_505 (fL xs L n) xs L w x4
      else
      if ((xs x4.toNatClampNeg) &&& 15) = 0 then
        fL_96 (fL xs L n) xs L w x4
      else
      if ((xs x4.toNatClampNeg) &&& 15) = 1 then
        fL_163 (fL xs L n) xs L w x4
      else
      if ((xs x4.toNatClampNeg) &&& 15) = 2 then
        fL_188 (fL xs L n) xs L w x4
      else
      if ((xs x4.toNatClampNeg) &&& 15) = 3 then
        fL_225 (fL xs L n) xs L w x4
      else
      if ((xs x4.toNatClampNeg) &&& 15) = 4 then
        fL_253 (fL xs L n) xs L w x4
      else
      if ((xs x4.toNatClampNeg) &&& 15) = 5 then
        fL_290 (fL xs L n) xs L w x4
      else
      if ((xs x4.toNatClampNeg) &&& 15) = 6 then
        fL_318 (fL xs L n) xs L w x4
      else
      if ((xs x4.toNatClampNeg) &&& 15) = 7 then
        fL_343 (fL xs L n) xs L w x4
      else
      if ((xs x4.toNatClampNeg) &&& 15) = 8 then
        fL_356 (fL xs L n) xs L w x4
      else
      if ((xs x4.toNatClampNeg) &&& 15) = 9 then
        fL_384 (fL xs L n) xs L w x4
      else
      if ((xs x4.toNatClampNeg) &&& 15) = 10 then
        fL_480 (fL xs L n) xs L w x4
      else
      none
set_option maxHeartbeats 4000000 in
set_option maxRecDepth 100000 in
theorem wL_505 {p : Program} {l : Launch} {e : Env} {s : State} {m : MethodId} {below : List Frame} {meth : Method} {c : Code} {D : va_G} {hm h : Nat → Nat} {Km K9 : Nat → ClassId} {ho : Nat} {ko : ClassId} {A : Nat → Prop} {ad av : Nat → Nat} {b L : Nat} {xs : Nat → Int32} (K0 : qL p l s m #[Value.ref b] meth c ad av A b L xs) (hAs : ∀ q, A q → s.heap.size ≤ q) {CE SE cells slots : Nat} (hCE : CE ≤ 1061 ∧ SE ≤ 12619) (hcs : cells ≤ CE ∧ slots ≤ SE) {K : qLs → Int32 → Option Unit} {X4 : Int32} (hK : ∀ (w : qLs), K w X4 = some () → ∀ (H : Heap) (locs : List Loc) (ls : Array Slot), qG D qCl (lT Km K9 ko) A s (lW hm Km h K9 ho ko w) H locs → lv_has ls 7 [(0, .ref b), (1, .ref (h 0)), (2, .ref (hm 0)), (3, .ref ho), (4, .int X4)] → W p l e room_1 s m #[Value.ref b] below meth c H locs CE SE (lw_Z below #[Value.ref b] s) (F0 m 23 ls [])) (w : qLs) (x4 : Int32) (hx4 : x4 + 4 = X4) (hf : fL_505 K xs L w x4 = some ()) : ∀ (H : Heap) (locs : List Loc) (ls : Array Slot), qG D qCl (lT Km K9 ko) A s (lW hm Km h K9 ho ko w) H locs → lv_has ls 7 [(0, .ref b), (1, .ref (h 0)), (2, .ref (hm 0)), (3, .ref ho), (4, .int x4)] → W p l e room_1 s m #[Value.ref b] below meth c H locs cells slots (lw_Z below #[Value.ref b] s) (F0 m 505 ls []) := by
  intro H locs ls G hl
  obtain ⟨C, hr, hlocks, hl0, hN, hZ, hT9, hNc, hX, hbl, hbA, hLN⟩ := id K0
  have hcr0 : cells ≤ room_1.cells ∧ slots ≤ room_1.slots := ⟨show cells ≤ 1061 by omega, show slots ≤ 12619 by omega⟩
  unfold fL_505 at hf
  refine lv_iinc (v := x4 + 4) (lv' := [(4, .int (x4 + 4)), (0, .ref b), (1, .ref (h 0)), (2, .ref (hm 0)), (3, .ref ho)]) C.1 C.2.1 qd_L_505 hl (k := 4) rfl rfl (by decide) rfl (fun ls hl => ?_)
  refine lv_goto (tgt := 23) C.1 C.2.1 qd_L_508 (by decide) ?_
  rw [hx4] at hl hf
  refine W.widen (k := CE) (n := SE) hcs.1 hcs.2 ?_
  exact hK w hf _ _ _ G (lv_sub hl [1, 2, 3, 4, 0] rfl)
set_option maxHeartbeats 4000000 in
set_option maxRecDepth 100000 in
theorem wL_96 {p : Program} {l : Launch} {e : Env} {s : State} {m : MethodId} {below : List Frame} {meth : Method} {c : Code} {D : va_G} {hm h : Nat → Nat} {Km K9 : Nat → ClassId} {ho : Nat} {ko : ClassId} {A : Nat → Prop} {ad av : Nat → Nat} {b L : Nat} {xs : Nat → Int32} (K0 : qL p l s m #[Value.ref b] meth c ad av A b L xs) (hAs : ∀ q, A q → s.heap.size ≤ q) {CE SE cells slots : Nat} (hCE : CE ≤ 1061 ∧ SE ≤ 12619) (hcs : cells ≤ CE ∧ slots ≤ SE) {K : qLs → Int32 → Option Unit} {X4 : Int32} (hK : ∀ (w : qLs), K w X4 = some () → ∀ (H : Heap) (locs : List Loc) (ls : Array Slot), qG D qCl (lT Km K9 ko) A s (lW hm Km h K9 ho ko w) H locs → lv_has ls 7 [(0, .ref b), (1, .ref (h 0)), (2, .ref (hm 0)), (3, .ref ho), (4, .int X4)] → W p l e room_1 s m #[Value.ref b] below meth c H locs CE SE (lw_Z below #[Value.ref b] s) (F0 m 23 ls [])) (w : qLs) (x4 : Int32) (hx4 : x4 + 4 = X4) (hf : fL_96 K xs L w x4 = some ()) : ∀ (H : Heap) (locs : List Loc) (ls : Array Slot), qG D qCl (lT Km K9 ko) A s (lW hm Km h K9 ho ko w) H locs → lv_has ls 7 [(0, .ref b), (1, .ref (h 0)), (2, .ref (hm 0)), (3, .ref ho), (4, .int x4)] → W p l e room_1 s m #[Value.ref b] below meth c H locs cells slots (lw_Z below #[Value.ref b] s) (F0 m 96 ls []) := by
  intro H locs ls G hl
  obtain ⟨C, hr, hlocks, hl0, hN, hZ, hT9, hNc, hX, hbl, hbA, hLN⟩ := id K0
  have hcr0 : cells ≤ room_1.cells ∧ slots ≤ room_1.slots := ⟨show cells ≤ 1061 by omega, show slots ≤ 12619 by omega⟩
  unfold fL_96 at hf
  refine lv_aload_n C.1 C.2.1 qd_L_96 rfl (lv_at hl 1 rfl) ?_
  refine lv_aload_n C.1 C.2.1 qd_L_97 rfl (lv_at hl 0 rfl) ?_
  refine lv_iload C.1 C.2.1 qd_L_98 (lv_at hl 4 rfl) ?_
  refine lv_iconst (v := 1) C.1 C.2.1 qd_L_100 (by decide) ?_
  refine lv_iadd C.1 C.2.1 qd_L_101 ?_
  obtain ⟨b1, hf⟩ := chk_s hf
  refine va_sld C.1 C.2.1 hX hbl hbA G.2.2.2.1 (inb_in b1) qd_L_102 ?_
  refine lv_aload_n C.1 C.2.1 qd_L_103 rfl (lv_at hl 0 rfl) ?_
  refine lv_iload C.1 C.2.1 qd_L_104 (lv_at hl 4 rfl) ?_
  refine lv_iconst (v := 2) C.1 C.2.1 qd_L_106 (by decide) ?_
  refine lv_iadd C.1 C.2.1 qd_L_107 ?_
  obtain ⟨b2, hf⟩ := chk_s hf
  refine va_sld C.1 C.2.1 hX hbl hbA G.2.2.2.1 (inb_in b2) qd_L_108 ?_
  refine lv_i2l (v := (xs (x4 + 2).toNatClampNeg).toInt64) C.1 C.2.1 qd_L_109 rfl ?_
  refine lv_bipush (v := 32) C.1 C.2.1 qd_L_110 (by decide) ?_
  refine lv_lshl (v := ((xs (x4 + 2).toNatClampNeg).toInt64) <<< ((32 : Int32).toInt64 &&& 63)) C.1 C.2.1 qd_L_112 rfl ?_
  refine lv_aload_n C.1 C.2.1 qd_L_113 rfl (lv_at hl 0 rfl) ?_
  refine lv_iload C.1 C.2.1 qd_L_114 (lv_at hl 4 rfl) ?_
  refine lv_iconst (v := 3) C.1 C.2.1 qd_L_116 (by decide) ?_
  refine lv_iadd C.1 C.2.1 qd_L_117 ?_
  obtain ⟨b3, hf⟩ := chk_s hf
  refine va_sld C.1 C.2.1 hX hbl hbA G.2.2.2.1 (inb_in b3) qd_L_118 ?_
  refine lv_i2l (v := (xs (x4 + 3).toNatClampNeg).toInt64) C.1 C.2.1 qd_L_119 rfl ?_
  refine lv_ldc2 (own := "QuadModeLaw") (v := 4294967295) C.1 C.2.1 C.2.2.2.1 (C.2.2.2.2 _ qf_1099) qd_L_120 ?_
  refine lv_land C.1 C.2.1 qd_L_123 ?_
  refine lv_lor C.1 C.2.1 qd_L_124 ?_
  obtain ⟨q4, c4, hf⟩ := bnd_s hf
  refine q_lxv (w := w) (n := 2) (As := [.int (xs (x4 + 1).toNatClampNeg), .long ((((xs (x4 + 2).toNatClampNeg).toInt64) <<< ((32 : Int32).toInt64 &&& 63)) ||| (((xs (x4 + 3).toNatClampNeg).toInt64) &&& 4294967295))]) (rest := []) C hN G hl.1 (kX_fill (l := l) c4) ⟨qf_265, qf_266, qf_267, qf_63, qf_268⟩ qm_X_fill_d ⟨by decide, by decide⟩ hcr0 rfl rfl rfl (Nat.le_of_ble_eq_true rfl) qd_L_125 (fun H locs G => ?_)
  refine lv_aload_n C.1 C.2.1 qd_L_128 rfl (lv_at hl 2 rfl) ?_
  refine lv_aload_n C.1 C.2.1 qd_L_129 rfl (lv_at hl 0 rfl) ?_
  refine lv_iload C.1 C.2.1 qd_L_130 (lv_at hl 4 rfl) ?_
  refine lv_iconst (v := 1) C.1 C.2.1 qd_L_132 (by decide) ?_
  refine lv_iadd C.1 C.2.1 qd_L_133 ?_
  obtain ⟨b5, hf⟩ := chk_s hf
  refine va_sld C.1 C.2.1 hX hbl hbA G.2.2.2.1 (inb_in b5) qd_L_134 ?_
  refine lv_aload_n C.1 C.2.1 qd_L_135 rfl (lv_at hl 0 rfl) ?_
  refine lv_iload C.1 C.2.1 qd_L_136 (lv_at hl 4 rfl) ?_
  refine lv_iconst (v := 2) C.1 C.2.1 qd_L_138 (by decide) ?_
  refine lv_iadd C.1 C.2.1 qd_L_139 ?_
  obtain ⟨b6, hf⟩ := chk_s hf
  refine va_sld C.1 C.2.1 hX hbl hbA G.2.2.2.1 (inb_in b6) qd_L_140 ?_
  refine lv_i2l (v := (xs (x4 + 2).toNatClampNeg).toInt64) C.1 C.2.1 qd_L_141 rfl ?_
  refine lv_bipush (v := 32) C.1 C.2.1 qd_L_142 (by decide) ?_
  refine lv_lshl (v := ((xs (x4 + 2).toNatClampNeg).toInt64) <<< ((32 : Int32).toInt64 &&& 63)) C.1 C.2.1 qd_L_144 rfl ?_
  refine lv_aload_n C.1 C.2.1 qd_L_145 rfl (lv_at hl 0 rfl) ?_
  refine lv_iload C.1 C.2.1 qd_L_146 (lv_at hl 4 rfl) ?_
  refine lv_iconst (v := 3) C.1 C.2.1 qd_L_148 (by decide) ?_
  refine lv_iadd C.1 C.2.1 qd_L_149 ?_
  obtain ⟨b7, hf⟩ := chk_s hf
  refine va_sld C.1 C.2.1 hX hbl hbA G.2.2.2.1 (inb_in b7) qd_L_150 ?_
  refine lv_i2l (v := (xs (x4 + 3).toNatClampNeg).toInt64) C.1 C.2.1 qd_L_151 rfl ?_
  refine lv_ldc2 (own := "QuadModeLaw") (v := 4294967295) C.1 C.2.1 C.2.2.2.1 (C.2.2.2.2 _ qf_1099) qd_L_152 ?_
  refine lv_land C.1 C.2.1 qd_L_155 ?_
  refine lv_lor C.1 C.2.1 qd_L_156 ?_
  obtain ⟨q8, c8, hf⟩ := bnd_s hf
  refine q_lmv (w := (w.1, (q4, w.2.2))) (n := 2) (As := [.int (xs (x4 + 1).toNatClampNeg), .long ((((xs (x4 + 2).toNatClampNeg).toInt64) <<< ((32 : Int32).toInt64 &&& 63)) ||| (((xs (x4 + 3).toNatClampNeg).toInt64) &&& 4294967295))]) (rest := []) C hN G hl.1 (kM_fill (l := l) c8) ⟨qf_902, qf_903, qf_904, qf_70, qf_905⟩ qm_M_fill_d ⟨by decide, by decide⟩ hcr0 rfl rfl rfl (Nat.le_of_ble_eq_true rfl) qd_L_157 (fun H locs G => ?_)
  refine lv_goto (tgt := 505) C.1 C.2.1 qd_L_160 (by decide) ?_
  exact wL_505 K0 hAs hCE hcs hK (q8, (w.1, (q4, w.2.2)).2) x4 hx4 hf _ _ _ G (lv_sub hl [0, 1, 2, 3, 4] rfl)
set_option maxHeartbeats 4000000 in
set_option maxRecDepth 100000 in
theorem wL_163 {p : Program} {l : Launch} {e : Env} {s : State} {m : MethodId} {below : List Frame} {meth : Method} {c : Code} {D : va_G} {hm h : Nat → Nat} {Km K9 : Nat → ClassId} {ho : Nat} {ko : ClassId} {A : Nat → Prop} {ad av : Nat → Nat} {b L : Nat} {xs : Nat → Int32} (K0 : qL p l s m #[Value.ref b] meth c ad av A b L xs) (hAs : ∀ q, A q → s.heap.size ≤ q) {CE SE cells slots : Nat} (hCE : CE ≤ 1061 ∧ SE ≤ 12619) (hcs : cells ≤ CE ∧ slots ≤ SE) {K : qLs → Int32 → Option Unit} {X4 : Int32} (hK : ∀ (w : qLs), K w X4 = some () → ∀ (H : Heap) (locs : List Loc) (ls : Array Slot), qG D qCl (lT Km K9 ko) A s (lW hm Km h K9 ho ko w) H locs → lv_has ls 7 [(0, .ref b), (1, .ref (h 0)), (2, .ref (hm 0)), (3, .ref ho), (4, .int X4)] → W p l e room_1 s m #[Value.ref b] below meth c H locs CE SE (lw_Z below #[Value.ref b] s) (F0 m 23 ls [])) (w : qLs) (x4 : Int32) (hx4 : x4 + 4 = X4) (hf : fL_163 K xs L w x4 = some ()) : ∀ (H : Heap) (locs : List Loc) (ls : Array Slot), qG D qCl (lT Km K9 ko) A s (lW hm Km h K9 ho ko w) H locs → lv_has ls 7 [(0, .ref b), (1, .ref (h 0)), (2, .ref (hm 0)), (3, .ref ho), (4, .int x4)] → W p l e room_1 s m #[Value.ref b] below meth c H locs cells slots (lw_Z below #[Value.ref b] s) (F0 m 163 ls []) := by
  intro H locs ls G hl
  obtain ⟨C, hr, hlocks, hl0, hN, hZ, hT9, hNc, hX, hbl, hbA, hLN⟩ := id K0
  have hcr0 : cells ≤ room_1.cells ∧ slots ≤ room_1.slots := ⟨show cells ≤ 1061 by omega, show slots ≤ 12619 by omega⟩
  unfold fL_163 at hf
  refine lv_aload_n C.1 C.2.1 qd_L_163 rfl (lv_at hl 1 rfl) ?_
  refine lv_aload_n C.1 C.2.1 qd_L_164 rfl (lv_at hl 0 rfl) ?_
  refine lv_iload C.1 C.2.1 qd_L_165 (lv_at hl 4 rfl) ?_
  refine lv_iconst (v := 1) C.1 C.2.1 qd_L_167 (by decide) ?_
  refine lv_iadd C.1 C.2.1 qd_L_168 ?_
  obtain ⟨b1, hf⟩ := chk_s hf
  refine va_sld C.1 C.2.1 hX hbl hbA G.2.2.2.1 (inb_in b1) qd_L_169 ?_
  obtain ⟨q2, c2, hf⟩ := bnd_s hf
  refine q_lxi (w := w) (n := 1) (As := [.int (xs (x4 + 1).toNatClampNeg)]) (rest := []) C hN G hl.1 (kX_look (l := l) c2) ⟨qf_273, qf_274, qf_275, qf_63, qf_276⟩ qm_X_look_d ⟨by decide, by decide⟩ hcr0 rfl rfl rfl (Nat.le_of_ble_eq_true rfl) qd_L_170 (fun H locs G => ?_)
  refine lv_pop C.1 C.2.1 qd_L_173 rfl ?_
  refine lv_aload_n C.1 C.2.1 qd_L_174 rfl (lv_at hl 2 rfl) ?_
  refine lv_aload_n C.1 C.2.1 qd_L_175 rfl (lv_at hl 0 rfl) ?_
  refine lv_iload C.1 C.2.1 qd_L_176 (lv_at hl 4 rfl) ?_
  refine lv_iconst (v := 1) C.1 C.2.1 qd_L_178 (by decide) ?_
  refine lv_iadd C.1 C.2.1 qd_L_179 ?_
  obtain ⟨b3, hf⟩ := chk_s hf
  refine va_sld C.1 C.2.1 hX hbl hbA G.2.2.2.1 (inb_in b3) qd_L_180 ?_
  obtain ⟨q4, c4, hf⟩ := bnd_s hf
  refine q_lmi (w := (w.1, (q2.2, w.2.2))) (n := 1) (As := [.int (xs (x4 + 1).toNatClampNeg)]) (rest := []) C hN G hl.1 (kM_look (l := l) c4) ⟨qf_907, qf_908, qf_909, qf_70, qf_910⟩ qm_M_look_d ⟨by decide, by decide⟩ hcr0 rfl rfl rfl (Nat.le_of_ble_eq_true rfl) qd_L_181 (fun H locs G => ?_)
  refine lv_pop C.1 C.2.1 qd_L_184 rfl ?_
  refine lv_goto (tgt := 505) C.1 C.2.1 qd_L_185 (by decide) ?_
  exact wL_505 K0 hAs hCE hcs hK (q4.2, (w.1, (q2.2, w.2.2)).2) x4 hx4 hf _ _ _ G (lv_sub hl [0, 1, 2, 3, 4] rfl)
set_option maxHeartbeats 4000000 in
set_option maxRecDepth 100000 in
theorem wL_188 {p : Program} {l : Launch} {e : Env} {s : State} {m : MethodId} {below : List Frame} {meth : Method} {c : Code} {D : va_G} {hm h : Nat → Nat} {Km K9 : Nat → ClassId} {ho : Nat} {ko : ClassId} {A : Nat → Prop} {ad av : Nat → Nat} {b L : Nat} {xs : Nat → Int32} (K0 : qL p l s m #[Value.ref b] meth c ad av A b L xs) (hAs : ∀ q, A q → s.heap.size ≤ q) {CE SE cells slots : Nat} (hCE : CE ≤ 1061 ∧ SE ≤ 12619) (hcs : cells + 1 ≤ CE ∧ slots + 6 ≤ SE) {K : qLs → Int32 → Option Unit} {X4 : Int32} (hK : ∀ (w : qLs), K w X4 = some () → ∀ (H : Heap) (locs : List Loc) (ls : Array Slot), qG D qCl (lT Km K9 ko) A s (lW hm Km h K9 ho ko w) H locs → lv_has ls 7 [(0, .ref b), (1, .ref (h 0)), (2, .ref (hm 0)), (3, .ref ho), (4, .int X4)] → W p l e room_1 s m #[Value.ref b] below meth c H locs CE SE (lw_Z below #[Value.ref b] s) (F0 m 23 ls [])) (w : qLs) (x4 : Int32) (hx4 : x4 + 4 = X4) (hf : fL_188 K xs L w x4 = some ()) : ∀ (H : Heap) (locs : List Loc) (ls : Array Slot), qG D qCl (lT Km K9 ko) A s (lW hm Km h K9 ho ko w) H locs → lv_has ls 7 [(0, .ref b), (1, .ref (h 0)), (2, .ref (hm 0)), (3, .ref ho), (4, .int x4)] → W p l e room_1 s m #[Value.ref b] below meth c H locs cells slots (lw_Z below #[Value.ref b] s) (F0 m 188 ls []) := by
  intro H locs ls G hl
  obtain ⟨C, hr, hlocks, hl0, hN, hZ, hT9, hNc, hX, hbl, hbA, hLN⟩ := id K0
  have hcr0 : cells ≤ room_1.cells ∧ slots ≤ room_1.slots := ⟨show cells ≤ 1061 by omega, show slots ≤ 12619 by omega⟩
  have hcr1 : cells + 1 ≤ room_1.cells ∧ slots + 6 ≤ room_1.slots := ⟨show cells + 1 ≤ 1061 by omega, show slots + 6 ≤ 12619 by omega⟩
  unfold fL_188 at hf
  refine lv_aload_n C.1 C.2.1 qd_L_188 rfl (lv_at hl 1 rfl) ?_
  refine lv_aload_n C.1 C.2.1 qd_L_189 rfl (lv_at hl 0 rfl) ?_
  refine lv_iload C.1 C.2.1 qd_L_190 (lv_at hl 4 rfl) ?_
  refine lv_iconst (v := 1) C.1 C.2.1 qd_L_192 (by decide) ?_
  refine lv_iadd C.1 C.2.1 qd_L_193 ?_
  obtain ⟨b1, hf⟩ := chk_s hf
  refine va_sld C.1 C.2.1 hX hbl hbA G.2.2.2.1 (inb_in b1) qd_L_194 ?_
  refine lv_aload_n C.1 C.2.1 qd_L_195 rfl (lv_at hl 0 rfl) ?_
  refine lv_iload C.1 C.2.1 qd_L_196 (lv_at hl 4 rfl) ?_
  refine lv_iconst (v := 2) C.1 C.2.1 qd_L_198 (by decide) ?_
  refine lv_iadd C.1 C.2.1 qd_L_199 ?_
  obtain ⟨b2, hf⟩ := chk_s hf
  refine va_sld C.1 C.2.1 hX hbl hbA G.2.2.2.1 (inb_in b2) qd_L_200 ?_
  obtain ⟨q3, c3, hf⟩ := bnd_s hf
  refine q_lh (w := w) (n := 3) (avs := [.ref (h 0), .int (xs (x4 + 1).toNatClampNeg), .int (xs (x4 + 2).toNatClampNeg)]) (rest := []) C hN hZ hT9 hNc G hl.1 (hL_set (l := l) hl0 (jL_set_of c3)) ⟨qf_289, qf_290, qf_62, qm_L_set_w⟩ qm_L_set_d ⟨by decide, by decide⟩ hcr1 rfl rfl (Nat.le_of_ble_eq_true rfl) qd_L_201 (fun H locs G => ?_)
  refine lv_istore (lv' := [(5, .int q3.1), (0, .ref b), (1, .ref (h 0)), (2, .ref (hm 0)), (3, .ref ho), (4, .int x4)]) C.1 C.2.1 qd_L_204 hl (by decide) rfl (fun ls hl => ?_)
  refine lv_aload_n C.1 C.2.1 qd_L_206 rfl (lv_at hl 3 rfl) ?_
  refine lv_aload_n C.1 C.2.1 qd_L_207 rfl (lv_at hl 1 rfl) ?_
  refine lv_iload C.1 C.2.1 qd_L_208 (lv_at hl 5 rfl) ?_
  refine lv_iconst (v := 1) C.1 C.2.1 qd_L_210 (by decide) ?_
  refine lv_iadd C.1 C.2.1 qd_L_211 ?_
  obtain ⟨b4, hf⟩ := chk_s hf
  refine va_sld C.1 C.2.1 hX hbl hbA G.2.2.2.1 (inb_in b4) qd_L_212 ?_
  refine lv_aload_n C.1 C.2.1 qd_L_213 rfl (lv_at hl 1 rfl) ?_
  refine lv_iload C.1 C.2.1 qd_L_214 (lv_at hl 5 rfl) ?_
  refine lv_iconst (v := 2) C.1 C.2.1 qd_L_216 (by decide) ?_
  refine lv_iadd C.1 C.2.1 qd_L_217 ?_
  obtain ⟨b5, hf⟩ := chk_s hf
  refine va_sld C.1 C.2.1 hX hbl hbA G.2.2.2.1 (inb_in b5) qd_L_218 ?_
  obtain ⟨q6, c6, hf⟩ := bnd_s hf
  refine q_lmv (w := (w.1, q3.2)) (n := 2) (As := [.int (xs (x4 + 1).toNatClampNeg), .int (xs (x4 + 2).toNatClampNeg)]) (rest := []) C hN G hl.1 (kM_set (l := l) c6) ⟨qf_915, qf_916, qf_917, qf_70, qf_918⟩ qm_M_set_d ⟨by decide, by decide⟩ hcr1 rfl rfl rfl (Nat.le_of_ble_eq_true rfl) qd_L_219 (fun H locs G => ?_)
  refine lv_goto (tgt := 505) C.1 C.2.1 qd_L_222 (by decide) ?_
  exact wL_505 K0 hAs hCE hcs hK (q6, (w.1, q3.2).2) x4 hx4 hf _ _ _ G (lv_sub hl [1, 2, 3, 4, 5] rfl)
set_option maxHeartbeats 4000000 in
set_option maxRecDepth 100000 in
theorem wL_225 {p : Program} {l : Launch} {e : Env} {s : State} {m : MethodId} {below : List Frame} {meth : Method} {c : Code} {D : va_G} {hm h : Nat → Nat} {Km K9 : Nat → ClassId} {ho : Nat} {ko : ClassId} {A : Nat → Prop} {ad av : Nat → Nat} {b L : Nat} {xs : Nat → Int32} (K0 : qL p l s m #[Value.ref b] meth c ad av A b L xs) (hAs : ∀ q, A q → s.heap.size ≤ q) {CE SE cells slots : Nat} (hCE : CE ≤ 1061 ∧ SE ≤ 12619) (hcs : cells + 1 ≤ CE ∧ slots + 6 ≤ SE) {K : qLs → Int32 → Option Unit} {X4 : Int32} (hK : ∀ (w : qLs), K w X4 = some () → ∀ (H : Heap) (locs : List Loc) (ls : Array Slot), qG D qCl (lT Km K9 ko) A s (lW hm Km h K9 ho ko w) H locs → lv_has ls 7 [(0, .ref b), (1, .ref (h 0)), (2, .ref (hm 0)), (3, .ref ho), (4, .int X4)] → W p l e room_1 s m #[Value.ref b] below meth c H locs CE SE (lw_Z below #[Value.ref b] s) (F0 m 23 ls [])) (w : qLs) (x4 : Int32) (hx4 : x4 + 4 = X4) (hf : fL_225 K xs L w x4 = some ()) : ∀ (H : Heap) (locs : List Loc) (ls : Array Slot), qG D qCl (lT Km K9 ko) A s (lW hm Km h K9 ho ko w) H locs → lv_has ls 7 [(0, .ref b), (1, .ref (h 0)), (2, .ref (hm 0)), (3, .ref ho), (4, .int x4)] → W p l e room_1 s m #[Value.ref b] below meth c H locs cells slots (lw_Z below #[Value.ref b] s) (F0 m 225 ls []) := by
  intro H locs ls G hl
  obtain ⟨C, hr, hlocks, hl0, hN, hZ, hT9, hNc, hX, hbl, hbA, hLN⟩ := id K0
  have hcr0 : cells ≤ room_1.cells ∧ slots ≤ room_1.slots := ⟨show cells ≤ 1061 by omega, show slots ≤ 12619 by omega⟩
  have hcr1 : cells + 1 ≤ room_1.cells ∧ slots + 6 ≤ room_1.slots := ⟨show cells + 1 ≤ 1061 by omega, show slots + 6 ≤ 12619 by omega⟩
  unfold fL_225 at hf
  refine lv_aload_n C.1 C.2.1 qd_L_225 rfl (lv_at hl 1 rfl) ?_
  refine lv_aload_n C.1 C.2.1 qd_L_226 rfl (lv_at hl 0 rfl) ?_
  refine lv_iload C.1 C.2.1 qd_L_227 (lv_at hl 4 rfl) ?_
  refine lv_iconst (v := 1) C.1 C.2.1 qd_L_229 (by decide) ?_
  refine lv_iadd C.1 C.2.1 qd_L_230 ?_
  obtain ⟨b1, hf⟩ := chk_s hf
  refine va_sld C.1 C.2.1 hX hbl hbA G.2.2.2.1 (inb_in b1) qd_L_231 ?_
  refine lv_aload_n C.1 C.2.1 qd_L_232 rfl (lv_at hl 3 rfl) ?_
  obtain ⟨q2, c2, hf⟩ := bnd_s hf
  refine q_lh (w := w) (n := 3) (avs := [.ref (h 0), .int (xs (x4 + 1).toNatClampNeg), .ref ho]) (rest := []) C hN hZ hT9 hNc G hl.1 (hL_register (l := l) hl0 (jL_register_of c2)) ⟨qf_372, qf_373, qf_62, qm_L_register_w⟩ qm_L_register_d ⟨by decide, by decide⟩ hcr1 rfl rfl (Nat.le_of_ble_eq_true rfl) qd_L_233 (fun H locs G => ?_)
  refine lv_istore (lv' := [(5, .int q2.1), (0, .ref b), (1, .ref (h 0)), (2, .ref (hm 0)), (3, .ref ho), (4, .int x4)]) C.1 C.2.1 qd_L_236 hl (by decide) rfl (fun ls hl => ?_)
  refine lv_aload_n C.1 C.2.1 qd_L_238 rfl (lv_at hl 3 rfl) ?_
  refine lv_aload_n C.1 C.2.1 qd_L_239 rfl (lv_at hl 1 rfl) ?_
  refine lv_iload C.1 C.2.1 qd_L_240 (lv_at hl 5 rfl) ?_
  refine lv_iconst (v := 1) C.1 C.2.1 qd_L_242 (by decide) ?_
  refine lv_iadd C.1 C.2.1 qd_L_243 ?_
  obtain ⟨b3, hf⟩ := chk_s hf
  refine va_sld C.1 C.2.1 hX hbl hbA G.2.2.2.1 (inb_in b3) qd_L_244 ?_
  obtain ⟨q4, c4, hf⟩ := bnd_s hf
  refine q_lmi (w := (w.1, q2.2)) (n := 1) (As := [.int (xs (x4 + 1).toNatClampNeg)]) (rest := []) C hN G hl.1 (kM_register (l := l) c4) ⟨qf_927, qf_928, qf_929, qf_70, qf_930⟩ qm_M_register_d ⟨by decide, by decide⟩ hcr1 rfl rfl rfl (Nat.le_of_ble_eq_true rfl) qd_L_245 (fun H locs G => ?_)
  refine lv_istore (lv' := [(6, .int q4.1), (5, .int q2.1), (0, .ref b), (1, .ref (h 0)), (2, .ref (hm 0)), (3, .ref ho), (4, .int x4)]) C.1 C.2.1 qd_L_248 hl (by decide) rfl (fun ls hl => ?_)
  refine lv_goto (tgt := 505) C.1 C.2.1 qd_L_250 (by decide) ?_
  exact wL_505 K0 hAs hCE hcs hK (q4.2, (w.1, q2.2).2) x4 hx4 hf _ _ _ G (lv_sub hl [2, 3, 4, 5, 6] rfl)
set_option maxHeartbeats 4000000 in
set_option maxRecDepth 100000 in
theorem wL_253 {p : Program} {l : Launch} {e : Env} {s : State} {m : MethodId} {below : List Frame} {meth : Method} {c : Code} {D : va_G} {hm h : Nat → Nat} {Km K9 : Nat → ClassId} {ho : Nat} {ko : ClassId} {A : Nat → Prop} {ad av : Nat → Nat} {b L : Nat} {xs : Nat → Int32} (K0 : qL p l s m #[Value.ref b] meth c ad av A b L xs) (hAs : ∀ q, A q → s.heap.size ≤ q) {CE SE cells slots : Nat} (hCE : CE ≤ 1061 ∧ SE ≤ 12619) (hcs : cells + 1 ≤ CE ∧ slots + 6 ≤ SE) {K : qLs → Int32 → Option Unit} {X4 : Int32} (hK : ∀ (w : qLs), K w X4 = some () → ∀ (H : Heap) (locs : List Loc) (ls : Array Slot), qG D qCl (lT Km K9 ko) A s (lW hm Km h K9 ho ko w) H locs → lv_has ls 7 [(0, .ref b), (1, .ref (h 0)), (2, .ref (hm 0)), (3, .ref ho), (4, .int X4)] → W p l e room_1 s m #[Value.ref b] below meth c H locs CE SE (lw_Z below #[Value.ref b] s) (F0 m 23 ls [])) (w : qLs) (x4 : Int32) (hx4 : x4 + 4 = X4) (hf : fL_253 K xs L w x4 = some ()) : ∀ (H : Heap) (locs : List Loc) (ls : Array Slot), qG D qCl (lT Km K9 ko) A s (lW hm Km h K9 ho ko w) H locs → lv_has ls 7 [(0, .ref b), (1, .ref (h 0)), (2, .ref (hm 0)), (3, .ref ho), (4, .int x4)] → W p l e room_1 s m #[Value.ref b] below meth c H locs cells slots (lw_Z below #[Value.ref b] s) (F0 m 253 ls []) := by
  intro H locs ls G hl
  obtain ⟨C, hr, hlocks, hl0, hN, hZ, hT9, hNc, hX, hbl, hbA, hLN⟩ := id K0
  have hcr0 : cells ≤ room_1.cells ∧ slots ≤ room_1.slots := ⟨show cells ≤ 1061 by omega, show slots ≤ 12619 by omega⟩
  have hcr1 : cells + 1 ≤ room_1.cells ∧ slots + 6 ≤ room_1.slots := ⟨show cells + 1 ≤ 1061 by omega, show slots + 6 ≤ 12619 by omega⟩
  unfold fL_253 at hf
  refine lv_aload_n C.1 C.2.1 qd_L_253 rfl (lv_at hl 1 rfl) ?_
  refine lv_aload_n C.1 C.2.1 qd_L_254 rfl (lv_at hl 0 rfl) ?_
  refine lv_iload C.1 C.2.1 qd_L_255 (lv_at hl 4 rfl) ?_
  refine lv_iconst (v := 1) C.1 C.2.1 qd_L_257 (by decide) ?_
  refine lv_iadd C.1 C.2.1 qd_L_258 ?_
  obtain ⟨b1, hf⟩ := chk_s hf
  refine va_sld C.1 C.2.1 hX hbl hbA G.2.2.2.1 (inb_in b1) qd_L_259 ?_
  refine lv_aload_n C.1 C.2.1 qd_L_260 rfl (lv_at hl 0 rfl) ?_
  refine lv_iload C.1 C.2.1 qd_L_261 (lv_at hl 4 rfl) ?_
  refine lv_iconst (v := 2) C.1 C.2.1 qd_L_263 (by decide) ?_
  refine lv_iadd C.1 C.2.1 qd_L_264 ?_
  obtain ⟨b2, hf⟩ := chk_s hf
  refine va_sld C.1 C.2.1 hX hbl hbA G.2.2.2.1 (inb_in b2) qd_L_265 ?_
  obtain ⟨q3, c3, hf⟩ := bnd_s hf
  refine q_lh (w := w) (n := 3) (avs := [.ref (h 0), .int (xs (x4 + 1).toNatClampNeg), .int (xs (x4 + 2).toNatClampNeg)]) (rest := []) C hN hZ hT9 hNc G hl.1 (hL_setInner (l := l) hl0 (jL_setInner_of c3)) ⟨qf_383, qf_384, qf_62, qm_L_setInner_w⟩ qm_L_setInner_d ⟨by decide, by decide⟩ hcr1 rfl rfl (Nat.le_of_ble_eq_true rfl) qd_L_266 (fun H locs G => ?_)
  refine lv_istore (lv' := [(5, .int q3.1), (0, .ref b), (1, .ref (h 0)), (2, .ref (hm 0)), (3, .ref ho), (4, .int x4)]) C.1 C.2.1 qd_L_269 hl (by decide) rfl (fun ls hl => ?_)
  refine lv_aload_n C.1 C.2.1 qd_L_271 rfl (lv_at hl 3 rfl) ?_
  refine lv_aload_n C.1 C.2.1 qd_L_272 rfl (lv_at hl 1 rfl) ?_
  refine lv_iload C.1 C.2.1 qd_L_273 (lv_at hl 5 rfl) ?_
  refine lv_iconst (v := 1) C.1 C.2.1 qd_L_275 (by decide) ?_
  refine lv_iadd C.1 C.2.1 qd_L_276 ?_
  obtain ⟨b4, hf⟩ := chk_s hf
  refine va_sld C.1 C.2.1 hX hbl hbA G.2.2.2.1 (inb_in b4) qd_L_277 ?_
  refine lv_aload_n C.1 C.2.1 qd_L_278 rfl (lv_at hl 1 rfl) ?_
  refine lv_iload C.1 C.2.1 qd_L_279 (lv_at hl 5 rfl) ?_
  refine lv_iconst (v := 2) C.1 C.2.1 qd_L_281 (by decide) ?_
  refine lv_iadd C.1 C.2.1 qd_L_282 ?_
  obtain ⟨b5, hf⟩ := chk_s hf
  refine va_sld C.1 C.2.1 hX hbl hbA G.2.2.2.1 (inb_in b5) qd_L_283 ?_
  obtain ⟨q6, c6, hf⟩ := bnd_s hf
  refine q_lmv (w := (w.1, q3.2)) (n := 2) (As := [.int (xs (x4 + 1).toNatClampNeg), .int (xs (x4 + 2).toNatClampNeg)]) (rest := []) C hN G hl.1 (kM_setInner (l := l) c6) ⟨qf_939, qf_940, qf_941, qf_70, qf_942⟩ qm_M_setInner_d ⟨by decide, by decide⟩ hcr1 rfl rfl rfl (Nat.le_of_ble_eq_true rfl) qd_L_284 (fun H locs G => ?_)
  refine lv_goto (tgt := 505) C.1 C.2.1 qd_L_287 (by decide) ?_
  exact wL_505 K0 hAs hCE hcs hK (q6, (w.1, q3.2).2) x4 hx4 hf _ _ _ G (lv_sub hl [1, 2, 3, 4, 5] rfl)
set_option maxHeartbeats 4000000 in
set_option maxRecDepth 100000 in
theorem wL_290 {p : Program} {l : Launch} {e : Env} {s : State} {m : MethodId} {below : List Frame} {meth : Method} {c : Code} {D : va_G} {hm h : Nat → Nat} {Km K9 : Nat → ClassId} {ho : Nat} {ko : ClassId} {A : Nat → Prop} {ad av : Nat → Nat} {b L : Nat} {xs : Nat → Int32} (K0 : qL p l s m #[Value.ref b] meth c ad av A b L xs) (hAs : ∀ q, A q → s.heap.size ≤ q) {CE SE cells slots : Nat} (hCE : CE ≤ 1061 ∧ SE ≤ 12619) (hcs : cells + 1 ≤ CE ∧ slots + 6 ≤ SE) {K : qLs → Int32 → Option Unit} {X4 : Int32} (hK : ∀ (w : qLs), K w X4 = some () → ∀ (H : Heap) (locs : List Loc) (ls : Array Slot), qG D qCl (lT Km K9 ko) A s (lW hm Km h K9 ho ko w) H locs → lv_has ls 7 [(0, .ref b), (1, .ref (h 0)), (2, .ref (hm 0)), (3, .ref ho), (4, .int X4)] → W p l e room_1 s m #[Value.ref b] below meth c H locs CE SE (lw_Z below #[Value.ref b] s) (F0 m 23 ls [])) (w : qLs) (x4 : Int32) (hx4 : x4 + 4 = X4) (hf : fL_290 K xs L w x4 = some ()) : ∀ (H : Heap) (locs : List Loc) (ls : Array Slot), qG D qCl (lT Km K9 ko) A s (lW hm Km h K9 ho ko w) H locs → lv_has ls 7 [(0, .ref b), (1, .ref (h 0)), (2, .ref (hm 0)), (3, .ref ho), (4, .int x4)] → W p l e room_1 s m #[Value.ref b] below meth c H locs cells slots (lw_Z below #[Value.ref b] s) (F0 m 290 ls []) := by
  intro H locs ls G hl
  obtain ⟨C, hr, hlocks, hl0, hN, hZ, hT9, hNc, hX, hbl, hbA, hLN⟩ := id K0
  have hcr0 : cells ≤ room_1.cells ∧ slots ≤ room_1.slots := ⟨show cells ≤ 1061 by omega, show slots ≤ 12619 by omega⟩
  have hcr1 : cells + 1 ≤ room_1.cells ∧ slots + 6 ≤ room_1.slots := ⟨show cells + 1 ≤ 1061 by omega, show slots + 6 ≤ 12619 by omega⟩
  unfold fL_290 at hf
  refine lv_aload_n C.1 C.2.1 qd_L_290 rfl (lv_at hl 1 rfl) ?_
  refine lv_aload_n C.1 C.2.1 qd_L_291 rfl (lv_at hl 0 rfl) ?_
  refine lv_iload C.1 C.2.1 qd_L_292 (lv_at hl 4 rfl) ?_
  refine lv_iconst (v := 1) C.1 C.2.1 qd_L_294 (by decide) ?_
  refine lv_iadd C.1 C.2.1 qd_L_295 ?_
  obtain ⟨b1, hf⟩ := chk_s hf
  refine va_sld C.1 C.2.1 hX hbl hbA G.2.2.2.1 (inb_in b1) qd_L_296 ?_
  refine lv_aload_n C.1 C.2.1 qd_L_297 rfl (lv_at hl 3 rfl) ?_
  obtain ⟨q2, c2, hf⟩ := bnd_s hf
  refine q_lh (w := w) (n := 3) (avs := [.ref (h 0), .int (xs (x4 + 1).toNatClampNeg), .ref ho]) (rest := []) C hN hZ hT9 hNc G hl.1 (hL_inner (l := l) hl0 (jL_inner_of c2)) ⟨qf_400, qf_401, qf_62, qm_L_inner_w⟩ qm_L_inner_d ⟨by decide, by decide⟩ hcr1 rfl rfl (Nat.le_of_ble_eq_true rfl) qd_L_298 (fun H locs G => ?_)
  refine lv_istore (lv' := [(5, .int q2.1), (0, .ref b), (1, .ref (h 0)), (2, .ref (hm 0)), (3, .ref ho), (4, .int x4)]) C.1 C.2.1 qd_L_301 hl (by decide) rfl (fun ls hl => ?_)
  refine lv_aload_n C.1 C.2.1 qd_L_303 rfl (lv_at hl 3 rfl) ?_
  refine lv_aload_n C.1 C.2.1 qd_L_304 rfl (lv_at hl 1 rfl) ?_
  refine lv_iload C.1 C.2.1 qd_L_305 (lv_at hl 5 rfl) ?_
  refine lv_iconst (v := 1) C.1 C.2.1 qd_L_307 (by decide) ?_
  refine lv_iadd C.1 C.2.1 qd_L_308 ?_
  obtain ⟨b3, hf⟩ := chk_s hf
  refine va_sld C.1 C.2.1 hX hbl hbA G.2.2.2.1 (inb_in b3) qd_L_309 ?_
  obtain ⟨q4, c4, hf⟩ := bnd_s hf
  refine q_lmi (w := (w.1, q2.2)) (n := 1) (As := [.int (xs (x4 + 1).toNatClampNeg)]) (rest := []) C hN G hl.1 (kM_inner (l := l) c4) ⟨qf_946, qf_947, qf_948, qf_70, qf_949⟩ qm_M_inner_d ⟨by decide, by decide⟩ hcr1 rfl rfl rfl (Nat.le_of_ble_eq_true rfl) qd_L_310 (fun H locs G => ?_)
  refine lv_istore (lv' := [(6, .int q4.1), (5, .int q2.1), (0, .ref b), (1, .ref (h 0)), (2, .ref (hm 0)), (3, .ref ho), (4, .int x4)]) C.1 C.2.1 qd_L_313 hl (by decide) rfl (fun ls hl => ?_)
  refine lv_goto (tgt := 505) C.1 C.2.1 qd_L_315 (by decide) ?_
  exact wL_505 K0 hAs hCE hcs hK (q4.2, (w.1, q2.2).2) x4 hx4 hf _ _ _ G (lv_sub hl [2, 3, 4, 5, 6] rfl)
set_option maxHeartbeats 4000000 in
set_option maxRecDepth 100000 in
theorem wL_318 {p : Program} {l : Launch} {e : Env} {s : State} {m : MethodId} {below : List Frame} {meth : Method} {c : Code} {D : va_G} {hm h : Nat → Nat} {Km K9 : Nat → ClassId} {ho : Nat} {ko : ClassId} {A : Nat → Prop} {ad av : Nat → Nat} {b L : Nat} {xs : Nat → Int32} (K0 : qL p l s m #[Value.ref b] meth c ad av A b L xs) (hAs : ∀ q, A q → s.heap.size ≤ q) {CE SE cells slots : Nat} (hCE : CE ≤ 1061 ∧ SE ≤ 12619) (hcs : cells + 1 ≤ CE ∧ slots + 6 ≤ SE) {K : qLs → Int32 → Option Unit} {X4 : Int32} (hK : ∀ (w : qLs), K w X4 = some () → ∀ (H : Heap) (locs : List Loc) (ls : Array Slot), qG D qCl (lT Km K9 ko) A s (lW hm Km h K9 ho ko w) H locs → lv_has ls 7 [(0, .ref b), (1, .ref (h 0)), (2, .ref (hm 0)), (3, .ref ho), (4, .int X4)] → W p l e room_1 s m #[Value.ref b] below meth c H locs CE SE (lw_Z below #[Value.ref b] s) (F0 m 23 ls [])) (w : qLs) (x4 : Int32) (hx4 : x4 + 4 = X4) (hf : fL_318 K xs L w x4 = some ()) : ∀ (H : Heap) (locs : List Loc) (ls : Array Slot), qG D qCl (lT Km K9 ko) A s (lW hm Km h K9 ho ko w) H locs → lv_has ls 7 [(0, .ref b), (1, .ref (h 0)), (2, .ref (hm 0)), (3, .ref ho), (4, .int x4)] → W p l e room_1 s m #[Value.ref b] below meth c H locs cells slots (lw_Z below #[Value.ref b] s) (F0 m 318 ls []) := by
  intro H locs ls G hl
  obtain ⟨C, hr, hlocks, hl0, hN, hZ, hT9, hNc, hX, hbl, hbA, hLN⟩ := id K0
  have hcr0 : cells ≤ room_1.cells ∧ slots ≤ room_1.slots := ⟨show cells ≤ 1061 by omega, show slots ≤ 12619 by omega⟩
  have hcr1 : cells + 1 ≤ room_1.cells ∧ slots + 6 ≤ room_1.slots := ⟨show cells + 1 ≤ 1061 by omega, show slots + 6 ≤ 12619 by omega⟩
  unfold fL_318 at hf
  refine lv_aload_n C.1 C.2.1 qd_L_318 rfl (lv_at hl 1 rfl) ?_
  refine lv_aload_n C.1 C.2.1 qd_L_319 rfl (lv_at hl 0 rfl) ?_
  refine lv_iload C.1 C.2.1 qd_L_320 (lv_at hl 4 rfl) ?_
  refine lv_iconst (v := 1) C.1 C.2.1 qd_L_322 (by decide) ?_
  refine lv_iadd C.1 C.2.1 qd_L_323 ?_
  obtain ⟨b1, hf⟩ := chk_s hf
  refine va_sld C.1 C.2.1 hX hbl hbA G.2.2.2.1 (inb_in b1) qd_L_324 ?_
  obtain ⟨q2, c2, hf⟩ := bnd_s hf
  refine q_lh (w := w) (n := 2) (avs := [.ref (h 0), .int (xs (x4 + 1).toNatClampNeg)]) (rest := []) C hN hZ hT9 hNc G hl.1 (hL_begin (l := l) hl0 (jL_begin_of c2)) ⟨qf_411, qf_412, qf_62, qm_L_begin_w⟩ qm_L_begin_d ⟨by decide, by decide⟩ hcr1 rfl rfl (Nat.le_of_ble_eq_true rfl) qd_L_325 (fun H locs G => ?_)
  refine lv_istore (lv' := [(5, .int q2.1), (0, .ref b), (1, .ref (h 0)), (2, .ref (hm 0)), (3, .ref ho), (4, .int x4)]) C.1 C.2.1 qd_L_328 hl (by decide) rfl (fun ls hl => ?_)
  refine lv_aload_n C.1 C.2.1 qd_L_330 rfl (lv_at hl 3 rfl) ?_
  refine lv_aload_n C.1 C.2.1 qd_L_331 rfl (lv_at hl 1 rfl) ?_
  refine lv_iload C.1 C.2.1 qd_L_332 (lv_at hl 5 rfl) ?_
  refine lv_iconst (v := 1) C.1 C.2.1 qd_L_334 (by decide) ?_
  refine lv_iadd C.1 C.2.1 qd_L_335 ?_
  obtain ⟨b3, hf⟩ := chk_s hf
  refine va_sld C.1 C.2.1 hX hbl hbA G.2.2.2.1 (inb_in b3) qd_L_336 ?_
  obtain ⟨q4, c4, hf⟩ := bnd_s hf
  refine q_lmv (w := (w.1, q2.2)) (n := 1) (As := [.int (xs (x4 + 1).toNatClampNeg)]) (rest := []) C hN G hl.1 (kM_begin (l := l) c4) ⟨qf_950, qf_951, qf_952, qf_70, qf_953⟩ qm_M_begin_d ⟨by decide, by decide⟩ hcr1 rfl rfl rfl (Nat.le_of_ble_eq_true rfl) qd_L_337 (fun H locs G => ?_)
  refine lv_goto (tgt := 505) C.1 C.2.1 qd_L_340 (by decide) ?_
  exact wL_505 K0 hAs hCE hcs hK (q4, (w.1, q2.2).2) x4 hx4 hf _ _ _ G (lv_sub hl [1, 2, 3, 4, 5] rfl)
set_option maxHeartbeats 4000000 in
set_option maxRecDepth 100000 in
theorem wL_343 {p : Program} {l : Launch} {e : Env} {s : State} {m : MethodId} {below : List Frame} {meth : Method} {c : Code} {D : va_G} {hm h : Nat → Nat} {Km K9 : Nat → ClassId} {ho : Nat} {ko : ClassId} {A : Nat → Prop} {ad av : Nat → Nat} {b L : Nat} {xs : Nat → Int32} (K0 : qL p l s m #[Value.ref b] meth c ad av A b L xs) (hAs : ∀ q, A q → s.heap.size ≤ q) {CE SE cells slots : Nat} (hCE : CE ≤ 1061 ∧ SE ≤ 12619) (hcs : cells ≤ CE ∧ slots ≤ SE) {K : qLs → Int32 → Option Unit} {X4 : Int32} (hK : ∀ (w : qLs), K w X4 = some () → ∀ (H : Heap) (locs : List Loc) (ls : Array Slot), qG D qCl (lT Km K9 ko) A s (lW hm Km h K9 ho ko w) H locs → lv_has ls 7 [(0, .ref b), (1, .ref (h 0)), (2, .ref (hm 0)), (3, .ref ho), (4, .int X4)] → W p l e room_1 s m #[Value.ref b] below meth c H locs CE SE (lw_Z below #[Value.ref b] s) (F0 m 23 ls [])) (w : qLs) (x4 : Int32) (hx4 : x4 + 4 = X4) (hf : fL_343 K xs L w x4 = some ()) : ∀ (H : Heap) (locs : List Loc) (ls : Array Slot), qG D qCl (lT Km K9 ko) A s (lW hm Km h K9 ho ko w) H locs → lv_has ls 7 [(0, .ref b), (1, .ref (h 0)), (2, .ref (hm 0)), (3, .ref ho), (4, .int x4)] → W p l e room_1 s m #[Value.ref b] below meth c H locs cells slots (lw_Z below #[Value.ref b] s) (F0 m 343 ls []) := by
  intro H locs ls G hl
  obtain ⟨C, hr, hlocks, hl0, hN, hZ, hT9, hNc, hX, hbl, hbA, hLN⟩ := id K0
  have hcr0 : cells ≤ room_1.cells ∧ slots ≤ room_1.slots := ⟨show cells ≤ 1061 by omega, show slots ≤ 12619 by omega⟩
  unfold fL_343 at hf
  refine lv_aload_n C.1 C.2.1 qd_L_343 rfl (lv_at hl 1 rfl) ?_
  obtain ⟨q1, c1, hf⟩ := bnd_s hf
  refine q_lxi (w := w) (n := 0) (As := []) (rest := []) C hN G hl.1 (kX_status (l := l) c1) ⟨qf_281, qf_282, qf_283, qf_63, qf_284⟩ qm_X_status_d ⟨by decide, by decide⟩ hcr0 rfl rfl rfl (Nat.le_of_ble_eq_true rfl) qd_L_344 (fun H locs G => ?_)
  refine lv_pop C.1 C.2.1 qd_L_347 rfl ?_
  refine lv_aload_n C.1 C.2.1 qd_L_348 rfl (lv_at hl 2 rfl) ?_
  obtain ⟨q2, c2, hf⟩ := bnd_s hf
  refine q_lmi (w := (w.1, (q1.2, w.2.2))) (n := 0) (As := []) (rest := []) C hN G hl.1 (kM_status (l := l) c2) ⟨qf_955, qf_956, qf_957, qf_70, qf_958⟩ qm_M_status_d ⟨by decide, by decide⟩ hcr0 rfl rfl rfl (Nat.le_of_ble_eq_true rfl) qd_L_349 (fun H locs G => ?_)
  refine lv_pop C.1 C.2.1 qd_L_352 rfl ?_
  refine lv_goto (tgt := 505) C.1 C.2.1 qd_L_353 (by decide) ?_
  exact wL_505 K0 hAs hCE hcs hK (q2.2, (w.1, (q1.2, w.2.2)).2) x4 hx4 hf _ _ _ G (lv_sub hl [0, 1, 2, 3, 4] rfl)
set_option maxHeartbeats 4000000 in
set_option maxRecDepth 100000 in
theorem wL_356 {p : Program} {l : Launch} {e : Env} {s : State} {m : MethodId} {below : List Frame} {meth : Method} {c : Code} {D : va_G} {hm h : Nat → Nat} {Km K9 : Nat → ClassId} {ho : Nat} {ko : ClassId} {A : Nat → Prop} {ad av : Nat → Nat} {b L : Nat} {xs : Nat → Int32} (K0 : qL p l s m #[Value.ref b] meth c ad av A b L xs) (hAs : ∀ q, A q → s.heap.size ≤ q) {CE SE cells slots : Nat} (hCE : CE ≤ 1061 ∧ SE ≤ 12619) (hcs : cells + 1 ≤ CE ∧ slots + 6 ≤ SE) {K : qLs → Int32 → Option Unit} {X4 : Int32} (hK : ∀ (w : qLs), K w X4 = some () → ∀ (H : Heap) (locs : List Loc) (ls : Array Slot), qG D qCl (lT Km K9 ko) A s (lW hm Km h K9 ho ko w) H locs → lv_has ls 7 [(0, .ref b), (1, .ref (h 0)), (2, .ref (hm 0)), (3, .ref ho), (4, .int X4)] → W p l e room_1 s m #[Value.ref b] below meth c H locs CE SE (lw_Z below #[Value.ref b] s) (F0 m 23 ls [])) (w : qLs) (x4 : Int32) (hx4 : x4 + 4 = X4) (hf : fL_356 K xs L w x4 = some ()) : ∀ (H : Heap) (locs : List Loc) (ls : Array Slot), qG D qCl (lT Km K9 ko) A s (lW hm Km h K9 ho ko w) H locs → lv_has ls 7 [(0, .ref b), (1, .ref (h 0)), (2, .ref (hm 0)), (3, .ref ho), (4, .int x4)] → W p l e room_1 s m #[Value.ref b] below meth c H locs cells slots (lw_Z below #[Value.ref b] s) (F0 m 356 ls []) := by
  intro H locs ls G hl
  obtain ⟨C, hr, hlocks, hl0, hN, hZ, hT9, hNc, hX, hbl, hbA, hLN⟩ := id K0
  have hcr0 : cells ≤ room_1.cells ∧ slots ≤ room_1.slots := ⟨show cells ≤ 1061 by omega, show slots ≤ 12619 by omega⟩
  have hcr1 : cells + 1 ≤ room_1.cells ∧ slots + 6 ≤ room_1.slots := ⟨show cells + 1 ≤ 1061 by omega, show slots + 6 ≤ 12619 by omega⟩
  unfold fL_356 at hf
  refine lv_aload_n C.1 C.2.1 qd_L_356 rfl (lv_at hl 1 rfl) ?_
  refine lv_aload_n C.1 C.2.1 qd_L_357 rfl (lv_at hl 0 rfl) ?_
  refine lv_iload C.1 C.2.1 qd_L_358 (lv_at hl 4 rfl) ?_
  refine lv_iconst (v := 1) C.1 C.2.1 qd_L_360 (by decide) ?_
  refine lv_iadd C.1 C.2.1 qd_L_361 ?_
  obtain ⟨b1, hf⟩ := chk_s hf
  refine va_sld C.1 C.2.1 hX hbl hbA G.2.2.2.1 (inb_in b1) qd_L_362 ?_
  refine lv_aload_n C.1 C.2.1 qd_L_363 rfl (lv_at hl 3 rfl) ?_
  obtain ⟨q2, c2, hf⟩ := bnd_s hf
  refine q_lh (w := w) (n := 3) (avs := [.ref (h 0), .int (xs (x4 + 1).toNatClampNeg), .ref ho]) (rest := []) C hN hZ hT9 hNc G hl.1 (hL_run (l := l) hl0 (jL_run_of c2)) ⟨qf_436, qf_437, qf_62, qm_L_run_w⟩ qm_L_run_d ⟨by decide, by decide⟩ hcr1 rfl rfl (Nat.le_of_ble_eq_true rfl) qd_L_364 (fun H locs G => ?_)
  refine lv_istore (lv' := [(5, .int q2.1), (0, .ref b), (1, .ref (h 0)), (2, .ref (hm 0)), (3, .ref ho), (4, .int x4)]) C.1 C.2.1 qd_L_367 hl (by decide) rfl (fun ls hl => ?_)
  refine lv_aload_n C.1 C.2.1 qd_L_369 rfl (lv_at hl 3 rfl) ?_
  refine lv_aload_n C.1 C.2.1 qd_L_370 rfl (lv_at hl 1 rfl) ?_
  refine lv_iload C.1 C.2.1 qd_L_371 (lv_at hl 5 rfl) ?_
  refine lv_iconst (v := 1) C.1 C.2.1 qd_L_373 (by decide) ?_
  refine lv_iadd C.1 C.2.1 qd_L_374 ?_
  obtain ⟨b3, hf⟩ := chk_s hf
  refine va_sld C.1 C.2.1 hX hbl hbA G.2.2.2.1 (inb_in b3) qd_L_375 ?_
  obtain ⟨q4, c4, hf⟩ := bnd_s hf
  refine q_lmi (w := (w.1, q2.2)) (n := 1) (As := [.int (xs (x4 + 1).toNatClampNeg)]) (rest := []) C hN G hl.1 (kM_run (l := l) c4) ⟨qf_959, qf_960, qf_961, qf_70, qf_962⟩ qm_M_run_d ⟨by decide, by decide⟩ hcr1 rfl rfl rfl (Nat.le_of_ble_eq_true rfl) qd_L_376 (fun H locs G => ?_)
  refine lv_istore (lv' := [(6, .int q4.1), (5, .int q2.1), (0, .ref b), (1, .ref (h 0)), (2, .ref (hm 0)), (3, .ref ho), (4, .int x4)]) C.1 C.2.1 qd_L_379 hl (by decide) rfl (fun ls hl => ?_)
  refine lv_goto (tgt := 505) C.1 C.2.1 qd_L_381 (by decide) ?_
  exact wL_505 K0 hAs hCE hcs hK (q4.2, (w.1, q2.2).2) x4 hx4 hf _ _ _ G (lv_sub hl [2, 3, 4, 5, 6] rfl)
set_option maxHeartbeats 4000000 in
set_option maxRecDepth 100000 in
theorem wL_477 {p : Program} {l : Launch} {e : Env} {s : State} {m : MethodId} {below : List Frame} {meth : Method} {c : Code} {D : va_G} {hm h : Nat → Nat} {Km K9 : Nat → ClassId} {ho : Nat} {ko : ClassId} {A : Nat → Prop} {ad av : Nat → Nat} {b L : Nat} {xs : Nat → Int32} (K0 : qL p l s m #[Value.ref b] meth c ad av A b L xs) (hAs : ∀ q, A q → s.heap.size ≤ q) {CE SE cells slots : Nat} (hCE : CE ≤ 1061 ∧ SE ≤ 12619) (hcs : cells ≤ CE ∧ slots ≤ SE) {K : qLs → Int32 → Option Unit} {X4 : Int32} (hK : ∀ (w : qLs), K w X4 = some () → ∀ (H : Heap) (locs : List Loc) (ls : Array Slot), qG D qCl (lT Km K9 ko) A s (lW hm Km h K9 ho ko w) H locs → lv_has ls 7 [(0, .ref b), (1, .ref (h 0)), (2, .ref (hm 0)), (3, .ref ho), (4, .int X4)] → W p l e room_1 s m #[Value.ref b] below meth c H locs CE SE (lw_Z below #[Value.ref b] s) (F0 m 23 ls [])) (w : qLs) (x4 : Int32) (hx4 : x4 + 4 = X4) (hf : fL_477 K xs L w x4 = some ()) : ∀ (H : Heap) (locs : List Loc) (ls : Array Slot), qG D qCl (lT Km K9 ko) A s (lW hm Km h K9 ho ko w) H locs → lv_has ls 7 [(0, .ref b), (1, .ref (h 0)), (2, .ref (hm 0)), (3, .ref ho), (4, .int x4)] → W p l e room_1 s m #[Value.ref b] below meth c H locs cells slots (lw_Z below #[Value.ref b] s) (F0 m 477 ls []) := by
  intro H locs ls G hl
  obtain ⟨C, hr, hlocks, hl0, hN, hZ, hT9, hNc, hX, hbl, hbA, hLN⟩ := id K0
  have hcr0 : cells ≤ room_1.cells ∧ slots ≤ room_1.slots := ⟨show cells ≤ 1061 by omega, show slots ≤ 12619 by omega⟩
  unfold fL_477 at hf
  refine lv_goto (tgt := 505) C.1 C.2.1 qd_L_477 (by decide) ?_
  exact wL_505 K0 hAs hCE hcs hK w x4 hx4 hf _ _ _ G (lv_sub hl [0, 1, 2, 3, 4] rfl)
set_option maxHeartbeats 4000000 in
set_option maxRecDepth 100000 in
theorem wL_438 {p : Program} {l : Launch} {e : Env} {s : State} {m : MethodId} {below : List Frame} {meth : Method} {c : Code} {D : va_G} {hm h : Nat → Nat} {Km K9 : Nat → ClassId} {ho : Nat} {ko : ClassId} {A : Nat → Prop} {ad av : Nat → Nat} {b L : Nat} {xs : Nat → Int32} (K0 : qL p l s m #[Value.ref b] meth c ad av A b L xs) (hAs : ∀ q, A q → s.heap.size ≤ q) {CE SE cells slots : Nat} (hCE : CE ≤ 1061 ∧ SE ≤ 12619) (hcs : cells ≤ CE ∧ slots ≤ SE) {K : qLs → Int32 → Option Unit} {X4 : Int32} (hK : ∀ (w : qLs), K w X4 = some () → ∀ (H : Heap) (locs : List Loc) (ls : Array Slot), qG D qCl (lT Km K9 ko) A s (lW hm Km h K9 ho ko w) H locs → lv_has ls 7 [(0, .ref b), (1, .ref (h 0)), (2, .ref (hm 0)), (3, .ref ho), (4, .int X4)] → W p l e room_1 s m #[Value.ref b] below meth c H locs CE SE (lw_Z below #[Value.ref b] s) (F0 m 23 ls [])) (w : qLs) (x4 : Int32) (x5 : Int32) (y1 : Int32) (y2 : Int32) (hx4 : x4 + 4 = X4) (hf : fL_438 K xs L w x4 x5 y1 y2 = some ()) : ∀ (H : Heap) (locs : List Loc) (ls : Array Slot), qG D qCl (lT Km K9 ko) A s (lW hm Km h K9 ho ko w) H locs → lv_has ls 7 [(0, .ref b), (1, .ref (h 0)), (2, .ref (hm 0)), (3, .ref ho), (4, .int x4), (5, .int x5)] → W p l e room_1 s m #[Value.ref b] below meth c H locs cells slots (lw_Z below #[Value.ref b] s) (F0 m 438 ls [.int y2, .int y1, .ref (hm 0)]) := by
  intro H locs ls G hl
  obtain ⟨C, hr, hlocks, hl0, hN, hZ, hT9, hNc, hX, hbl, hbA, hLN⟩ := id K0
  have hcr0 : cells ≤ room_1.cells ∧ slots ≤ room_1.slots := ⟨show cells ≤ 1061 by omega, show slots ≤ 12619 by omega⟩
  unfold fL_438 at hf
  refine lv_aload_n C.1 C.2.1 qd_L_438 rfl (lv_at hl 0 rfl) ?_
  refine lv_iload C.1 C.2.1 qd_L_439 (lv_at hl 4 rfl) ?_
  refine lv_iconst (v := 3) C.1 C.2.1 qd_L_441 (by decide) ?_
  refine lv_iadd C.1 C.2.1 qd_L_442 ?_
  obtain ⟨b1, hf⟩ := chk_s hf
  refine va_sld C.1 C.2.1 hX hbl hbA G.2.2.2.1 (inb_in b1) qd_L_443 ?_
  obtain ⟨q2, c2, hf⟩ := bnd_s hf
  refine q_lmi (w := w) (n := 3) (As := [.int y1, .int y2, .int (xs (x4 + 3).toNatClampNeg)]) (rest := []) C hN G hl.1 (kM_reach (l := l) c2) ⟨qf_1091, qf_1092, qf_1093, qf_70, qf_1094⟩ qm_M_reach_d ⟨by decide, by decide⟩ hcr0 rfl rfl rfl (Nat.le_of_ble_eq_true rfl) qd_L_444 (fun H locs G => ?_)
  refine lv_istore (lv' := [(6, .int q2.1), (0, .ref b), (1, .ref (h 0)), (2, .ref (hm 0)), (3, .ref ho), (4, .int x4), (5, .int x5)]) C.1 C.2.1 qd_L_447 hl (by decide) rfl (fun ls hl => ?_)
  refine lv_aload_n C.1 C.2.1 qd_L_449 rfl (lv_at hl 3 rfl) ?_
  obtain ⟨q3, c3, hf⟩ := bnd_s hf
  refine q_lmi (w := (q2.2, w.2)) (n := 0) (As := []) (rest := []) C hN G hl.1 (kM_thrown (l := l) c3) ⟨qf_898, qf_899, qf_900, qf_70, qf_901⟩ qm_M_thrown_d ⟨by decide, by decide⟩ hcr0 rfl rfl rfl (Nat.le_of_ble_eq_true rfl) qd_L_450 (fun H locs G => ?_)
  refine lv_iload C.1 C.2.1 qd_L_453 (lv_at hl 6 rfl) ?_
  refine lv_icmp_eq (tgt := 460) C.1 C.2.1 qd_L_455 (by decide) (fun b4 => ?_) (fun b4 => ?_)
  · have hf := if_t b4 hf
    refine lv_iload C.1 C.2.1 qd_L_460 (lv_at hl 6 rfl) ?_
    refine lv_if_ne (tgt := 477) C.1 C.2.1 qd_L_462 (by decide) (fun b5 => ?_) (fun b5 => ?_)
    · have hf := if_t b5 hf
      exact wL_477 K0 hAs hCE hcs hK (q3.2, (q2.2, w.2).2) x4 hx4 hf _ _ _ G (lv_sub hl [1, 2, 3, 4, 5] rfl)
    · have hf := if_f (not_not_intro b5) hf
      refine lv_aload_n C.1 C.2.1 qd_L_465 rfl (lv_at hl 4 rfl) ?_
      refine lv_iconst (v := 0) C.1 C.2.1 qd_L_466 (by decide) ?_
      refine va_lald C.1 C.2.1 G.1 G.2.1 11 10 rfl rfl (vp_in_iff.mpr (by decide)) qd_L_467 ?_
      refine lv_iload C.1 C.2.1 qd_L_468 (lv_at hl 0 rfl) ?_
      refine lv_i2l (v := q2.1.toInt64) C.1 C.2.1 qd_L_470 rfl ?_
      refine W.lcmp C.1 C.2.1 qd_L_471 ?_
      refine lv_if_eq (tgt := 477) C.1 C.2.1 qd_L_472 (by decide) (fun b6 => ?_) (fun b6 => ?_)
      · have hf := if_t b6 hf
        exact wL_477 K0 hAs hCE hcs hK (q3.2, (q2.2, w.2).2) x4 hx4 hf _ _ _ G (lv_sub hl [1, 2, 3, 4, 5] rfl)
      · have hf := if_f b6 hf
        cases hf
  · have hf := if_f b4 hf
    cases hf
set_option maxHeartbeats 4000000 in
set_option maxRecDepth 100000 in
theorem wL_405 {p : Program} {l : Launch} {e : Env} {s : State} {m : MethodId} {below : List Frame} {meth : Method} {c : Code} {D : va_G} {hm h : Nat → Nat} {Km K9 : Nat → ClassId} {ho : Nat} {ko : ClassId} {A : Nat → Prop} {ad av : Nat → Nat} {b L : Nat} {xs : Nat → Int32} (K0 : qL p l s m #[Value.ref b] meth c ad av A b L xs) (hAs : ∀ q, A q → s.heap.size ≤ q) {CE SE cells slots : Nat} (hCE : CE ≤ 1061 ∧ SE ≤ 12619) (hcs : cells + 1 ≤ CE ∧ slots + 6 ≤ SE) {K : qLs → Int32 → Option Unit} {X4 : Int32} (hK : ∀ (w : qLs), K w X4 = some () → ∀ (H : Heap) (locs : List Loc) (ls : Array Slot), qG D qCl (lT Km K9 ko) A s (lW hm Km h K9 ho ko w) H locs → lv_has ls 7 [(0, .ref b), (1, .ref (h 0)), (2, .ref (hm 0)), (3, .ref ho), (4, .int X4)] → W p l e room_1 s m #[Value.ref b] below meth c H locs CE SE (lw_Z below #[Value.ref b] s) (F0 m 23 ls [])) (w : qLs) (x4 : Int32) (y1 : Int32) (y2 : Int32) (hx4 : x4 + 4 = X4) (hf : fL_405 K xs L w x4 y1 y2 = some ()) : ∀ (H : Heap) (locs : List Loc) (ls : Array Slot), qG D qCl (lT Km K9 ko) A s (lW hm Km h K9 ho ko w) H locs → lv_has ls 7 [(0, .ref b), (1, .ref (h 0)), (2, .ref (hm 0)), (3, .ref ho), (4, .int x4)] → W p l e room_1 s m #[Value.ref b] below meth c H locs cells slots (lw_Z below #[Value.ref b] s) (F0 m 405 ls [.int y2, .int y1, .ref (h 0)]) := by
  intro H locs ls G hl
  obtain ⟨C, hr, hlocks, hl0, hN, hZ, hT9, hNc, hX, hbl, hbA, hLN⟩ := id K0
  have hcr0 : cells ≤ room_1.cells ∧ slots ≤ room_1.slots := ⟨show cells ≤ 1061 by omega, show slots ≤ 12619 by omega⟩
  have hcr1 : cells + 1 ≤ room_1.cells ∧ slots + 6 ≤ room_1.slots := ⟨show cells + 1 ≤ 1061 by omega, show slots + 6 ≤ 12619 by omega⟩
  unfold fL_405 at hf
  refine lv_aload_n C.1 C.2.1 qd_L_405 rfl (lv_at hl 0 rfl) ?_
  refine lv_iload C.1 C.2.1 qd_L_406 (lv_at hl 4 rfl) ?_
  refine lv_iconst (v := 3) C.1 C.2.1 qd_L_408 (by decide) ?_
  refine lv_iadd C.1 C.2.1 qd_L_409 ?_
  obtain ⟨b1, hf⟩ := chk_s hf
  refine va_sld C.1 C.2.1 hX hbl hbA G.2.2.2.1 (inb_in b1) qd_L_410 ?_
  refine lv_aload_n C.1 C.2.1 qd_L_411 rfl (lv_at hl 3 rfl) ?_
  obtain ⟨q2, c2, hf⟩ := bnd_s hf
  refine q_lh (w := w) (n := 5) (avs := [.ref (h 0), .int y1, .int y2, .int (xs (x4 + 3).toNatClampNeg), .ref ho]) (rest := []) C hN hZ hT9 hNc G hl.1 (hL_reach (l := l) hl0 (jL_reach_of c2)) ⟨qf_816, qf_817, qf_62, qm_L_reach_w⟩ qm_L_reach_d ⟨by decide, by decide⟩ hcr1 rfl rfl (Nat.le_of_ble_eq_true rfl) qd_L_412 (fun H locs G => ?_)
  refine lv_istore (lv' := [(5, .int q2.1), (0, .ref b), (1, .ref (h 0)), (2, .ref (hm 0)), (3, .ref ho), (4, .int x4)]) C.1 C.2.1 qd_L_415 hl (by decide) rfl (fun ls hl => ?_)
  refine lv_aload_n C.1 C.2.1 qd_L_417 rfl (lv_at hl 3 rfl) ?_
  refine lv_aload_n C.1 C.2.1 qd_L_418 rfl (lv_at hl 1 rfl) ?_
  refine lv_iload C.1 C.2.1 qd_L_419 (lv_at hl 5 rfl) ?_
  refine lv_iconst (v := 1) C.1 C.2.1 qd_L_421 (by decide) ?_
  refine lv_iadd C.1 C.2.1 qd_L_422 ?_
  obtain ⟨b3, hf⟩ := chk_s hf
  refine va_sld C.1 C.2.1 hX hbl hbA G.2.2.2.1 (inb_in b3) qd_L_423 ?_
  refine lv_aload_n C.1 C.2.1 qd_L_424 rfl (lv_at hl 1 rfl) ?_
  refine lv_iload C.1 C.2.1 qd_L_425 (lv_at hl 5 rfl) ?_
  refine lv_iconst (v := 2) C.1 C.2.1 qd_L_427 (by decide) ?_
  refine lv_iadd C.1 C.2.1 qd_L_428 ?_
  obtain ⟨b4, hf⟩ := chk_s hf
  refine va_sld C.1 C.2.1 hX hbl hbA G.2.2.2.1 (inb_in b4) qd_L_429 ?_
  refine lv_if_eq (tgt := 437) C.1 C.2.1 qd_L_430 (by decide) (fun b5 => ?_) (fun b5 => ?_)
  · have hf := if_t b5 hf
    refine lv_iconst (v := 0) C.1 C.2.1 qd_L_437 (by decide) ?_
    exact wL_438 K0 hAs hCE hcs hK (w.1, q2.2) x4 q2.1 (xs (x4 + 1).toNatClampNeg) 0 hx4 hf _ _ _ G (lv_sub hl [1, 2, 3, 4, 5, 0] rfl)
  · have hf := if_f b5 hf
    refine lv_iconst (v := 1) C.1 C.2.1 qd_L_433 (by decide) ?_
    refine lv_goto (tgt := 438) C.1 C.2.1 qd_L_434 (by decide) ?_
    exact wL_438 K0 hAs hCE hcs hK (w.1, q2.2) x4 q2.1 (xs (x4 + 1).toNatClampNeg) 1 hx4 hf _ _ _ G (lv_sub hl [1, 2, 3, 4, 5, 0] rfl)
set_option maxHeartbeats 4000000 in
set_option maxRecDepth 100000 in
theorem wL_384 {p : Program} {l : Launch} {e : Env} {s : State} {m : MethodId} {below : List Frame} {meth : Method} {c : Code} {D : va_G} {hm h : Nat → Nat} {Km K9 : Nat → ClassId} {ho : Nat} {ko : ClassId} {A : Nat → Prop} {ad av : Nat → Nat} {b L : Nat} {xs : Nat → Int32} (K0 : qL p l s m #[Value.ref b] meth c ad av A b L xs) (hAs : ∀ q, A q → s.heap.size ≤ q) {CE SE cells slots : Nat} (hCE : CE ≤ 1061 ∧ SE ≤ 12619) (hcs : cells + 1 ≤ CE ∧ slots + 6 ≤ SE) {K : qLs → Int32 → Option Unit} {X4 : Int32} (hK : ∀ (w : qLs), K w X4 = some () → ∀ (H : Heap) (locs : List Loc) (ls : Array Slot), qG D qCl (lT Km K9 ko) A s (lW hm Km h K9 ho ko w) H locs → lv_has ls 7 [(0, .ref b), (1, .ref (h 0)), (2, .ref (hm 0)), (3, .ref ho), (4, .int X4)] → W p l e room_1 s m #[Value.ref b] below meth c H locs CE SE (lw_Z below #[Value.ref b] s) (F0 m 23 ls [])) (w : qLs) (x4 : Int32) (hx4 : x4 + 4 = X4) (hf : fL_384 K xs L w x4 = some ()) : ∀ (H : Heap) (locs : List Loc) (ls : Array Slot), qG D qCl (lT Km K9 ko) A s (lW hm Km h K9 ho ko w) H locs → lv_has ls 7 [(0, .ref b), (1, .ref (h 0)), (2, .ref (hm 0)), (3, .ref ho), (4, .int x4)] → W p l e room_1 s m #[Value.ref b] below meth c H locs cells slots (lw_Z below #[Value.ref b] s) (F0 m 384 ls []) := by
  intro H locs ls G hl
  obtain ⟨C, hr, hlocks, hl0, hN, hZ, hT9, hNc, hX, hbl, hbA, hLN⟩ := id K0
  have hcr0 : cells ≤ room_1.cells ∧ slots ≤ room_1.slots := ⟨show cells ≤ 1061 by omega, show slots ≤ 12619 by omega⟩
  have hcr1 : cells + 1 ≤ room_1.cells ∧ slots + 6 ≤ room_1.slots := ⟨show cells + 1 ≤ 1061 by omega, show slots + 6 ≤ 12619 by omega⟩
  unfold fL_384 at hf
  refine lv_aload_n C.1 C.2.1 qd_L_384 rfl (lv_at hl 1 rfl) ?_
  refine lv_aload_n C.1 C.2.1 qd_L_385 rfl (lv_at hl 0 rfl) ?_
  refine lv_iload C.1 C.2.1 qd_L_386 (lv_at hl 4 rfl) ?_
  refine lv_iconst (v := 1) C.1 C.2.1 qd_L_388 (by decide) ?_
  refine lv_iadd C.1 C.2.1 qd_L_389 ?_
  obtain ⟨b1, hf⟩ := chk_s hf
  refine va_sld C.1 C.2.1 hX hbl hbA G.2.2.2.1 (inb_in b1) qd_L_390 ?_
  refine lv_aload_n C.1 C.2.1 qd_L_391 rfl (lv_at hl 0 rfl) ?_
  refine lv_iload C.1 C.2.1 qd_L_392 (lv_at hl 4 rfl) ?_
  refine lv_iconst (v := 2) C.1 C.2.1 qd_L_394 (by decide) ?_
  refine lv_iadd C.1 C.2.1 qd_L_395 ?_
  obtain ⟨b2, hf⟩ := chk_s hf
  refine va_sld C.1 C.2.1 hX hbl hbA G.2.2.2.1 (inb_in b2) qd_L_396 ?_
  refine lv_if_eq (tgt := 404) C.1 C.2.1 qd_L_397 (by decide) (fun b3 => ?_) (fun b3 => ?_)
  · have hf := if_t b3 hf
    refine lv_iconst (v := 0) C.1 C.2.1 qd_L_404 (by decide) ?_
    exact wL_405 K0 hAs hCE hcs hK w x4 (xs (x4 + 1).toNatClampNeg) 0 hx4 hf _ _ _ G (lv_sub hl [0, 1, 2, 3, 4] rfl)
  · have hf := if_f b3 hf
    refine lv_iconst (v := 1) C.1 C.2.1 qd_L_400 (by decide) ?_
    refine lv_goto (tgt := 405) C.1 C.2.1 qd_L_401 (by decide) ?_
    exact wL_405 K0 hAs hCE hcs hK w x4 (xs (x4 + 1).toNatClampNeg) 1 hx4 hf _ _ _ G (lv_sub hl [0, 1, 2, 3, 4] rfl)
set_option maxHeartbeats 4000000 in
set_option maxRecDepth 100000 in
theorem wL_480 {p : Program} {l : Launch} {e : Env} {s : State} {m : MethodId} {below : List Frame} {meth : Method} {c : Code} {D : va_G} {hm h : Nat → Nat} {Km K9 : Nat → ClassId} {ho : Nat} {ko : ClassId} {A : Nat → Prop} {ad av : Nat → Nat} {b L : Nat} {xs : Nat → Int32} (K0 : qL p l s m #[Value.ref b] meth c ad av A b L xs) (hAs : ∀ q, A q → s.heap.size ≤ q) {CE SE cells slots : Nat} (hCE : CE ≤ 1061 ∧ SE ≤ 12619) (hcs : cells ≤ CE ∧ slots ≤ SE) {K : qLs → Int32 → Option Unit} {X4 : Int32} (hK : ∀ (w : qLs), K w X4 = some () → ∀ (H : Heap) (locs : List Loc) (ls : Array Slot), qG D qCl (lT Km K9 ko) A s (lW hm Km h K9 ho ko w) H locs → lv_has ls 7 [(0, .ref b), (1, .ref (h 0)), (2, .ref (hm 0)), (3, .ref ho), (4, .int X4)] → W p l e room_1 s m #[Value.ref b] below meth c H locs CE SE (lw_Z below #[Value.ref b] s) (F0 m 23 ls [])) (w : qLs) (x4 : Int32) (hx4 : x4 + 4 = X4) (hf : fL_480 K xs L w x4 = some ()) : ∀ (H : Heap) (locs : List Loc) (ls : Array Slot), qG D qCl (lT Km K9 ko) A s (lW hm Km h K9 ho ko w) H locs → lv_has ls 7 [(0, .ref b), (1, .ref (h 0)), (2, .ref (hm 0)), (3, .ref ho), (4, .int x4)] → W p l e room_1 s m #[Value.ref b] below meth c H locs cells slots (lw_Z below #[Value.ref b] s) (F0 m 480 ls []) := by
  intro H locs ls G hl
  obtain ⟨C, hr, hlocks, hl0, hN, hZ, hT9, hNc, hX, hbl, hbA, hLN⟩ := id K0
  have hcr0 : cells ≤ room_1.cells ∧ slots ≤ room_1.slots := ⟨show cells ≤ 1061 by omega, show slots ≤ 12619 by omega⟩
  unfold fL_480 at hf
  refine lv_aload_n C.1 C.2.1 qd_L_480 rfl (lv_at hl 1 rfl) ?_
  refine lv_aload_n C.1 C.2.1 qd_L_481 rfl (lv_at hl 0 rfl) ?_
  refine lv_iload C.1 C.2.1 qd_L_482 (lv_at hl 4 rfl) ?_
  refine lv_iconst (v := 1) C.1 C.2.1 qd_L_484 (by decide) ?_
  refine lv_iadd C.1 C.2.1 qd_L_485 ?_
  obtain ⟨b1, hf⟩ := chk_s hf
  refine va_sld C.1 C.2.1 hX hbl hbA G.2.2.2.1 (inb_in b1) qd_L_486 ?_
  obtain ⟨q2, c2, hf⟩ := bnd_s hf
  refine q_lxi (w := w) (n := 1) (As := [.int (xs (x4 + 1).toNatClampNeg)]) (rest := []) C hN G hl.1 (kX_state (l := l) c2) ⟨qf_285, qf_286, qf_287, qf_63, qf_288⟩ qm_X_state_d ⟨by decide, by decide⟩ hcr0 rfl rfl rfl (Nat.le_of_ble_eq_true rfl) qd_L_487 (fun H locs G => ?_)
  refine lv_pop C.1 C.2.1 qd_L_490 rfl ?_
  refine lv_aload_n C.1 C.2.1 qd_L_491 rfl (lv_at hl 2 rfl) ?_
  refine lv_aload_n C.1 C.2.1 qd_L_492 rfl (lv_at hl 0 rfl) ?_
  refine lv_iload C.1 C.2.1 qd_L_493 (lv_at hl 4 rfl) ?_
  refine lv_iconst (v := 1) C.1 C.2.1 qd_L_495 (by decide) ?_
  refine lv_iadd C.1 C.2.1 qd_L_496 ?_
  obtain ⟨b3, hf⟩ := chk_s hf
  refine va_sld C.1 C.2.1 hX hbl hbA G.2.2.2.1 (inb_in b3) qd_L_497 ?_
  obtain ⟨q4, c4, hf⟩ := bnd_s hf
  refine q_lmi (w := (w.1, (q2.2, w.2.2))) (n := 1) (As := [.int (xs (x4 + 1).toNatClampNeg)]) (rest := []) C hN G hl.1 (kM_state (l := l) c4) ⟨qf_1095, qf_1096, qf_1097, qf_70, qf_1098⟩ qm_M_state_d ⟨by decide, by decide⟩ hcr0 rfl rfl rfl (Nat.le_of_ble_eq_true rfl) qd_L_498 (fun H locs G => ?_)
  refine lv_pop C.1 C.2.1 qd_L_501 rfl ?_
  refine lv_goto (tgt := 505) C.1 C.2.1 qd_L_502 (by decide) ?_
  exact wL_505 K0 hAs hCE hcs hK (q4.2, (w.1, (q2.2, w.2.2)).2) x4 hx4 hf _ _ _ G (lv_sub hl [0, 1, 2, 3, 4] rfl)
set_option maxHeartbeats 4000000 in
set_option maxRecDepth 100000 in
theorem wL {p : Program} {l : Launch} {e : Env} {s : State} {m : MethodId} {below : List Frame} {meth : Method} {c : Code} {D : va_G} {hm h : Nat → Nat} {Km K9 : Nat → ClassId} {ho : Nat} {ko : ClassId} {A : Nat → Prop} {ad av : Nat → Nat} {b L : Nat} {xs : Nat → Int32} (K0 : qL p l s m #[Value.ref b] meth c ad av A b L xs) (hAs : ∀ q, A q → s.heap.size ≤ q) : ∀ (n : Nat) (w : qLs) (k : Nat), 4 * k < 4096 → fL xs L n w (nI (4 * k)) = some () → ∀ (H : Heap) (locs : List Loc) (ls : Array Slot), qG D qCl (lT Km K9 ko) A s (lW hm Km h K9 ho ko w) H locs → lv_has ls 7 [(0, .ref b), (1, .ref (h 0)), (2, .ref (hm 0)), (3, .ref ho), (4, .int (nI (4 * k)))] → W p l e room_1 s m #[Value.ref b] below meth c H locs (29 + k) (4379 + 6 * k) (lw_Z below #[Value.ref b] s) (F0 m 23 ls []) := by
  intro n
  induction n with
  | zero => intro w k hk hf; cases hf
  | succ n ih =>
    intro w k hk hf H locs ls G hl
    obtain ⟨C, hr, hlocks, hl0, hN, hZ, hT9, hNc, hX, hbl, hbA, hLN⟩ := id K0
    have hLN9 : L ≤ 2048 := hLN
    have hcr0 : 29 + k ≤ room_1.cells ∧ 4379 + 6 * k ≤ room_1.slots := ⟨show 29 + k ≤ 1061 by omega, show 4379 + 6 * k ≤ 12619 by omega⟩
    rw [fL] at hf
    generalize hx9 : nI (4 * k) = x4 at hf hl
    have hCE : 29 + (k + 1) ≤ 1061 ∧ 4379 + 6 * (k + 1) ≤ 12619 := ⟨by omega, by omega⟩
    have hcs : 29 + k + 1 ≤ 29 + (k + 1) ∧ 4379 + 6 * k + 6 ≤ 4379 + 6 * (k + 1) := ⟨by omega, by omega⟩
    have hx4 : x4 + 4 = nI (4 * (k + 1)) := by rw [← hx9]; exact nI_add (4 * k) 4
    have hcs0 : 29 + k ≤ 29 + (k + 1) ∧ 4379 + 6 * k ≤ 4379 + 6 * (k + 1) := ⟨by omega, by omega⟩
    have hK9 : 4 * (k + 1) < 4096 → ∀ (w : qLs), fL xs L n w (nI (4 * (k + 1))) = some () → ∀ (H : Heap) (locs : List Loc) (ls : Array Slot), qG D qCl (lT Km K9 ko) A s (lW hm Km h K9 ho ko w) H locs → lv_has ls 7 [(0, .ref b), (1, .ref (h 0)), (2, .ref (hm 0)), (3, .ref ho), (4, .int (nI (4 * (k + 1))))] → W p l e room_1 s m #[Value.ref b] below meth c H locs (29 + (k + 1)) (4379 + 6 * (k + 1)) (lw_Z below #[Value.ref b] s) (F0 m 23 ls []) := fun hk w hf => ih w (k + 1) hk hf
    refine lv_iload C.1 C.2.1 qd_L_23 (lv_at hl 4 rfl) ?_
    refine lv_aload_n C.1 C.2.1 qd_L_25 rfl (lv_at hl 0 rfl) ?_
    refine va_slen C.1 C.2.1 hX hbl hbA G.2.2.2.1 qd_L_26 ?_
    refine lv_iconst (v := 4) C.1 C.2.1 qd_L_27 (by decide) ?_
    refine lv_isub C.1 C.2.1 qd_L_28 ?_
    refine lv_icmp_gt (tgt := 511) C.1 C.2.1 qd_L_29 (by decide) (fun b1 => ?_) (fun b1 => ?_)
    · have hf := if_t b1 hf
      refine lv_iconst (v := 1) C.1 C.2.1 qd_L_511 (by decide) ?_
      refine va_forget (fun q hq => hAs _ (G.2.2.2.1.2.2 q hq)) ?_
      refine W.widen (k := 1061) (n := 12619) hcr0.1 hcr0.2 ?_
      exact lw_ret C.1 C.2.1 hr hlocks qd_L_512
    · have hf := if_f b1 hf
      refine lv_aload_n C.1 C.2.1 qd_L_32 rfl (lv_at hl 0 rfl) ?_
      refine lv_iload C.1 C.2.1 qd_L_33 (lv_at hl 4 rfl) ?_
      obtain ⟨b2, hf⟩ := chk_s hf
      have hin9 : 4 * (k + 1) < 4096 := by
        have h7 := (vp_in_iff.mp (inb_in b2)).2
        rw [← hx9, nI_toInt (by omega)] at h7
        omega
      refine va_sld C.1 C.2.1 hX hbl hbA G.2.2.2.1 (inb_in b2) qd_L_35 ?_
      refine lv_bipush (v := 15) C.1 C.2.1 qd_L_36 (by decide) ?_
      refine lv_iand C.1 C.2.1 qd_L_38 ?_
      by_cases b3 : ((xs x4.toNatClampNeg) &&& 15).toInt < 0 ∨ 10 < ((xs x4.toNatClampNeg) &&& 15).toInt
      · have hf := if_t b3 hf
        refine lv_tableOut (tgt := 505) C.1 C.2.1 qd_L_39 b3 (by decide) ?_
        exact wL_505 K0 hAs hCE hcs0 (hK9 hin9) w x4 hx4 hf _ _ _ G (lv_sub hl [0, 1, 2, 3, 4] rfl)
      have hf := if_f b3 hf
      by_cases b3_0 : ((xs x4.toNatClampNeg) &&& 15) = 0
      · have hf := if_t b3_0 hf
        refine lv_tableIn (tgt := 96) C.1 C.2.1 qd_L_39 (by rw [b3_0]; decide) (by rw [b3_0]; decide) (by rw [b3_0]; rfl) (by decide) ?_
        exact wL_96 K0 hAs hCE hcs0 (hK9 hin9) w x4 hx4 hf _ _ _ G (lv_sub hl [0, 1, 2, 3, 4] rfl)
      have hf := if_f b3_0 hf
      by_cases b3_1 : ((xs x4.toNatClampNeg) &&& 15) = 1
      · have hf := if_t b3_1 hf
        refine lv_tableIn (tgt := 163) C.1 C.2.1 qd_L_39 (by rw [b3_1]; decide) (by rw [b3_1]; decide) (by rw [b3_1]; rfl) (by decide) ?_
        exact wL_163 K0 hAs hCE hcs0 (hK9 hin9) w x4 hx4 hf _ _ _ G (lv_sub hl [0, 1, 2, 3, 4] rfl)
      have hf := if_f b3_1 hf
      by_cases b3_2 : ((xs x4.toNatClampNeg) &&& 15) = 2
      · have hf := if_t b3_2 hf
        refine lv_tableIn (tgt := 188) C.1 C.2.1 qd_L_39 (by rw [b3_2]; decide) (by rw [b3_2]; decide) (by rw [b3_2]; rfl) (by decide) ?_
        exact wL_188 K0 hAs hCE hcs (hK9 hin9) w x4 hx4 hf _ _ _ G (lv_sub hl [0, 1, 2, 3, 4] rfl)
      have hf := if_f b3_2 hf
      by_cases b3_3 : ((xs x4.toNatClampNeg) &&& 15) = 3
      · have hf := if_t b3_3 hf
        refine lv_tableIn (tgt := 225) C.1 C.2.1 qd_L_39 (by rw [b3_3]; decide) (by rw [b3_3]; decide) (by rw [b3_3]; rfl) (by decide) ?_
        exact wL_225 K0 hAs hCE hcs (hK9 hin9) w x4 hx4 hf _ _ _ G (lv_sub hl [0, 1, 2, 3, 4] rfl)
      have hf := if_f b3_3 hf
      by_cases b3_4 : ((xs x4.toNatClampNeg) &&& 15) = 4
      · have hf := if_t b3_4 hf
        refine lv_tableIn (tgt := 253) C.1 C.2.1 qd_L_39 (by rw [b3_4]; decide) (by rw [b3_4]; decide) (by rw [b3_4]; rfl) (by decide) ?_
        exact wL_253 K0 hAs hCE hcs (hK9 hin9) w x4 hx4 hf _ _ _ G (lv_sub hl [0, 1, 2, 3, 4] rfl)
      have hf := if_f b3_4 hf
      by_cases b3_5 : ((xs x4.toNatClampNeg) &&& 15) = 5
      · have hf := if_t b3_5 hf
        refine lv_tableIn (tgt := 290) C.1 C.2.1 qd_L_39 (by rw [b3_5]; decide) (by rw [b3_5]; decide) (by rw [b3_5]; rfl) (by decide) ?_
        exact wL_290 K0 hAs hCE hcs (hK9 hin9) w x4 hx4 hf _ _ _ G (lv_sub hl [0, 1, 2, 3, 4] rfl)
      have hf := if_f b3_5 hf
      by_cases b3_6 : ((xs x4.toNatClampNeg) &&& 15) = 6
      · have hf := if_t b3_6 hf
        refine lv_tableIn (tgt := 318) C.1 C.2.1 qd_L_39 (by rw [b3_6]; decide) (by rw [b3_6]; decide) (by rw [b3_6]; rfl) (by decide) ?_
        exact wL_318 K0 hAs hCE hcs (hK9 hin9) w x4 hx4 hf _ _ _ G (lv_sub hl [0, 1, 2, 3, 4] rfl)
      have hf := if_f b3_6 hf
      by_cases b3_7 : ((xs x4.toNatClampNeg) &&& 15) = 7
      · have hf := if_t b3_7 hf
        refine lv_tableIn (tgt := 343) C.1 C.2.1 qd_L_39 (by rw [b3_7]; decide) (by rw [b3_7]; decide) (by rw [b3_7]; rfl) (by decide) ?_
        exact wL_343 K0 hAs hCE hcs0 (hK9 hin9) w x4 hx4 hf _ _ _ G (lv_sub hl [0, 1, 2, 3, 4] rfl)
      have hf := if_f b3_7 hf
      by_cases b3_8 : ((xs x4.toNatClampNeg) &&& 15) = 8
      · have hf := if_t b3_8 hf
        refine lv_tableIn (tgt := 356) C.1 C.2.1 qd_L_39 (by rw [b3_8]; decide) (by rw [b3_8]; decide) (by rw [b3_8]; rfl) (by decide) ?_
        exact wL_356 K0 hAs hCE hcs (hK9 hin9) w x4 hx4 hf _ _ _ G (lv_sub hl [0, 1, 2, 3, 4] rfl)
      have hf := if_f b3_8 hf
      by_cases b3_9 : ((xs x4.toNatClampNeg) &&& 15) = 9
      · have hf := if_t b3_9 hf
        refine lv_tableIn (tgt := 384) C.1 C.2.1 qd_L_39 (by rw [b3_9]; decide) (by rw [b3_9]; decide) (by rw [b3_9]; rfl) (by decide) ?_
        exact wL_384 K0 hAs hCE hcs (hK9 hin9) w x4 hx4 hf _ _ _ G (lv_sub hl [0, 1, 2, 3, 4] rfl)
      have hf := if_f b3_9 hf
      by_cases b3_10 : ((xs x4.toNatClampNeg) &&& 15) = 10
      · have hf := if_t b3_10 hf
        refine lv_tableIn (tgt := 480) C.1 C.2.1 qd_L_39 (by rw [b3_10]; decide) (by rw [b3_10]; decide) (by rw [b3_10]; rfl) (by decide) ?_
        exact wL_480 K0 hAs hCE hcs0 (hK9 hin9) w x4 hx4 hf _ _ _ G (lv_sub hl [0, 1, 2, 3, 4] rfl)
      have hf := if_f b3_10 hf
      cases hf
